theorem cl_54_f (G : jG) (a0 : Nat → Nat) (s : MS) : ([] : List Nat).filterMap (fun i => (wM G a0 s)[i]?) = ([] : va_W) := rfl
theorem cl_55_f (G : jG) (a0 : Nat → Nat) (s : MS) : ([0, 1, 2, 3, 4, 5, 6, 7, 8, 9, 10, 11, 12, 13, 14, 15, 16] : List Nat).filterMap (fun i => (wM G a0 s)[i]?) = (wM G a0 s) := rfl
theorem cl_56_s (G : jG) (a0 : Nat → Nat) (s : MS) : ([0, 1, 2, 3, 4, 5, 6, 7, 8, 9, 10, 11, 12, 13, 14, 15, 16] : List Nat).map (fun i => (wM G a0 s)[i]?) = (wM G a0 s).map some := rfl
theorem cl_56_m (G : jG) (a0 : Nat → Nat) (s : MS) (t0 : MS) : jmrg (wM G a0 s) [0, 1, 2, 3, 4, 5, 6, 7, 8, 9, 10, 11, 12, 13, 14, 15, 16] (wM G a0 t0) = wM G a0 t0 := rfl
theorem ok_X12_in : yX12_in.cls ≠ "java/lang/invoke/MethodHandle" ∧ yX12_in.cls ≠ "java/lang/invoke/VarHandle" ∧ (parseMethodDescriptor yX12_in.desc).map (fun d => d.parameters.length) = some 3 := ⟨by decide, by decide, by decide +kernel⟩
def f_X12_in (v0 : Int64) (v2 : Int64) (v4 : Int64) : Option (Int32) :=
   if (lg_cmp v0 v2) < 0 then
   jzb (0 : Int32) (
    some (0 : Int32))
  else
   if 0 < (lg_cmp v0 v4) then
    jzb (0 : Int32) (
     some (0 : Int32))
   else
    jzb (1 : Int32) (
     some (1 : Int32))
set_option maxRecDepth 100000 in
set_option maxHeartbeats 4000000 in
theorem b_X12_in {E : jE}  {res : Int32} (K : jC E cX12_in 6 RX12 0) (HR : jRZ E cX12_in 6 ([] : va_W) res) : ∀ (v0 : Int64) (v2 : Int64) (v4 : Int64), f_X12_in v0 v2 v4 = some res → J E 6 ([] : va_W) 0 [(0, .long v0), (2, .long v2), (4, .long v4)] [] := by
  intro v0 v2 v4 h
  unfold f_X12_in at h
  refine j_lload_n (pc' := 1) K dX12_in_0 rfl 0 rfl rfl ?_
  refine j_lload_n (pc' := 2) K dX12_in_1 rfl 1 rfl rfl ?_
  refine j_lcmp (pc' := 3) K dX12_in_2 rfl ?_
  refine j_if_lt (pc' := 6) (tgt := 17) K dX12_in_3 (by decide) rfl (fun hc => ?_) (fun hc => ?_)
  · have h := jit hc h
    refine j_iconst (pc' := 18) (v := (0 : Int32)) K dX12_in_17 (by decide) rfl ?_
    obtain ⟨hg, h⟩ := jzb_some h
    obtain rfl := Option.some.inj h
    exact HR _ _ hg dX12_in_18
  · have h := jif hc h
    refine j_lload_n (pc' := 7) K dX12_in_6 rfl 0 rfl rfl ?_
    refine j_lload (pc' := 9) K dX12_in_7 2 rfl rfl ?_
    refine j_lcmp (pc' := 10) K dX12_in_9 rfl ?_
    refine j_if_gt (pc' := 13) (tgt := 17) K dX12_in_10 (by decide) rfl (fun hc => ?_) (fun hc => ?_)
    · have h := jit hc h
      refine j_iconst (pc' := 18) (v := (0 : Int32)) K dX12_in_17 (by decide) rfl ?_
      obtain ⟨hg, h⟩ := jzb_some h
      obtain rfl := Option.some.inj h
      exact HR _ _ hg dX12_in_18
    · have h := jif hc h
      refine j_iconst (pc' := 14) (v := (1 : Int32)) K dX12_in_13 (by decide) rfl ?_
      refine j_goto (tgt := 18) K dX12_in_14 (by decide) ?_
      obtain ⟨hg, h⟩ := jzb_some h
      obtain rfl := Option.some.inj h
      exact HR _ _ hg dX12_in_18
set_option maxRecDepth 100000 in
set_option maxHeartbeats 4000000 in
theorem M_X12_in (l : Launch) (G : jG)  (v0 : Int64) (v2 : Int64) (v4 : Int64) {r : Int32} (h : f_X12_in v0 v2 v4 = some r) : MC l yX12_in cX12_in 6 (some .boolean) 0 G jNo False ([] : va_W) ([] : va_W) [.long v0, .long v2, .long v4] (some (.int r)) := by
  refine mc_bool (by decide +kernel) (Nat.le_of_ble_eq_true rfl) fun E hl hg hA hrw K HR => ?_
  subst hl
  subst hg
  exact b_X12_in K HR v0 v2 v4 h
theorem ok_X12_at : yX12_at.cls ≠ "java/lang/invoke/MethodHandle" ∧ yX12_at.cls ≠ "java/lang/invoke/VarHandle" ∧ (parseMethodDescriptor yX12_at.desc).map (fun d => d.parameters.length) = some 3 := ⟨by decide, by decide, by decide +kernel⟩
def f_X12_at (v0 : Int32) (v1 : Int32) (v2 : Int32) : Option (Int32) :=
   some ((((325 : Int32) * v0) + ((v1 * (v1 + (1 : Int32))) / (2 : Int32))) + v2)
set_option maxRecDepth 100000 in
set_option maxHeartbeats 4000000 in
theorem b_X12_at {E : jE}  {res : Int32} (K : jC E cX12_at 3 RX12 0) (HR : jRI E cX12_at 3 ([] : va_W) res) : ∀ (v0 : Int32) (v1 : Int32) (v2 : Int32), f_X12_at v0 v1 v2 = some res → J E 3 ([] : va_W) 0 [(0, .int v0), (1, .int v1), (2, .int v2)] [] := by
  intro v0 v1 v2 h
  unfold f_X12_at at h
  refine j_sipush (pc' := 3) (v := (325 : Int32)) K dX12_at_0 (by decide) rfl ?_
  refine j_iload_n (pc' := 4) K dX12_at_3 rfl 0 rfl rfl ?_
  refine j_imul (pc' := 5) K dX12_at_4 rfl ?_
  refine j_iload_n (pc' := 6) K dX12_at_5 rfl 1 rfl rfl ?_
  refine j_iload_n (pc' := 7) K dX12_at_6 rfl 1 rfl rfl ?_
  refine j_iconst (pc' := 8) (v := (1 : Int32)) K dX12_at_7 (by decide) rfl ?_
  refine j_iadd (pc' := 9) K dX12_at_8 rfl ?_
  refine j_imul (pc' := 10) K dX12_at_9 rfl ?_
  refine j_iconst (pc' := 11) (v := (2 : Int32)) K dX12_at_10 (by decide) rfl ?_
  refine j_idiv (pc' := 12) K dX12_at_11 (by decide) rfl ?_
  refine j_iadd (pc' := 13) K dX12_at_12 rfl ?_
  refine j_iload_n (pc' := 14) K dX12_at_13 rfl 2 rfl rfl ?_
  refine j_iadd (pc' := 15) K dX12_at_14 rfl ?_
  obtain rfl := Option.some.inj h
  exact HR _ _ dX12_at_15
set_option maxRecDepth 100000 in
set_option maxHeartbeats 4000000 in
theorem M_X12_at (l : Launch) (G : jG)  (v0 : Int32) (v1 : Int32) (v2 : Int32) {r : Int32} (h : f_X12_at v0 v1 v2 = some r) : MC l yX12_at cX12_at 3 (some .int) 0 G jNo False ([] : va_W) ([] : va_W) [.int v0, .int v1, .int v2] (some (.int r)) := by
  refine mc_int (by decide +kernel) (Nat.le_of_ble_eq_true rfl) fun E hl hg hA hrw K HR => ?_
  subst hl
  subst hg
  exact b_X12_at K HR v0 v1 v2 h
theorem ok_X12_isBeyond : yX12_isBeyond.cls ≠ "java/lang/invoke/MethodHandle" ∧ yX12_isBeyond.cls ≠ "java/lang/invoke/VarHandle" ∧ (parseMethodDescriptor yX12_isBeyond.desc).map (fun d => d.parameters.length) = some 1 := ⟨by decide, by decide, by decide +kernel⟩
def f_X12_isBeyond_16  : Option (Int32) :=
   jzb (1 : Int32) (
   some (1 : Int32))
def f_X12_isBeyond (v0 : Int64) : Option (Int32) :=
   if 0 < (lg_cmp v0 (100000000000000000 : Int64)) then
   f_X12_isBeyond_16
  else
   if 0 ≤ (lg_cmp v0 (-100000000000000000 : Int64)) then
    jzb (0 : Int32) (
     some (0 : Int32))
   else
    f_X12_isBeyond_16
set_option maxRecDepth 100000 in
set_option maxHeartbeats 4000000 in
theorem b_X12_isBeyond_16 {E : jE}  {res : Int32} (K : jC E cX12_isBeyond 2 RX12 0) (HR : jRZ E cX12_isBeyond 2 ([] : va_W) res) : f_X12_isBeyond_16 = some res → J E 2 ([] : va_W) 16 [] [] := by
  intro  h
  unfold f_X12_isBeyond_16 at h
  refine j_iconst (pc' := 17) (v := (1 : Int32)) K dX12_isBeyond_16 (by decide) rfl ?_
  refine j_goto (tgt := 21) K dX12_isBeyond_17 (by decide) ?_
  obtain ⟨hg, h⟩ := jzb_some h
  obtain rfl := Option.some.inj h
  exact HR _ _ hg dX12_isBeyond_21
set_option maxRecDepth 100000 in
set_option maxHeartbeats 4000000 in
theorem b_X12_isBeyond {E : jE}  {res : Int32} (K : jC E cX12_isBeyond 2 RX12 0) (HR : jRZ E cX12_isBeyond 2 ([] : va_W) res) : ∀ (v0 : Int64), f_X12_isBeyond v0 = some res → J E 2 ([] : va_W) 0 [(0, .long v0)] [] := by
  intro v0 h
  unfold f_X12_isBeyond at h
  refine j_lload_n (pc' := 1) K dX12_isBeyond_0 rfl 0 rfl rfl ?_
  refine j_ldc2 (pc' := 4) K dX12_isBeyond_1 u_4_165 rfl ?_
  refine j_lcmp (pc' := 5) K dX12_isBeyond_4 rfl ?_
  refine j_if_gt (pc' := 8) (tgt := 16) K dX12_isBeyond_5 (by decide) rfl (fun hc => ?_) (fun hc => ?_)
  · have h := jit hc h
    refine j_sub [] rfl ?_
    exact b_X12_isBeyond_16 K HR h
  · have h := jif hc h
    refine j_lload_n (pc' := 9) K dX12_isBeyond_8 rfl 0 rfl rfl ?_
    refine j_ldc2 (pc' := 12) K dX12_isBeyond_9 u_4_169 rfl ?_
    refine j_lcmp (pc' := 13) K dX12_isBeyond_12 rfl ?_
    refine j_if_ge (pc' := 16) (tgt := 20) K dX12_isBeyond_13 (by decide) rfl (fun hc => ?_) (fun hc => ?_)
    · have h := jit hc h
      refine j_iconst (pc' := 21) (v := (0 : Int32)) K dX12_isBeyond_20 (by decide) rfl ?_
      obtain ⟨hg, h⟩ := jzb_some h
      obtain rfl := Option.some.inj h
      exact HR _ _ hg dX12_isBeyond_21
    · have h := jif hc h
      refine j_sub [] rfl ?_
      exact b_X12_isBeyond_16 K HR h
set_option maxRecDepth 100000 in
set_option maxHeartbeats 4000000 in
theorem M_X12_isBeyond (l : Launch) (G : jG)  (v0 : Int64) {r : Int32} (h : f_X12_isBeyond v0 = some r) : MC l yX12_isBeyond cX12_isBeyond 2 (some .boolean) 0 G jNo False ([] : va_W) ([] : va_W) [.long v0] (some (.int r)) := by
  refine mc_bool (by decide +kernel) (Nat.le_of_ble_eq_true rfl) fun E hl hg hA hrw K HR => ?_
  subst hl
  subst hg
  exact b_X12_isBeyond K HR v0 h
theorem ok_X12_size : yX12_size.cls ≠ "java/lang/invoke/MethodHandle" ∧ yX12_size.cls ≠ "java/lang/invoke/VarHandle" ∧ (parseMethodDescriptor yX12_size.desc).map (fun d => d.parameters.length) = some 1 := ⟨by decide, by decide, by decide +kernel⟩
def f_X12_size (v0 : Int64) : Option (Int64) :=
   if 0 ≤ (lg_cmp v0 (0 : Int64)) then
   some v0
  else
   some (-v0)
set_option maxRecDepth 100000 in
set_option maxHeartbeats 4000000 in
theorem b_X12_size {E : jE}  {res : Int64} (K : jC E cX12_size 2 RX12 0) (HR : jRL E cX12_size 2 ([] : va_W) res) : ∀ (v0 : Int64), f_X12_size v0 = some res → J E 2 ([] : va_W) 0 [(0, .long v0)] [] := by
  intro v0 h
  unfold f_X12_size at h
  refine j_lload_n (pc' := 1) K dX12_size_0 rfl 0 rfl rfl ?_
  refine j_lconst (pc' := 2) (v := (0 : Int64)) K dX12_size_1 (by decide) rfl ?_
  refine j_lcmp (pc' := 3) K dX12_size_2 rfl ?_
  refine j_if_ge (pc' := 6) (tgt := 11) K dX12_size_3 (by decide) rfl (fun hc => ?_) (fun hc => ?_)
  · have h := jit hc h
    refine j_lload_n (pc' := 12) K dX12_size_11 rfl 0 rfl rfl ?_
    obtain rfl := Option.some.inj h
    exact HR _ _ dX12_size_12
  · have h := jif hc h
    refine j_lload_n (pc' := 7) K dX12_size_6 rfl 0 rfl rfl ?_
    refine j_lneg (pc' := 8) K dX12_size_7 rfl ?_
    refine j_goto (tgt := 12) K dX12_size_8 (by decide) ?_
    obtain rfl := Option.some.inj h
    exact HR _ _ dX12_size_12
set_option maxRecDepth 100000 in
set_option maxHeartbeats 4000000 in
theorem M_X12_size (l : Launch) (G : jG)  (v0 : Int64) {r : Int64} (h : f_X12_size v0 = some r) : MC l yX12_size cX12_size 2 (some .long) 0 G jNo False ([] : va_W) ([] : va_W) [.long v0] (some (.long r)) := by
  refine mc_long (by decide +kernel) (Nat.le_of_ble_eq_true rfl) fun E hl hg hA hrw K HR => ?_
  subst hl
  subst hg
  exact b_X12_size K HR v0 h
theorem ok_X12_steps : yX12_steps.cls ≠ "java/lang/invoke/MethodHandle" ∧ yX12_steps.cls ≠ "java/lang/invoke/VarHandle" ∧ (parseMethodDescriptor yX12_steps.desc).map (fun d => d.parameters.length) = some 1 := ⟨by decide, by decide, by decide +kernel⟩
def f_X12_steps_4 : Nat → Int32 → Int64 → Int32 → Option (Int64)
  | 0, _, _, _ => none
  | n + 1, v0, v1, v3 =>
   if v0 < v3 then
   some v1
  else
   (f_X12_steps_4 n) v0 (v1 * (Int32.toInt64 v3)) (v3 + (1 : Int32))
def f_X12_steps (v0 : Int32) : Option (Int64) :=
   f_X12_steps_4 jFU v0 (1 : Int64) (2 : Int32)
set_option maxRecDepth 100000 in
set_option maxHeartbeats 4000000 in
theorem b_X12_steps_4 {E : jE}  {res : Int64} (K : jC E cX12_steps 4 RX12 0) (HR : jRL E cX12_steps 4 ([] : va_W) res) : ∀ (n : Nat) (v0 : Int32) (v1 : Int64) (v3 : Int32), f_X12_steps_4 n v0 v1 v3 = some res → J E 4 ([] : va_W) 4 [(0, .int v0), (1, .long v1), (3, .int v3)] [] := by
  intro n
  induction n with
  | zero => intro _ _ _ h; cases h
  | succ n ih =>
    intro v0 v1 v3 h
    rw [f_X12_steps_4] at h
    refine j_iload_n (pc' := 5) K dX12_steps_4 rfl 2 rfl rfl ?_
    refine j_iload_n (pc' := 6) K dX12_steps_5 rfl 0 rfl rfl ?_
    refine j_icmp_gt (pc' := 9) (tgt := 20) K dX12_steps_6 (by decide) rfl (fun hc => ?_) (fun hc => ?_)
    · have h := jit hc h
      refine j_lload_n (pc' := 21) K dX12_steps_20 rfl 1 rfl rfl ?_
      obtain rfl := Option.some.inj h
      exact HR _ _ dX12_steps_21
    · have h := jif hc h
      refine j_lload_n (pc' := 10) K dX12_steps_9 rfl 1 rfl rfl ?_
      refine j_iload_n (pc' := 11) K dX12_steps_10 rfl 2 rfl rfl ?_
      refine j_i2l (pc' := 12) K dX12_steps_11 rfl ?_
      refine j_lmul (pc' := 13) K dX12_steps_12 rfl ?_
      refine j_lstore_n (pc' := 14) (lv' := [(1, .long (v1 * (Int32.toInt64 v3))), (0, .int v0), (3, .int v3)]) K dX12_steps_13 rfl (by decide) rfl rfl ?_
      refine j_iinc (pc' := 17) (j := 2) (v := (v3 + (1 : Int32))) (lv' := [(3, .int (v3 + (1 : Int32))), (1, .long (v1 * (Int32.toInt64 v3))), (0, .int v0)]) K dX12_steps_14 rfl rfl (by decide) rfl rfl ?_
      refine j_goto (tgt := 4) K dX12_steps_17 (by decide) ?_
      refine j_sub [2, 1, 0] rfl ?_
      exact ih v0 (v1 * (Int32.toInt64 v3)) (v3 + (1 : Int32)) h
set_option maxRecDepth 100000 in
set_option maxHeartbeats 4000000 in
theorem b_X12_steps {E : jE}  {res : Int64} (K : jC E cX12_steps 4 RX12 0) (HR : jRL E cX12_steps 4 ([] : va_W) res) : ∀ (v0 : Int32), f_X12_steps v0 = some res → J E 4 ([] : va_W) 0 [(0, .int v0)] [] := by
  intro v0 h
  unfold f_X12_steps at h
  refine j_lconst (pc' := 1) (v := (1 : Int64)) K dX12_steps_0 (by decide) rfl ?_
  refine j_lstore_n (pc' := 2) (lv' := [(1, .long (1 : Int64)), (0, .int v0)]) K dX12_steps_1 rfl (by decide) rfl rfl ?_
  refine j_iconst (pc' := 3) (v := (2 : Int32)) K dX12_steps_2 (by decide) rfl ?_
  refine j_istore_n (pc' := 4) (lv' := [(3, .int (2 : Int32)), (1, .long (1 : Int64)), (0, .int v0)]) K dX12_steps_3 rfl (by decide) rfl rfl ?_
  refine j_sub [2, 1, 0] rfl ?_
  exact b_X12_steps_4 K HR jFU v0 (1 : Int64) (2 : Int32) h
set_option maxRecDepth 100000 in
set_option maxHeartbeats 4000000 in
theorem M_X12_steps (l : Launch) (G : jG)  (v0 : Int32) {r : Int64} (h : f_X12_steps v0 = some r) : MC l yX12_steps cX12_steps 4 (some .long) 0 G jNo False ([] : va_W) ([] : va_W) [.int v0] (some (.long r)) := by
  refine mc_long (by decide +kernel) (Nat.le_of_ble_eq_true rfl) fun E hl hg hA hrw K HR => ?_
  subst hl
  subst hg
  exact b_X12_steps K HR v0 h
theorem ok_X12_isTooMuch : yX12_isTooMuch.cls ≠ "java/lang/invoke/MethodHandle" ∧ yX12_isTooMuch.cls ≠ "java/lang/invoke/VarHandle" ∧ (parseMethodDescriptor yX12_isTooMuch.desc).map (fun d => d.parameters.length) = some 2 := ⟨by decide, by decide, by decide +kernel⟩
def f_X12_isTooMuch (v0 : Int64) (v2 : Int64) : Option (Int32) :=
   if (lg_cmp v0 (0 : Int64)) = 0 then
   jzb (0 : Int32) (
    some (0 : Int32))
  else
   if (lg_cmp v2 (0 : Int64)) = 0 then
    jzb (0 : Int32) (
     some (0 : Int32))
   else
    jbd (f_X12_size v2) (fun r13 =>
     jbd (f_X12_size v0) (fun r20 =>
      jnzl r20 (
       if (lg_cmp r13 ((100000000000000000 : Int64) / r20)) ≤ 0 then
        jzb (0 : Int32) (
         some (0 : Int32))
       else
        jzb (1 : Int32) (
         some (1 : Int32)))))
set_option maxRecDepth 100000 in
set_option maxHeartbeats 4000000 in
theorem b_X12_isTooMuch {E : jE}  {res : Int32} (K : jC E cX12_isTooMuch 4 RX12 1) (HR : jRZ E cX12_isTooMuch 4 ([] : va_W) res) : ∀ (v0 : Int64) (v2 : Int64), f_X12_isTooMuch v0 v2 = some res → J E 4 ([] : va_W) 0 [(0, .long v0), (2, .long v2)] [] := by
  intro v0 v2 h
  unfold f_X12_isTooMuch at h
  refine j_lload_n (pc' := 1) K dX12_isTooMuch_0 rfl 0 rfl rfl ?_
  refine j_lconst (pc' := 2) (v := (0 : Int64)) K dX12_isTooMuch_1 (by decide) rfl ?_
  refine j_lcmp (pc' := 3) K dX12_isTooMuch_2 rfl ?_
  refine j_if_eq (pc' := 6) (tgt := 32) K dX12_isTooMuch_3 (by decide) rfl (fun hc => ?_) (fun hc => ?_)
  · have h := jit hc h
    refine j_iconst (pc' := 33) (v := (0 : Int32)) K dX12_isTooMuch_32 (by decide) rfl ?_
    obtain ⟨hg, h⟩ := jzb_some h
    obtain rfl := Option.some.inj h
    exact HR _ _ hg dX12_isTooMuch_33
  · have h := jif hc h
    refine j_lload_n (pc' := 7) K dX12_isTooMuch_6 rfl 1 rfl rfl ?_
    refine j_lconst (pc' := 8) (v := (0 : Int64)) K dX12_isTooMuch_7 (by decide) rfl ?_
    refine j_lcmp (pc' := 9) K dX12_isTooMuch_8 rfl ?_
    refine j_if_eq (pc' := 12) (tgt := 32) K dX12_isTooMuch_9 (by decide) rfl (fun hc => ?_) (fun hc => ?_)
    · have h := jit hc h
      refine j_iconst (pc' := 33) (v := (0 : Int32)) K dX12_isTooMuch_32 (by decide) rfl ?_
      obtain ⟨hg, h⟩ := jzb_some h
      obtain rfl := Option.some.inj h
      exact HR _ _ hg dX12_isTooMuch_33
    · have h := jif hc h
      refine j_lload_n (pc' := 13) K dX12_isTooMuch_12 rfl 1 rfl rfl ?_
      obtain ⟨r13, hr13, h⟩ := jbd_some h
      refine j_ro (pc' := 16) K (fun H hP => jrun_S K dX12_isTooMuch_13 (M_X12_size (jl E) (jg E) v2 hr13) u_4_164 u_4_162 u_4_163 u_1_13 ⟨ok_X12_size, by decide, by decide⟩ rfl (Nat.le_of_ble_eq_true rfl) H) [] rfl rfl ?_
      refine j_ldc2 (pc' := 19) K dX12_isTooMuch_16 u_4_165 rfl ?_
      refine j_lload_n (pc' := 20) K dX12_isTooMuch_19 rfl 0 rfl rfl ?_
      obtain ⟨r20, hr20, h⟩ := jbd_some h
      refine j_ro (pc' := 23) K (fun H hP => jrun_S K dX12_isTooMuch_20 (M_X12_size (jl E) (jg E) v0 hr20) u_4_164 u_4_162 u_4_163 u_1_13 ⟨ok_X12_size, by decide, by decide⟩ rfl (Nat.le_of_ble_eq_true rfl) H) [] rfl rfl ?_
      obtain ⟨hg, h⟩ := jnzl_some h
      refine j_ldiv (pc' := 24) K dX12_isTooMuch_23 hg rfl ?_
      refine j_lcmp (pc' := 25) K dX12_isTooMuch_24 rfl ?_
      refine j_if_le (pc' := 28) (tgt := 32) K dX12_isTooMuch_25 (by decide) rfl (fun hc => ?_) (fun hc => ?_)
      · have h := jit hc h
        refine j_iconst (pc' := 33) (v := (0 : Int32)) K dX12_isTooMuch_32 (by decide) rfl ?_
        obtain ⟨hg, h⟩ := jzb_some h
        obtain rfl := Option.some.inj h
        exact HR _ _ hg dX12_isTooMuch_33
      · have h := jif hc h
        refine j_iconst (pc' := 29) (v := (1 : Int32)) K dX12_isTooMuch_28 (by decide) rfl ?_
        refine j_goto (tgt := 33) K dX12_isTooMuch_29 (by decide) ?_
        obtain ⟨hg, h⟩ := jzb_some h
        obtain rfl := Option.some.inj h
        exact HR _ _ hg dX12_isTooMuch_33
set_option maxRecDepth 100000 in
set_option maxHeartbeats 4000000 in
theorem M_X12_isTooMuch (l : Launch) (G : jG)  (v0 : Int64) (v2 : Int64) {r : Int32} (h : f_X12_isTooMuch v0 v2 = some r) : MC l yX12_isTooMuch cX12_isTooMuch 4 (some .boolean) 1 G jNo False ([] : va_W) ([] : va_W) [.long v0, .long v2] (some (.int r)) := by
  refine mc_bool (by decide +kernel) (Nat.le_of_ble_eq_true rfl) fun E hl hg hA hrw K HR => ?_
  subst hl
  subst hg
  exact b_X12_isTooMuch K HR v0 v2 h
theorem ok_X12_isLaw : yX12_isLaw.cls ≠ "java/lang/invoke/MethodHandle" ∧ yX12_isLaw.cls ≠ "java/lang/invoke/VarHandle" ∧ (parseMethodDescriptor yX12_isLaw.desc).map (fun d => d.parameters.length) = some 1 := ⟨by decide, by decide, by decide +kernel⟩
def f_X12_isLaw (v0 : Int32) : Option (Int32) :=
   jbd (f_X12_in (Int32.toInt64 v0) (0 : Int64) (3 : Int64)) (fun r6 =>
   jzb r6 (
    some r6))
set_option maxRecDepth 100000 in
set_option maxHeartbeats 4000000 in
theorem b_X12_isLaw {E : jE}  {res : Int32} (K : jC E cX12_isLaw 1 RX12 1) (HR : jRZ E cX12_isLaw 1 ([] : va_W) res) : ∀ (v0 : Int32), f_X12_isLaw v0 = some res → J E 1 ([] : va_W) 0 [(0, .int v0)] [] := by
  intro v0 h
  unfold f_X12_isLaw at h
  refine j_iload_n (pc' := 1) K dX12_isLaw_0 rfl 0 rfl rfl ?_
  refine j_i2l (pc' := 2) K dX12_isLaw_1 rfl ?_
  refine j_lconst (pc' := 3) (v := (0 : Int64)) K dX12_isLaw_2 (by decide) rfl ?_
  refine j_ldc2 (pc' := 6) K dX12_isLaw_3 u_4_141 rfl ?_
  obtain ⟨r6, hr6, h⟩ := jbd_some h
  refine j_ro (pc' := 9) K (fun H hP => jrun_S K dX12_isLaw_6 (M_X12_in (jl E) (jg E) (Int32.toInt64 v0) (0 : Int64) (3 : Int64) hr6) u_4_107 u_4_105 u_4_106 u_1_13 ⟨ok_X12_in, by decide, by decide⟩ rfl (Nat.le_of_ble_eq_true rfl) H) [] rfl rfl ?_
  obtain ⟨hg, h⟩ := jzb_some h
  obtain rfl := Option.some.inj h
  exact HR _ _ hg dX12_isLaw_9
set_option maxRecDepth 100000 in
set_option maxHeartbeats 4000000 in
theorem M_X12_isLaw (l : Launch) (G : jG)  (v0 : Int32) {r : Int32} (h : f_X12_isLaw v0 = some r) : MC l yX12_isLaw cX12_isLaw 1 (some .boolean) 1 G jNo False ([] : va_W) ([] : va_W) [.int v0] (some (.int r)) := by
  refine mc_bool (by decide +kernel) (Nat.le_of_ble_eq_true rfl) fun E hl hg hA hrw K HR => ?_
  subst hl
  subst hg
  exact b_X12_isLaw K HR v0 h
theorem ok_X12_isSize : yX12_isSize.cls ≠ "java/lang/invoke/MethodHandle" ∧ yX12_isSize.cls ≠ "java/lang/invoke/VarHandle" ∧ (parseMethodDescriptor yX12_isSize.desc).map (fun d => d.parameters.length) = some 1 := ⟨by decide, by decide, by decide +kernel⟩
def f_X12_isSize (v0 : Int32) : Option (Int32) :=
   jbd (f_X12_in (Int32.toInt64 v0) (1 : Int64) (8 : Int64)) (fun r6 =>
   jzb r6 (
    some r6))
set_option maxRecDepth 100000 in
set_option maxHeartbeats 4000000 in
theorem b_X12_isSize {E : jE}  {res : Int32} (K : jC E cX12_isSize 1 RX12 1) (HR : jRZ E cX12_isSize 1 ([] : va_W) res) : ∀ (v0 : Int32), f_X12_isSize v0 = some res → J E 1 ([] : va_W) 0 [(0, .int v0)] [] := by
  intro v0 h
  unfold f_X12_isSize at h
  refine j_iload_n (pc' := 1) K dX12_isSize_0 rfl 0 rfl rfl ?_
  refine j_i2l (pc' := 2) K dX12_isSize_1 rfl ?_
  refine j_lconst (pc' := 3) (v := (1 : Int64)) K dX12_isSize_2 (by decide) rfl ?_
  refine j_ldc2 (pc' := 6) K dX12_isSize_3 u_4_104 rfl ?_
  obtain ⟨r6, hr6, h⟩ := jbd_some h
  refine j_ro (pc' := 9) K (fun H hP => jrun_S K dX12_isSize_6 (M_X12_in (jl E) (jg E) (Int32.toInt64 v0) (1 : Int64) (8 : Int64) hr6) u_4_107 u_4_105 u_4_106 u_1_13 ⟨ok_X12_in, by decide, by decide⟩ rfl (Nat.le_of_ble_eq_true rfl) H) [] rfl rfl ?_
  obtain ⟨hg, h⟩ := jzb_some h
  obtain rfl := Option.some.inj h
  exact HR _ _ hg dX12_isSize_9
set_option maxRecDepth 100000 in
set_option maxHeartbeats 4000000 in
theorem M_X12_isSize (l : Launch) (G : jG)  (v0 : Int32) {r : Int32} (h : f_X12_isSize v0 = some r) : MC l yX12_isSize cX12_isSize 1 (some .boolean) 1 G jNo False ([] : va_W) ([] : va_W) [.int v0] (some (.int r)) := by
  refine mc_bool (by decide +kernel) (Nat.le_of_ble_eq_true rfl) fun E hl hg hA hrw K HR => ?_
  subst hl
  subst hg
  exact b_X12_isSize K HR v0 h
theorem ok_X12_isPolynomial : yX12_isPolynomial.cls ≠ "java/lang/invoke/MethodHandle" ∧ yX12_isPolynomial.cls ≠ "java/lang/invoke/VarHandle" ∧ (parseMethodDescriptor yX12_isPolynomial.desc).map (fun d => d.parameters.length) = some 1 := ⟨by decide, by decide, by decide +kernel⟩
def f_X12_isPolynomial (v0 : Int32) : Option (Int32) :=
   jbd (f_X12_in (Int32.toInt64 v0) (0 : Int64) (3 : Int64)) (fun r6 =>
   jzb r6 (
    some r6))
set_option maxRecDepth 100000 in
set_option maxHeartbeats 4000000 in
theorem b_X12_isPolynomial {E : jE}  {res : Int32} (K : jC E cX12_isPolynomial 1 RX12 1) (HR : jRZ E cX12_isPolynomial 1 ([] : va_W) res) : ∀ (v0 : Int32), f_X12_isPolynomial v0 = some res → J E 1 ([] : va_W) 0 [(0, .int v0)] [] := by
  intro v0 h
  unfold f_X12_isPolynomial at h
  refine j_iload_n (pc' := 1) K dX12_isPolynomial_0 rfl 0 rfl rfl ?_
  refine j_i2l (pc' := 2) K dX12_isPolynomial_1 rfl ?_
  refine j_lconst (pc' := 3) (v := (0 : Int64)) K dX12_isPolynomial_2 (by decide) rfl ?_
  refine j_ldc2 (pc' := 6) K dX12_isPolynomial_3 u_4_141 rfl ?_
  obtain ⟨r6, hr6, h⟩ := jbd_some h
  refine j_ro (pc' := 9) K (fun H hP => jrun_S K dX12_isPolynomial_6 (M_X12_in (jl E) (jg E) (Int32.toInt64 v0) (0 : Int64) (3 : Int64) hr6) u_4_107 u_4_105 u_4_106 u_1_13 ⟨ok_X12_in, by decide, by decide⟩ rfl (Nat.le_of_ble_eq_true rfl) H) [] rfl rfl ?_
  obtain ⟨hg, h⟩ := jzb_some h
  obtain rfl := Option.some.inj h
  exact HR _ _ hg dX12_isPolynomial_9
set_option maxRecDepth 100000 in
set_option maxHeartbeats 4000000 in
theorem M_X12_isPolynomial (l : Launch) (G : jG)  (v0 : Int32) {r : Int32} (h : f_X12_isPolynomial v0 = some r) : MC l yX12_isPolynomial cX12_isPolynomial 1 (some .boolean) 1 G jNo False ([] : va_W) ([] : va_W) [.int v0] (some (.int r)) := by
  refine mc_bool (by decide +kernel) (Nat.le_of_ble_eq_true rfl) fun E hl hg hA hrw K HR => ?_
  subst hl
  subst hg
  exact b_X12_isPolynomial K HR v0 h
theorem ok_X12_write : yX12_write.cls ≠ "java/lang/invoke/MethodHandle" ∧ yX12_write.cls ≠ "java/lang/invoke/VarHandle" ∧ (parseMethodDescriptor yX12_write.desc).map (fun d => d.parameters.length) = some 2 := ⟨by decide, by decide, by decide +kernel⟩
def f_X12_write_71 (v1 : Int32) (s0 : MS) : Option (Int32 × MS) :=
   some ((M_bytes (M_bytes_s s0 ((M_bytes s0) + v1))), (M_bytes_s s0 ((M_bytes s0) + v1)))
def f_X12_write_31 : Nat → Int32 → Int64 → Int32 → MS → Option (Int32 × MS)
  | 0, _, _, _, _ => none
  | n + 1, v1, v2, v4, s0 =>
   if v1 ≤ v4 then
   f_X12_write_71 v1 s0
  else
   jgd ((M_bytes s0) + v4) 120 (
    (f_X12_write_31 n) v1 v2 (v4 + (1 : Int32)) (M_text_s s0 (upd (M_text s0) (Int32.toNatClampNeg ((M_bytes s0) + v4)) (Int64.toInt32 ((v2 >>> (Int32.toInt64 ((8 : Int32) * ((v1 - (1 : Int32)) - v4)) &&& 63)) &&& (255 : Int64))))))
def f_X12_write (v1 : Int32) (v2 : Int64) (s0 : MS) : Option (Int32 × MS) :=
   jbd (f_X12_in (Int32.toInt64 v1) (1 : Int64) (8 : Int64)) (fun r6 =>
   if r6 = 0 then
    some ((-1 : Int32), s0)
   else
    if ((M_bytes s0) + v1) ≤ (120 : Int32) then
     f_X12_write_31 jFU v1 v2 (0 : Int32) s0
    else
     some ((-3 : Int32), s0))
set_option maxRecDepth 100000 in
set_option maxHeartbeats 4000000 in
theorem b_X12_write_71 {E : jE} (a0 : Nat → Nat) {res : Int32 × MS} (K : jC E cX12_write 5 RX12 1) (hrw : jrw E) (HR : jRI E cX12_write 5 (wM (jg E) a0 (res.2)) (res.1)) : ∀ (v1 : Int32) (s0 : MS), f_X12_write_71 v1 s0 = some res → J E 5 (wM (jg E) a0 s0) 71 [(0, .ref (a0 0)), (1, .int v1)] [] := by
  intro v1 s0 h
  unfold f_X12_write_71 at h
  refine j_aload_n (pc' := 72) K dX12_write_71 rfl 0 rfl rfl ?_
  refine j_dup (pc' := 73) K dX12_write_72 rfl rfl ?_
  refine j_get (pc' := 76) K dX12_write_73 inX12 0 rfl rfl 0 (by decide) u_4_35 rfl rfl rfl ?_
  refine j_iload_n (pc' := 77) K dX12_write_76 rfl 1 rfl rfl ?_
  refine j_iadd (pc' := 78) K dX12_write_77 rfl ?_
  refine j_put (pc' := 81) (ws' := (wM (jg E) a0 (M_bytes_s s0 ((M_bytes s0) + v1)))) K dX12_write_78 hrw inX12 tyX12 tyX12_ok nmX12 0 rfl rfl 0 (by decide) u_4_35 rfl rfl rfl rfl (Nat.le_of_ble_eq_true rfl) (st_M_0_0 ..) rfl ?_
  refine j_aload_n (pc' := 82) K dX12_write_81 rfl 0 rfl rfl ?_
  refine j_get (pc' := 85) K dX12_write_82 inX12 0 rfl rfl 0 (by decide) u_4_35 rfl rfl rfl ?_
  obtain rfl := Option.some.inj h
  exact HR _ _ dX12_write_85
set_option maxRecDepth 100000 in
set_option maxHeartbeats 4000000 in
theorem b_X12_write_31 {E : jE} (a0 : Nat → Nat) {res : Int32 × MS} (K : jC E cX12_write 5 RX12 1) (hrw : jrw E) (HR : jRI E cX12_write 5 (wM (jg E) a0 (res.2)) (res.1)) : ∀ (n : Nat) (v1 : Int32) (v2 : Int64) (v4 : Int32) (s0 : MS), f_X12_write_31 n v1 v2 v4 s0 = some res → J E 5 (wM (jg E) a0 s0) 31 [(0, .ref (a0 0)), (1, .int v1), (2, .long v2), (4, .int v4)] [] := by
  intro n
  induction n with
  | zero => intro _ _ _ _ h; cases h
  | succ n ih =>
    intro v1 v2 v4 s0 h
    rw [f_X12_write_31] at h
    refine j_iload (pc' := 33) K dX12_write_31 3 rfl rfl ?_
    refine j_iload_n (pc' := 34) K dX12_write_33 rfl 1 rfl rfl ?_
    refine j_icmp_ge (pc' := 37) (tgt := 71) K dX12_write_34 (by decide) rfl (fun hc => ?_) (fun hc => ?_)
    · have h := jit hc h
      refine j_sub [0, 1] rfl ?_
      exact b_X12_write_71 a0 K hrw HR v1 s0 h
    · have h := jif hc h
      refine j_aload_n (pc' := 38) K dX12_write_37 rfl 0 rfl rfl ?_
      refine j_get (pc' := 41) K dX12_write_38 inX12 0 rfl rfl 1 (by decide) u_4_36 rfl rfl rfl ?_
      refine j_aload_n (pc' := 42) K dX12_write_41 rfl 0 rfl rfl ?_
      refine j_get (pc' := 45) K dX12_write_42 inX12 0 rfl rfl 0 (by decide) u_4_35 rfl rfl rfl ?_
      refine j_iload (pc' := 47) K dX12_write_45 3 rfl rfl ?_
      refine j_iadd (pc' := 48) K dX12_write_47 rfl ?_
      refine j_lload_n (pc' := 49) K dX12_write_48 rfl 2 rfl rfl ?_
      refine j_bipush (pc' := 51) (v := (8 : Int32)) K dX12_write_49 (by decide) rfl ?_
      refine j_iload_n (pc' := 52) K dX12_write_51 rfl 1 rfl rfl ?_
      refine j_iconst (pc' := 53) (v := (1 : Int32)) K dX12_write_52 (by decide) rfl ?_
      refine j_isub (pc' := 54) K dX12_write_53 rfl ?_
      refine j_iload (pc' := 56) K dX12_write_54 3 rfl rfl ?_
      refine j_isub (pc' := 57) K dX12_write_56 rfl ?_
      refine j_imul (pc' := 58) K dX12_write_57 rfl ?_
      refine j_lshr (pc' := 59) K dX12_write_58 rfl ?_
      refine j_ldc2 (pc' := 62) K dX12_write_59 u_4_108 rfl ?_
      refine j_land (pc' := 63) K dX12_write_62 rfl ?_
      refine j_l2i (pc' := 64) K dX12_write_63 rfl ?_
      obtain ⟨hg, h⟩ := jgd_some h
      refine j_iast (pc' := 65) (ws' := (wM (jg E) a0 (M_text_s s0 (upd (M_text s0) (Int32.toNatClampNeg ((M_bytes s0) + v4)) (Int64.toInt32 ((v2 >>> (Int32.toInt64 ((8 : Int32) * ((v1 - (1 : Int32)) - v4)) &&& 63)) &&& (255 : Int64))))))) K dX12_write_64 hrw 1 rfl hg (st_M_1 ..) rfl ?_
      refine j_iinc (pc' := 68) (j := 3) (v := (v4 + (1 : Int32))) (lv' := [(4, .int (v4 + (1 : Int32))), (0, .ref (a0 0)), (1, .int v1), (2, .long v2)]) K dX12_write_65 rfl rfl (by decide) rfl rfl ?_
      refine j_goto (tgt := 31) K dX12_write_68 (by decide) ?_
      refine j_sub [1, 2, 3, 0] rfl ?_
      exact ih v1 v2 (v4 + (1 : Int32)) (M_text_s s0 (upd (M_text s0) (Int32.toNatClampNeg ((M_bytes s0) + v4)) (Int64.toInt32 ((v2 >>> (Int32.toInt64 ((8 : Int32) * ((v1 - (1 : Int32)) - v4)) &&& 63)) &&& (255 : Int64))))) h
set_option maxRecDepth 100000 in
set_option maxHeartbeats 4000000 in
theorem b_X12_write {E : jE} (a0 : Nat → Nat) {res : Int32 × MS} (K : jC E cX12_write 5 RX12 1) (hrw : jrw E) (HR : jRI E cX12_write 5 (wM (jg E) a0 (res.2)) (res.1)) : ∀ (v1 : Int32) (v2 : Int64) (s0 : MS), f_X12_write v1 v2 s0 = some res → J E 5 (wM (jg E) a0 s0) 0 [(0, .ref (a0 0)), (1, .int v1), (2, .long v2)] [] := by
  intro v1 v2 s0 h
  unfold f_X12_write at h
  refine j_iload_n (pc' := 1) K dX12_write_0 rfl 1 rfl rfl ?_
  refine j_i2l (pc' := 2) K dX12_write_1 rfl ?_
  refine j_lconst (pc' := 3) (v := (1 : Int64)) K dX12_write_2 (by decide) rfl ?_
  refine j_ldc2 (pc' := 6) K dX12_write_3 u_4_104 rfl ?_
  obtain ⟨r6, hr6, h⟩ := jbd_some h
  refine j_ro (pc' := 9) K (fun H hP => jrun_S K dX12_write_6 (M_X12_in (jl E) (jg E) (Int32.toInt64 v1) (1 : Int64) (8 : Int64) hr6) u_4_107 u_4_105 u_4_106 u_1_13 ⟨ok_X12_in, by decide, by decide⟩ rfl (Nat.le_of_ble_eq_true rfl) H) [] rfl rfl ?_
  refine j_if_ne (pc' := 12) (tgt := 14) K dX12_write_9 (by decide) rfl (fun hc => ?_) (fun hc => ?_)
  · have h := jif hc h
    refine j_aload_n (pc' := 15) K dX12_write_14 rfl 0 rfl rfl ?_
    refine j_get (pc' := 18) K dX12_write_15 inX12 0 rfl rfl 0 (by decide) u_4_35 rfl rfl rfl ?_
    refine j_iload_n (pc' := 19) K dX12_write_18 rfl 1 rfl rfl ?_
    refine j_iadd (pc' := 20) K dX12_write_19 rfl ?_
    refine j_bipush (pc' := 22) (v := (120 : Int32)) K dX12_write_20 (by decide) rfl ?_
    refine j_icmp_le (pc' := 25) (tgt := 28) K dX12_write_22 (by decide) rfl (fun hc => ?_) (fun hc => ?_)
    · have h := jit hc h
      refine j_iconst (pc' := 29) (v := (0 : Int32)) K dX12_write_28 (by decide) rfl ?_
      refine j_istore (pc' := 31) (lv' := [(4, .int (0 : Int32)), (0, .ref (a0 0)), (1, .int v1), (2, .long v2)]) K dX12_write_29 (by decide) rfl rfl ?_
      refine j_sub [1, 2, 3, 0] rfl ?_
      exact b_X12_write_31 a0 K hrw HR jFU v1 v2 (0 : Int32) s0 h
    · have h := jif hc h
      refine j_bipush (pc' := 27) (v := (-3 : Int32)) K dX12_write_25 (by decide) rfl ?_
      obtain rfl := Option.some.inj h
      exact HR _ _ dX12_write_27
  · have h := jit hc h
    refine j_iconst (pc' := 13) (v := (-1 : Int32)) K dX12_write_12 (by decide) rfl ?_
    obtain rfl := Option.some.inj h
    exact HR _ _ dX12_write_13
set_option maxRecDepth 100000 in
set_option maxHeartbeats 4000000 in
theorem M_X12_write (l : Launch) (G : jG) (a0 : Nat → Nat) (v1 : Int32) (v2 : Int64) (s0 : MS) {r : Int32 × MS} (h : f_X12_write v1 v2 s0 = some r) : MC l yX12_write cX12_write 5 (some .int) 1 G (jad (wM G a0 s0)) True (wM G a0 s0) (wM G a0 (r.2)) [.ref (a0 0), .int v1, .long v2] (some (.int (r.1))) := by
  refine mc_int (by decide +kernel) (Nat.le_of_ble_eq_true rfl) fun E hl hg hA hrw K HR => ?_
  subst hl
  subst hg
  have hrw : jrw E := by rw [hrw]; trivial
  exact b_X12_write a0 K hrw HR v1 v2 s0 h
theorem ok_X12_wipe : yX12_wipe.cls ≠ "java/lang/invoke/MethodHandle" ∧ yX12_wipe.cls ≠ "java/lang/invoke/VarHandle" ∧ (parseMethodDescriptor yX12_wipe.desc).map (fun d => d.parameters.length) = some 0 := ⟨by decide, by decide, by decide +kernel⟩
def f_X12_wipe (s0 : MS) : Option (Int32 × MS) :=
   some ((M_bytes s0), (M_bytes_s s0 (0 : Int32)))
set_option maxRecDepth 100000 in
set_option maxHeartbeats 4000000 in
theorem b_X12_wipe {E : jE} (a0 : Nat → Nat) {res : Int32 × MS} (K : jC E cX12_wipe 2 RX12 0) (hrw : jrw E) (HR : jRI E cX12_wipe 2 (wM (jg E) a0 (res.2)) (res.1)) : ∀ (s0 : MS), f_X12_wipe s0 = some res → J E 2 (wM (jg E) a0 s0) 0 [(0, .ref (a0 0))] [] := by
  intro s0 h
  unfold f_X12_wipe at h
  refine j_aload_n (pc' := 1) K dX12_wipe_0 rfl 0 rfl rfl ?_
  refine j_get (pc' := 4) K dX12_wipe_1 inX12 0 rfl rfl 0 (by decide) u_4_35 rfl rfl rfl ?_
  refine j_istore_n (pc' := 5) (lv' := [(1, .int (M_bytes s0)), (0, .ref (a0 0))]) K dX12_wipe_4 rfl (by decide) rfl rfl ?_
  refine j_aload_n (pc' := 6) K dX12_wipe_5 rfl 1 rfl rfl ?_
  refine j_iconst (pc' := 7) (v := (0 : Int32)) K dX12_wipe_6 (by decide) rfl ?_
  refine j_put (pc' := 10) (ws' := (wM (jg E) a0 (M_bytes_s s0 (0 : Int32)))) K dX12_wipe_7 hrw inX12 tyX12 tyX12_ok nmX12 0 rfl rfl 0 (by decide) u_4_35 rfl rfl rfl rfl (Nat.le_of_ble_eq_true rfl) (st_M_0_0 ..) rfl ?_
  refine j_iload_n (pc' := 11) K dX12_wipe_10 rfl 0 rfl rfl ?_
  obtain rfl := Option.some.inj h
  exact HR _ _ dX12_wipe_11
set_option maxRecDepth 100000 in
set_option maxHeartbeats 4000000 in
theorem M_X12_wipe (l : Launch) (G : jG) (a0 : Nat → Nat) (s0 : MS) {r : Int32 × MS} (h : f_X12_wipe s0 = some r) : MC l yX12_wipe cX12_wipe 2 (some .int) 0 G (jad (wM G a0 s0)) True (wM G a0 s0) (wM G a0 (r.2)) [.ref (a0 0)] (some (.int (r.1))) := by
  refine mc_int (by decide +kernel) (Nat.le_of_ble_eq_true rfl) fun E hl hg hA hrw K HR => ?_
  subst hl
  subst hg
  have hrw : jrw E := by rw [hrw]; trivial
  exact b_X12_wipe a0 K hrw HR s0 h
theorem ok_X12_byteNow : yX12_byteNow.cls ≠ "java/lang/invoke/MethodHandle" ∧ yX12_byteNow.cls ≠ "java/lang/invoke/VarHandle" ∧ (parseMethodDescriptor yX12_byteNow.desc).map (fun d => d.parameters.length) = some 0 := ⟨by decide, by decide, by decide +kernel⟩
def f_X12_byteNow (s0 : MS) : Option (Int32) :=
   if (M_bytes s0) ≤ (M_position s0) then
   some (-4 : Int32)
  else
   jgd (M_position s0) 120 (
    some ((M_text s0) (Int32.toNatClampNeg (M_position s0))))
set_option maxRecDepth 100000 in
set_option maxHeartbeats 4000000 in
theorem b_X12_byteNow {E : jE} (a0 : Nat → Nat) (s0 : MS) {res : Int32} (K : jC E cX12_byteNow 1 RX12 0) (HR : jRI E cX12_byteNow 1 (wM (jg E) a0 s0) res) : f_X12_byteNow s0 = some res → J E 1 (wM (jg E) a0 s0) 0 [(0, .ref (a0 0))] [] := by
  intro  h
  unfold f_X12_byteNow at h
  refine j_aload_n (pc' := 1) K dX12_byteNow_0 rfl 0 rfl rfl ?_
  refine j_get (pc' := 4) K dX12_byteNow_1 inX12 0 rfl rfl 2 (by decide) u_4_37 rfl rfl rfl ?_
  refine j_aload_n (pc' := 5) K dX12_byteNow_4 rfl 0 rfl rfl ?_
  refine j_get (pc' := 8) K dX12_byteNow_5 inX12 0 rfl rfl 0 (by decide) u_4_35 rfl rfl rfl ?_
  refine j_icmp_ge (pc' := 11) (tgt := 23) K dX12_byteNow_8 (by decide) rfl (fun hc => ?_) (fun hc => ?_)
  · have h := jit hc h
    refine j_bipush (pc' := 25) (v := (-4 : Int32)) K dX12_byteNow_23 (by decide) rfl ?_
    obtain rfl := Option.some.inj h
    exact HR _ _ dX12_byteNow_25
  · have h := jif hc h
    refine j_aload_n (pc' := 12) K dX12_byteNow_11 rfl 0 rfl rfl ?_
    refine j_get (pc' := 15) K dX12_byteNow_12 inX12 0 rfl rfl 1 (by decide) u_4_36 rfl rfl rfl ?_
    refine j_aload_n (pc' := 16) K dX12_byteNow_15 rfl 0 rfl rfl ?_
    refine j_get (pc' := 19) K dX12_byteNow_16 inX12 0 rfl rfl 2 (by decide) u_4_37 rfl rfl rfl ?_
    obtain ⟨hg, h⟩ := jgd_some h
    refine j_iald (pc' := 20) K dX12_byteNow_19 1 rfl hg rfl ?_
    refine j_goto (tgt := 25) K dX12_byteNow_20 (by decide) ?_
    obtain rfl := Option.some.inj h
    exact HR _ _ dX12_byteNow_25
set_option maxRecDepth 100000 in
set_option maxHeartbeats 4000000 in
theorem M_X12_byteNow (l : Launch) (G : jG) (a0 : Nat → Nat) (s0 : MS) {r : Int32} (h : f_X12_byteNow s0 = some r) : MC l yX12_byteNow cX12_byteNow 1 (some .int) 0 G jNo False (wM G a0 s0) (wM G a0 s0) [.ref (a0 0)] (some (.int r)) := by
  refine mc_int (by decide +kernel) (Nat.le_of_ble_eq_true rfl) fun E hl hg hA hrw K HR => ?_
  subst hl
  subst hg
  exact b_X12_byteNow a0 s0 K HR h
theorem ok_X12_isNumber : yX12_isNumber.cls ≠ "java/lang/invoke/MethodHandle" ∧ yX12_isNumber.cls ≠ "java/lang/invoke/VarHandle" ∧ (parseMethodDescriptor yX12_isNumber.desc).map (fun d => d.parameters.length) = some 2 := ⟨by decide, by decide, by decide +kernel⟩
def f_X12_isNumber_82 (v2 : Int32) (t1 : Int32) (t2 : Int32) (s0 : MS) : Option (Int32 × MS) :=
   jgd t1 7 (
   jbd (f_X12_byteNow (M_position_s (M_read_s s0 (upd (M_read s0) (Int32.toNatClampNeg t1) t2)) ((M_position (M_read_s s0 (upd (M_read s0) (Int32.toNatClampNeg t1) t2))) + (1 : Int32)))) (fun r94 =>
    if r94 = v2 then
     jzb (1 : Int32) (
      some ((1 : Int32), (M_position_s (M_position_s (M_read_s s0 (upd (M_read s0) (Int32.toNatClampNeg t1) t2)) ((M_position (M_read_s s0 (upd (M_read s0) (Int32.toNatClampNeg t1) t2))) + (1 : Int32))) ((M_position (M_position_s (M_read_s s0 (upd (M_read s0) (Int32.toNatClampNeg t1) t2)) ((M_position (M_read_s s0 (upd (M_read s0) (Int32.toNatClampNeg t1) t2))) + (1 : Int32)))) + (1 : Int32)))))
    else
     jzb (0 : Int32) (
      some ((0 : Int32), (M_position_s (M_read_s s0 (upd (M_read s0) (Int32.toNatClampNeg t1) t2)) ((M_position (M_read_s s0 (upd (M_read s0) (Int32.toNatClampNeg t1) t2))) + (1 : Int32)))))))
def f_X12_isNumber_54 (v1 : Int32) (v2 : Int32) (v3 : Int32) (v4 : Int32) (t0 : Int64) (t1 : Int64) (s0 : MS) : Option (Int32 × MS) :=
   jbd (f_X12_in t0 t1 (9 : Int64)) (fun r57 =>
   if r57 = 0 then
    jzb (0 : Int32) (
     some ((0 : Int32), s0))
   else
    if v3 = 0 then
     f_X12_isNumber_82 v2 v1 v4 s0
    else
     f_X12_isNumber_82 v2 v1 (-v4) s0)
def f_X12_isNumber_29 (v1 : Int32) (v2 : Int32) (v3 : Int32) (t1 : Int32) (t2 : Int32) (s0 : MS) : Option (Int32 × MS) :=
   jbd (f_X12_byteNow (M_position_s s0 (t1 + t2))) (fun r34 =>
   if v3 = 0 then
    f_X12_isNumber_54 v1 v2 v3 (r34 - (48 : Int32)) (Int32.toInt64 (r34 - (48 : Int32))) (0 : Int64) (M_position_s s0 (t1 + t2))
   else
    f_X12_isNumber_54 v1 v2 v3 (r34 - (48 : Int32)) (Int32.toInt64 (r34 - (48 : Int32))) (1 : Int64) (M_position_s s0 (t1 + t2)))
def f_X12_isNumber_14 (v1 : Int32) (v2 : Int32) (t0 : Int32) (s0 : MS) : Option (Int32 × MS) :=
   if t0 = 0 then
   f_X12_isNumber_29 v1 v2 t0 (M_position s0) (0 : Int32) s0
  else
   f_X12_isNumber_29 v1 v2 t0 (M_position s0) (1 : Int32) s0
def f_X12_isNumber (v1 : Int32) (v2 : Int32) (s0 : MS) : Option (Int32 × MS) :=
   jbd (f_X12_byteNow s0) (fun r1 =>
   if r1 = (45 : Int32) then
    f_X12_isNumber_14 v1 v2 (1 : Int32) s0
   else
    f_X12_isNumber_14 v1 v2 (0 : Int32) s0)
set_option maxRecDepth 100000 in
set_option maxHeartbeats 4000000 in
theorem b_X12_isNumber_82 {E : jE} (a0 : Nat → Nat) {res : Int32 × MS} (K : jC E cX12_isNumber 5 RX12 1) (hrw : jrw E) (HR : jRZ E cX12_isNumber 5 (wM (jg E) a0 (res.2)) (res.1)) : ∀ (v2 : Int32) (t1 : Int32) (t2 : Int32) (s0 : MS), f_X12_isNumber_82 v2 t1 t2 s0 = some res → J E 5 (wM (jg E) a0 s0) 82 [(0, .ref (a0 0)), (2, .int v2)] [.int t2, .int t1, .ref (a0 2)] := by
  intro v2 t1 t2 s0 h
  unfold f_X12_isNumber_82 at h
  obtain ⟨hg, h⟩ := jgd_some h
  refine j_iast (pc' := 83) (ws' := (wM (jg E) a0 (M_read_s s0 (upd (M_read s0) (Int32.toNatClampNeg t1) t2)))) K dX12_isNumber_82 hrw 2 rfl hg (st_M_2 ..) rfl ?_
  refine j_aload_n (pc' := 84) K dX12_isNumber_83 rfl 0 rfl rfl ?_
  refine j_dup (pc' := 85) K dX12_isNumber_84 rfl rfl ?_
  refine j_get (pc' := 88) K dX12_isNumber_85 inX12 0 rfl rfl 2 (by decide) u_4_37 rfl rfl rfl ?_
  refine j_iconst (pc' := 89) (v := (1 : Int32)) K dX12_isNumber_88 (by decide) rfl ?_
  refine j_iadd (pc' := 90) K dX12_isNumber_89 rfl ?_
  refine j_put (pc' := 93) (ws' := (wM (jg E) a0 (M_position_s (M_read_s s0 (upd (M_read s0) (Int32.toNatClampNeg t1) t2)) ((M_position (M_read_s s0 (upd (M_read s0) (Int32.toNatClampNeg t1) t2))) + (1 : Int32))))) K dX12_isNumber_90 hrw inX12 tyX12 tyX12_ok nmX12 0 rfl rfl 2 (by decide) u_4_37 rfl rfl rfl rfl (Nat.le_of_ble_eq_true rfl) (st_M_0_2 ..) rfl ?_
  refine j_aload_n (pc' := 94) K dX12_isNumber_93 rfl 0 rfl rfl ?_
  obtain ⟨r94, hr94, h⟩ := jbd_some h
  refine j_ro (pc' := 97) K (fun H hP => jrun_V K dX12_isNumber_94 (M_X12_byteNow (jl E) (jg E) a0 (M_position_s (M_read_s s0 (upd (M_read s0) (Int32.toNatClampNeg t1) t2)) ((M_position (M_read_s s0 (upd (M_read s0) (Int32.toNatClampNeg t1) t2))) + (1 : Int32))) hr94) u_4_128 u_4_125 u_4_127 u_p_22 u_1_13 ⟨ok_X12_byteNow, by decide, by decide⟩ rfl (Nat.le_of_ble_eq_true rfl) 0 rfl rfl H hP) [0, 1, 2, 3, 4, 5, 6, 7, 8, 9, 10, 11, 12, 13, 14, 15, 16] (cl_55_f ..) rfl ?_
  refine j_iload_n (pc' := 98) K dX12_isNumber_97 rfl 1 rfl rfl ?_
  refine j_icmp_eq (pc' := 101) (tgt := 103) K dX12_isNumber_98 (by decide) rfl (fun hc => ?_) (fun hc => ?_)
  · have h := jit hc h
    refine j_aload_n (pc' := 104) K dX12_isNumber_103 rfl 0 rfl rfl ?_
    refine j_dup (pc' := 105) K dX12_isNumber_104 rfl rfl ?_
    refine j_get (pc' := 108) K dX12_isNumber_105 inX12 0 rfl rfl 2 (by decide) u_4_37 rfl rfl rfl ?_
    refine j_iconst (pc' := 109) (v := (1 : Int32)) K dX12_isNumber_108 (by decide) rfl ?_
    refine j_iadd (pc' := 110) K dX12_isNumber_109 rfl ?_
    refine j_put (pc' := 113) (ws' := (wM (jg E) a0 (M_position_s (M_position_s (M_read_s s0 (upd (M_read s0) (Int32.toNatClampNeg t1) t2)) ((M_position (M_read_s s0 (upd (M_read s0) (Int32.toNatClampNeg t1) t2))) + (1 : Int32))) ((M_position (M_position_s (M_read_s s0 (upd (M_read s0) (Int32.toNatClampNeg t1) t2)) ((M_position (M_read_s s0 (upd (M_read s0) (Int32.toNatClampNeg t1) t2))) + (1 : Int32)))) + (1 : Int32))))) K dX12_isNumber_110 hrw inX12 tyX12 tyX12_ok nmX12 0 rfl rfl 2 (by decide) u_4_37 rfl rfl rfl rfl (Nat.le_of_ble_eq_true rfl) (st_M_0_2 ..) rfl ?_
    refine j_iconst (pc' := 114) (v := (1 : Int32)) K dX12_isNumber_113 (by decide) rfl ?_
    obtain ⟨hg, h⟩ := jzb_some h
    obtain rfl := Option.some.inj h
    exact HR _ _ hg dX12_isNumber_114
  · have h := jif hc h
    refine j_iconst (pc' := 102) (v := (0 : Int32)) K dX12_isNumber_101 (by decide) rfl ?_
    obtain ⟨hg, h⟩ := jzb_some h
    obtain rfl := Option.some.inj h
    exact HR _ _ hg dX12_isNumber_102
set_option maxRecDepth 100000 in
set_option maxHeartbeats 4000000 in
theorem b_X12_isNumber_54 {E : jE} (a0 : Nat → Nat) {res : Int32 × MS} (K : jC E cX12_isNumber 5 RX12 1) (hrw : jrw E) (HR : jRZ E cX12_isNumber 5 (wM (jg E) a0 (res.2)) (res.1)) : ∀ (v1 : Int32) (v2 : Int32) (v3 : Int32) (v4 : Int32) (t0 : Int64) (t1 : Int64) (s0 : MS), f_X12_isNumber_54 v1 v2 v3 v4 t0 t1 s0 = some res → J E 5 (wM (jg E) a0 s0) 54 [(0, .ref (a0 0)), (1, .int v1), (2, .int v2), (3, .int v3), (4, .int v4)] [.long t1, .long t0] := by
  intro v1 v2 v3 v4 t0 t1 s0 h
  unfold f_X12_isNumber_54 at h
  refine j_ldc2 (pc' := 57) K dX12_isNumber_54 u_4_133 rfl ?_
  obtain ⟨r57, hr57, h⟩ := jbd_some h
  refine j_ro (pc' := 60) K (fun H hP => jrun_S K dX12_isNumber_57 (M_X12_in (jl E) (jg E) t0 t1 (9 : Int64) hr57) u_4_107 u_4_105 u_4_106 u_1_13 ⟨ok_X12_in, by decide, by decide⟩ rfl (Nat.le_of_ble_eq_true rfl) H) [] rfl rfl ?_
  refine j_if_ne (pc' := 63) (tgt := 65) K dX12_isNumber_60 (by decide) rfl (fun hc => ?_) (fun hc => ?_)
  · have h := jif hc h
    refine j_aload_n (pc' := 66) K dX12_isNumber_65 rfl 0 rfl rfl ?_
    refine j_get (pc' := 69) K dX12_isNumber_66 inX12 0 rfl rfl 5 (by decide) u_4_40 rfl rfl rfl ?_
    refine j_iload_n (pc' := 70) K dX12_isNumber_69 rfl 1 rfl rfl ?_
    refine j_iload_n (pc' := 71) K dX12_isNumber_70 rfl 3 rfl rfl ?_
    refine j_if_eq (pc' := 74) (tgt := 80) K dX12_isNumber_71 (by decide) rfl (fun hc => ?_) (fun hc => ?_)
    · have h := jit hc h
      refine j_iload (pc' := 82) K dX12_isNumber_80 4 rfl rfl ?_
      refine j_sub [0, 2] rfl ?_
      exact b_X12_isNumber_82 a0 K hrw HR v2 v1 v4 s0 h
    · have h := jif hc h
      refine j_iload (pc' := 76) K dX12_isNumber_74 4 rfl rfl ?_
      refine j_ineg (pc' := 77) K dX12_isNumber_76 rfl ?_
      refine j_goto (tgt := 82) K dX12_isNumber_77 (by decide) ?_
      refine j_sub [0, 2] rfl ?_
      exact b_X12_isNumber_82 a0 K hrw HR v2 v1 (-v4) s0 h
  · have h := jit hc h
    refine j_iconst (pc' := 64) (v := (0 : Int32)) K dX12_isNumber_63 (by decide) rfl ?_
    obtain ⟨hg, h⟩ := jzb_some h
    obtain rfl := Option.some.inj h
    exact HR _ _ hg dX12_isNumber_64
set_option maxRecDepth 100000 in
set_option maxHeartbeats 4000000 in
theorem b_X12_isNumber_29 {E : jE} (a0 : Nat → Nat) {res : Int32 × MS} (K : jC E cX12_isNumber 5 RX12 1) (hrw : jrw E) (HR : jRZ E cX12_isNumber 5 (wM (jg E) a0 (res.2)) (res.1)) : ∀ (v1 : Int32) (v2 : Int32) (v3 : Int32) (t1 : Int32) (t2 : Int32) (s0 : MS), f_X12_isNumber_29 v1 v2 v3 t1 t2 s0 = some res → J E 5 (wM (jg E) a0 s0) 29 [(0, .ref (a0 0)), (1, .int v1), (2, .int v2), (3, .int v3)] [.int t2, .int t1, .ref (a0 0)] := by
  intro v1 v2 v3 t1 t2 s0 h
  unfold f_X12_isNumber_29 at h
  refine j_iadd (pc' := 30) K dX12_isNumber_29 rfl ?_
  refine j_put (pc' := 33) (ws' := (wM (jg E) a0 (M_position_s s0 (t1 + t2)))) K dX12_isNumber_30 hrw inX12 tyX12 tyX12_ok nmX12 0 rfl rfl 2 (by decide) u_4_37 rfl rfl rfl rfl (Nat.le_of_ble_eq_true rfl) (st_M_0_2 ..) rfl ?_
  refine j_aload_n (pc' := 34) K dX12_isNumber_33 rfl 0 rfl rfl ?_
  obtain ⟨r34, hr34, h⟩ := jbd_some h
  refine j_ro (pc' := 37) K (fun H hP => jrun_V K dX12_isNumber_34 (M_X12_byteNow (jl E) (jg E) a0 (M_position_s s0 (t1 + t2)) hr34) u_4_128 u_4_125 u_4_127 u_p_22 u_1_13 ⟨ok_X12_byteNow, by decide, by decide⟩ rfl (Nat.le_of_ble_eq_true rfl) 0 rfl rfl H hP) [0, 1, 2, 3, 4, 5, 6, 7, 8, 9, 10, 11, 12, 13, 14, 15, 16] (cl_55_f ..) rfl ?_
  refine j_bipush (pc' := 39) (v := (48 : Int32)) K dX12_isNumber_37 (by decide) rfl ?_
  refine j_isub (pc' := 40) K dX12_isNumber_39 rfl ?_
  refine j_istore (pc' := 42) (lv' := [(4, .int (r34 - (48 : Int32))), (0, .ref (a0 0)), (1, .int v1), (2, .int v2), (3, .int v3)]) K dX12_isNumber_40 (by decide) rfl rfl ?_
  refine j_iload (pc' := 44) K dX12_isNumber_42 0 rfl rfl ?_
  refine j_i2l (pc' := 45) K dX12_isNumber_44 rfl ?_
  refine j_iload_n (pc' := 46) K dX12_isNumber_45 rfl 4 rfl rfl ?_
  refine j_if_eq (pc' := 49) (tgt := 53) K dX12_isNumber_46 (by decide) rfl (fun hc => ?_) (fun hc => ?_)
  · have h := jit hc h
    refine j_lconst (pc' := 54) (v := (0 : Int64)) K dX12_isNumber_53 (by decide) rfl ?_
    refine j_sub [1, 2, 3, 4, 0] rfl ?_
    exact b_X12_isNumber_54 a0 K hrw HR v1 v2 v3 (r34 - (48 : Int32)) (Int32.toInt64 (r34 - (48 : Int32))) (0 : Int64) (M_position_s s0 (t1 + t2)) h
  · have h := jif hc h
    refine j_lconst (pc' := 50) (v := (1 : Int64)) K dX12_isNumber_49 (by decide) rfl ?_
    refine j_goto (tgt := 54) K dX12_isNumber_50 (by decide) ?_
    refine j_sub [1, 2, 3, 4, 0] rfl ?_
    exact b_X12_isNumber_54 a0 K hrw HR v1 v2 v3 (r34 - (48 : Int32)) (Int32.toInt64 (r34 - (48 : Int32))) (1 : Int64) (M_position_s s0 (t1 + t2)) h
set_option maxRecDepth 100000 in
set_option maxHeartbeats 4000000 in
theorem b_X12_isNumber_14 {E : jE} (a0 : Nat → Nat) {res : Int32 × MS} (K : jC E cX12_isNumber 5 RX12 1) (hrw : jrw E) (HR : jRZ E cX12_isNumber 5 (wM (jg E) a0 (res.2)) (res.1)) : ∀ (v1 : Int32) (v2 : Int32) (t0 : Int32) (s0 : MS), f_X12_isNumber_14 v1 v2 t0 s0 = some res → J E 5 (wM (jg E) a0 s0) 14 [(0, .ref (a0 0)), (1, .int v1), (2, .int v2)] [.int t0] := by
  intro v1 v2 t0 s0 h
  unfold f_X12_isNumber_14 at h
  refine j_istore_n (pc' := 15) (lv' := [(3, .int t0), (0, .ref (a0 0)), (1, .int v1), (2, .int v2)]) K dX12_isNumber_14 rfl (by decide) rfl rfl ?_
  refine j_aload_n (pc' := 16) K dX12_isNumber_15 rfl 1 rfl rfl ?_
  refine j_dup (pc' := 17) K dX12_isNumber_16 rfl rfl ?_
  refine j_get (pc' := 20) K dX12_isNumber_17 inX12 0 rfl rfl 2 (by decide) u_4_37 rfl rfl rfl ?_
  refine j_iload_n (pc' := 21) K dX12_isNumber_20 rfl 0 rfl rfl ?_
  refine j_if_eq (pc' := 24) (tgt := 28) K dX12_isNumber_21 (by decide) rfl (fun hc => ?_) (fun hc => ?_)
  · have h := jit hc h
    refine j_iconst (pc' := 29) (v := (0 : Int32)) K dX12_isNumber_28 (by decide) rfl ?_
    refine j_sub [1, 2, 3, 0] rfl ?_
    exact b_X12_isNumber_29 a0 K hrw HR v1 v2 t0 (M_position s0) (0 : Int32) s0 h
  · have h := jif hc h
    refine j_iconst (pc' := 25) (v := (1 : Int32)) K dX12_isNumber_24 (by decide) rfl ?_
    refine j_goto (tgt := 29) K dX12_isNumber_25 (by decide) ?_
    refine j_sub [1, 2, 3, 0] rfl ?_
    exact b_X12_isNumber_29 a0 K hrw HR v1 v2 t0 (M_position s0) (1 : Int32) s0 h
set_option maxRecDepth 100000 in
set_option maxHeartbeats 4000000 in
theorem b_X12_isNumber {E : jE} (a0 : Nat → Nat) {res : Int32 × MS} (K : jC E cX12_isNumber 5 RX12 1) (hrw : jrw E) (HR : jRZ E cX12_isNumber 5 (wM (jg E) a0 (res.2)) (res.1)) : ∀ (v1 : Int32) (v2 : Int32) (s0 : MS), f_X12_isNumber v1 v2 s0 = some res → J E 5 (wM (jg E) a0 s0) 0 [(0, .ref (a0 0)), (1, .int v1), (2, .int v2)] [] := by
  intro v1 v2 s0 h
  unfold f_X12_isNumber at h
  refine j_aload_n (pc' := 1) K dX12_isNumber_0 rfl 0 rfl rfl ?_
  obtain ⟨r1, hr1, h⟩ := jbd_some h
  refine j_ro (pc' := 4) K (fun H hP => jrun_V K dX12_isNumber_1 (M_X12_byteNow (jl E) (jg E) a0 s0 hr1) u_4_128 u_4_125 u_4_127 u_p_22 u_1_13 ⟨ok_X12_byteNow, by decide, by decide⟩ rfl (Nat.le_of_ble_eq_true rfl) 0 rfl rfl H hP) [0, 1, 2, 3, 4, 5, 6, 7, 8, 9, 10, 11, 12, 13, 14, 15, 16] (cl_55_f ..) rfl ?_
  refine j_bipush (pc' := 6) (v := (45 : Int32)) K dX12_isNumber_4 (by decide) rfl ?_
  refine j_icmp_ne (pc' := 9) (tgt := 13) K dX12_isNumber_6 (by decide) rfl (fun hc => ?_) (fun hc => ?_)
  · have h := jif hc h
    refine j_iconst (pc' := 14) (v := (0 : Int32)) K dX12_isNumber_13 (by decide) rfl ?_
    refine j_sub [0, 1, 2] rfl ?_
    exact b_X12_isNumber_14 a0 K hrw HR v1 v2 (0 : Int32) s0 h
  · have h := jit hc h
    refine j_iconst (pc' := 10) (v := (1 : Int32)) K dX12_isNumber_9 (by decide) rfl ?_
    refine j_goto (tgt := 14) K dX12_isNumber_10 (by decide) ?_
    refine j_sub [0, 1, 2] rfl ?_
    exact b_X12_isNumber_14 a0 K hrw HR v1 v2 (1 : Int32) s0 h
set_option maxRecDepth 100000 in
set_option maxHeartbeats 4000000 in
theorem M_X12_isNumber (l : Launch) (G : jG) (a0 : Nat → Nat) (v1 : Int32) (v2 : Int32) (s0 : MS) {r : Int32 × MS} (h : f_X12_isNumber v1 v2 s0 = some r) : MC l yX12_isNumber cX12_isNumber 5 (some .boolean) 1 G (jad (wM G a0 s0)) True (wM G a0 s0) (wM G a0 (r.2)) [.ref (a0 0), .int v1, .int v2] (some (.int (r.1))) := by
  refine mc_bool (by decide +kernel) (Nat.le_of_ble_eq_true rfl) fun E hl hg hA hrw K HR => ?_
  subst hl
  subst hg
  have hrw : jrw E := by rw [hrw]; trivial
  exact b_X12_isNumber a0 K hrw HR v1 v2 s0 h
theorem ok_X12_isItem : yX12_isItem.cls ≠ "java/lang/invoke/MethodHandle" ∧ yX12_isItem.cls ≠ "java/lang/invoke/VarHandle" ∧ (parseMethodDescriptor yX12_isItem.desc).map (fun d => d.parameters.length) = some 0 := ⟨by decide, by decide, by decide +kernel⟩
def f_X12_isItem_54 (v2 : Int32) (s0 : MS) : Option (Int32 × MS) :=
   jbd (f_X12_isNumber v2 (44 : Int32) s0) (fun r58 =>
   if (r58.1) = 0 then
    jzb (0 : Int32) (
     some ((0 : Int32), (r58.2)))
   else
    jbd (f_X12_isNumber (v2 + (1 : Int32)) (44 : Int32) (r58.2)) (fun r70 =>
     if (r70.1) = 0 then
      jzb (0 : Int32) (
       some ((0 : Int32), (r70.2)))
     else
      jbd (f_X12_isNumber (v2 + (2 : Int32)) (59 : Int32) (r70.2)) (fun r82 =>
       if (r82.1) = 0 then
        jzb (0 : Int32) (
         some ((0 : Int32), (r82.2)))
       else
        jzb (1 : Int32) (
         some ((1 : Int32), (r82.2))))))
def f_X12_isItem_41 (v1 : Int32) (t0 : Int32) (s0 : MS) : Option (Int32 × MS) :=
   if v1 = (97 : Int32) then
   f_X12_isItem_54 t0 s0
  else
   if v1 = (98 : Int32) then
    f_X12_isItem_54 t0 s0
   else
    jzb (0 : Int32) (
     some ((0 : Int32), s0))
def f_X12_isItem (s0 : MS) : Option (Int32 × MS) :=
   jbd (f_X12_byteNow s0) (fun r1 =>
   if r1 = (115 : Int32) then
    jbd (f_X12_isNumber (6 : Int32) (59 : Int32) (M_position_s s0 ((M_position s0) + (1 : Int32)))) (fun r26 =>
     jzb (r26.1) (
      some ((r26.1), (r26.2))))
   else
    if r1 = (97 : Int32) then
     f_X12_isItem_41 r1 (0 : Int32) (M_position_s s0 ((M_position s0) + (1 : Int32)))
    else
     f_X12_isItem_41 r1 (3 : Int32) (M_position_s s0 ((M_position s0) + (1 : Int32))))
set_option maxRecDepth 100000 in
set_option maxHeartbeats 4000000 in
theorem b_X12_isItem_54 {E : jE} (a0 : Nat → Nat) {res : Int32 × MS} (K : jC E cX12_isItem 3 RX12 2) (hrw : jrw E) (HR : jRZ E cX12_isItem 3 (wM (jg E) a0 (res.2)) (res.1)) : ∀ (v2 : Int32) (s0 : MS), f_X12_isItem_54 v2 s0 = some res → J E 3 (wM (jg E) a0 s0) 54 [(0, .ref (a0 0)), (2, .int v2)] [] := by
  intro v2 s0 h
  unfold f_X12_isItem_54 at h
  refine j_aload_n (pc' := 55) K dX12_isItem_54 rfl 0 rfl rfl ?_
  refine j_iload_n (pc' := 56) K dX12_isItem_55 rfl 1 rfl rfl ?_
  refine j_bipush (pc' := 58) (v := (44 : Int32)) K dX12_isItem_56 (by decide) rfl ?_
  obtain ⟨r58, hr58, h⟩ := jbd_some h
  refine j_rw (pc' := 61) (ws' := (wM (jg E) a0 (r58.2))) K (fun H hP => jrun_V K dX12_isItem_58 (M_X12_isNumber (jl E) (jg E) a0 v2 (44 : Int32) s0 hr58) u_4_132 u_4_129 u_4_131 u_p_23 u_1_13 ⟨ok_X12_isNumber, by decide, by decide⟩ rfl (Nat.le_of_ble_eq_true rfl) 0 rfl rfl H hP) hrw [0, 1, 2, 3, 4, 5, 6, 7, 8, 9, 10, 11, 12, 13, 14, 15, 16] rfl (cl_56_s ..) rfl (cl_56_m ..) (ad_M ..) rfl ?_
  refine j_if_eq (pc' := 64) (tgt := 92) K dX12_isItem_61 (by decide) rfl (fun hc => ?_) (fun hc => ?_)
  · have h := jit hc h
    refine j_iconst (pc' := 93) (v := (0 : Int32)) K dX12_isItem_92 (by decide) rfl ?_
    obtain ⟨hg, h⟩ := jzb_some h
    obtain rfl := Option.some.inj h
    exact HR _ _ hg dX12_isItem_93
  · have h := jif hc h
    refine j_aload_n (pc' := 65) K dX12_isItem_64 rfl 0 rfl rfl ?_
    refine j_iload_n (pc' := 66) K dX12_isItem_65 rfl 1 rfl rfl ?_
    refine j_iconst (pc' := 67) (v := (1 : Int32)) K dX12_isItem_66 (by decide) rfl ?_
    refine j_iadd (pc' := 68) K dX12_isItem_67 rfl ?_
    refine j_bipush (pc' := 70) (v := (44 : Int32)) K dX12_isItem_68 (by decide) rfl ?_
    obtain ⟨r70, hr70, h⟩ := jbd_some h
    refine j_rw (pc' := 73) (ws' := (wM (jg E) a0 (r70.2))) K (fun H hP => jrun_V K dX12_isItem_70 (M_X12_isNumber (jl E) (jg E) a0 (v2 + (1 : Int32)) (44 : Int32) (r58.2) hr70) u_4_132 u_4_129 u_4_131 u_p_23 u_1_13 ⟨ok_X12_isNumber, by decide, by decide⟩ rfl (Nat.le_of_ble_eq_true rfl) 0 rfl rfl H hP) hrw [0, 1, 2, 3, 4, 5, 6, 7, 8, 9, 10, 11, 12, 13, 14, 15, 16] rfl (cl_56_s ..) rfl (cl_56_m ..) (ad_M ..) rfl ?_
    refine j_if_eq (pc' := 76) (tgt := 92) K dX12_isItem_73 (by decide) rfl (fun hc => ?_) (fun hc => ?_)
    · have h := jit hc h
      refine j_iconst (pc' := 93) (v := (0 : Int32)) K dX12_isItem_92 (by decide) rfl ?_
      obtain ⟨hg, h⟩ := jzb_some h
      obtain rfl := Option.some.inj h
      exact HR _ _ hg dX12_isItem_93
    · have h := jif hc h
      refine j_aload_n (pc' := 77) K dX12_isItem_76 rfl 0 rfl rfl ?_
      refine j_iload_n (pc' := 78) K dX12_isItem_77 rfl 1 rfl rfl ?_
      refine j_iconst (pc' := 79) (v := (2 : Int32)) K dX12_isItem_78 (by decide) rfl ?_
      refine j_iadd (pc' := 80) K dX12_isItem_79 rfl ?_
      refine j_bipush (pc' := 82) (v := (59 : Int32)) K dX12_isItem_80 (by decide) rfl ?_
      obtain ⟨r82, hr82, h⟩ := jbd_some h
      refine j_rw (pc' := 85) (ws' := (wM (jg E) a0 (r82.2))) K (fun H hP => jrun_V K dX12_isItem_82 (M_X12_isNumber (jl E) (jg E) a0 (v2 + (2 : Int32)) (59 : Int32) (r70.2) hr82) u_4_132 u_4_129 u_4_131 u_p_23 u_1_13 ⟨ok_X12_isNumber, by decide, by decide⟩ rfl (Nat.le_of_ble_eq_true rfl) 0 rfl rfl H hP) hrw [0, 1, 2, 3, 4, 5, 6, 7, 8, 9, 10, 11, 12, 13, 14, 15, 16] rfl (cl_56_s ..) rfl (cl_56_m ..) (ad_M ..) rfl ?_
      refine j_if_eq (pc' := 88) (tgt := 92) K dX12_isItem_85 (by decide) rfl (fun hc => ?_) (fun hc => ?_)
      · have h := jit hc h
        refine j_iconst (pc' := 93) (v := (0 : Int32)) K dX12_isItem_92 (by decide) rfl ?_
        obtain ⟨hg, h⟩ := jzb_some h
        obtain rfl := Option.some.inj h
        exact HR _ _ hg dX12_isItem_93
      · have h := jif hc h
        refine j_iconst (pc' := 89) (v := (1 : Int32)) K dX12_isItem_88 (by decide) rfl ?_
        refine j_goto (tgt := 93) K dX12_isItem_89 (by decide) ?_
        obtain ⟨hg, h⟩ := jzb_some h
        obtain rfl := Option.some.inj h
        exact HR _ _ hg dX12_isItem_93
set_option maxRecDepth 100000 in
set_option maxHeartbeats 4000000 in
theorem b_X12_isItem_41 {E : jE} (a0 : Nat → Nat) {res : Int32 × MS} (K : jC E cX12_isItem 3 RX12 2) (hrw : jrw E) (HR : jRZ E cX12_isItem 3 (wM (jg E) a0 (res.2)) (res.1)) : ∀ (v1 : Int32) (t0 : Int32) (s0 : MS), f_X12_isItem_41 v1 t0 s0 = some res → J E 3 (wM (jg E) a0 s0) 41 [(0, .ref (a0 0)), (1, .int v1)] [.int t0] := by
  intro v1 t0 s0 h
  unfold f_X12_isItem_41 at h
  refine j_istore_n (pc' := 42) (lv' := [(2, .int t0), (0, .ref (a0 0)), (1, .int v1)]) K dX12_isItem_41 rfl (by decide) rfl rfl ?_
  refine j_iload_n (pc' := 43) K dX12_isItem_42 rfl 2 rfl rfl ?_
  refine j_bipush (pc' := 45) (v := (97 : Int32)) K dX12_isItem_43 (by decide) rfl ?_
  refine j_icmp_eq (pc' := 48) (tgt := 54) K dX12_isItem_45 (by decide) rfl (fun hc => ?_) (fun hc => ?_)
  · have h := jit hc h
    refine j_sub [1, 0] rfl ?_
    exact b_X12_isItem_54 a0 K hrw HR t0 s0 h
  · have h := jif hc h
    refine j_iload_n (pc' := 49) K dX12_isItem_48 rfl 2 rfl rfl ?_
    refine j_bipush (pc' := 51) (v := (98 : Int32)) K dX12_isItem_49 (by decide) rfl ?_
    refine j_icmp_ne (pc' := 54) (tgt := 92) K dX12_isItem_51 (by decide) rfl (fun hc => ?_) (fun hc => ?_)
    · have h := jif hc h
      refine j_iconst (pc' := 93) (v := (0 : Int32)) K dX12_isItem_92 (by decide) rfl ?_
      obtain ⟨hg, h⟩ := jzb_some h
      obtain rfl := Option.some.inj h
      exact HR _ _ hg dX12_isItem_93
    · have h := jit hc h
      refine j_sub [1, 0] rfl ?_
      exact b_X12_isItem_54 a0 K hrw HR t0 s0 h
set_option maxRecDepth 100000 in
set_option maxHeartbeats 4000000 in
theorem b_X12_isItem {E : jE} (a0 : Nat → Nat) {res : Int32 × MS} (K : jC E cX12_isItem 3 RX12 2) (hrw : jrw E) (HR : jRZ E cX12_isItem 3 (wM (jg E) a0 (res.2)) (res.1)) : ∀ (s0 : MS), f_X12_isItem s0 = some res → J E 3 (wM (jg E) a0 s0) 0 [(0, .ref (a0 0))] [] := by
  intro s0 h
  unfold f_X12_isItem at h
  refine j_aload_n (pc' := 1) K dX12_isItem_0 rfl 0 rfl rfl ?_
  obtain ⟨r1, hr1, h⟩ := jbd_some h
  refine j_ro (pc' := 4) K (fun H hP => jrun_V K dX12_isItem_1 (M_X12_byteNow (jl E) (jg E) a0 s0 hr1) u_4_128 u_4_125 u_4_127 u_p_22 u_1_13 ⟨ok_X12_byteNow, by decide, by decide⟩ rfl (Nat.le_of_ble_eq_true rfl) 0 rfl rfl H hP) [0, 1, 2, 3, 4, 5, 6, 7, 8, 9, 10, 11, 12, 13, 14, 15, 16] (cl_55_f ..) rfl ?_
  refine j_istore_n (pc' := 5) (lv' := [(1, .int r1), (0, .ref (a0 0))]) K dX12_isItem_4 rfl (by decide) rfl rfl ?_
  refine j_aload_n (pc' := 6) K dX12_isItem_5 rfl 1 rfl rfl ?_
  refine j_dup (pc' := 7) K dX12_isItem_6 rfl rfl ?_
  refine j_get (pc' := 10) K dX12_isItem_7 inX12 0 rfl rfl 2 (by decide) u_4_37 rfl rfl rfl ?_
  refine j_iconst (pc' := 11) (v := (1 : Int32)) K dX12_isItem_10 (by decide) rfl ?_
  refine j_iadd (pc' := 12) K dX12_isItem_11 rfl ?_
  refine j_put (pc' := 15) (ws' := (wM (jg E) a0 (M_position_s s0 ((M_position s0) + (1 : Int32))))) K dX12_isItem_12 hrw inX12 tyX12 tyX12_ok nmX12 0 rfl rfl 2 (by decide) u_4_37 rfl rfl rfl rfl (Nat.le_of_ble_eq_true rfl) (st_M_0_2 ..) rfl ?_
  refine j_iload_n (pc' := 16) K dX12_isItem_15 rfl 0 rfl rfl ?_
  refine j_bipush (pc' := 18) (v := (115 : Int32)) K dX12_isItem_16 (by decide) rfl ?_
  refine j_icmp_ne (pc' := 21) (tgt := 30) K dX12_isItem_18 (by decide) rfl (fun hc => ?_) (fun hc => ?_)
  · have h := jif hc h
    refine j_iload_n (pc' := 31) K dX12_isItem_30 rfl 0 rfl rfl ?_
    refine j_bipush (pc' := 33) (v := (97 : Int32)) K dX12_isItem_31 (by decide) rfl ?_
    refine j_icmp_ne (pc' := 36) (tgt := 40) K dX12_isItem_33 (by decide) rfl (fun hc => ?_) (fun hc => ?_)
    · have h := jif hc h
      refine j_iconst (pc' := 41) (v := (3 : Int32)) K dX12_isItem_40 (by decide) rfl ?_
      refine j_sub [1, 0] rfl ?_
      exact b_X12_isItem_41 a0 K hrw HR r1 (3 : Int32) (M_position_s s0 ((M_position s0) + (1 : Int32))) h
    · have h := jit hc h
      refine j_iconst (pc' := 37) (v := (0 : Int32)) K dX12_isItem_36 (by decide) rfl ?_
      refine j_goto (tgt := 41) K dX12_isItem_37 (by decide) ?_
      refine j_sub [1, 0] rfl ?_
      exact b_X12_isItem_41 a0 K hrw HR r1 (0 : Int32) (M_position_s s0 ((M_position s0) + (1 : Int32))) h
  · have h := jit hc h
    refine j_aload_n (pc' := 22) K dX12_isItem_21 rfl 1 rfl rfl ?_
    refine j_bipush (pc' := 24) (v := (6 : Int32)) K dX12_isItem_22 (by decide) rfl ?_
    refine j_bipush (pc' := 26) (v := (59 : Int32)) K dX12_isItem_24 (by decide) rfl ?_
    obtain ⟨r26, hr26, h⟩ := jbd_some h
    refine j_rw (pc' := 29) (ws' := (wM (jg E) a0 (r26.2))) K (fun H hP => jrun_V K dX12_isItem_26 (M_X12_isNumber (jl E) (jg E) a0 (6 : Int32) (59 : Int32) (M_position_s s0 ((M_position s0) + (1 : Int32))) hr26) u_4_132 u_4_129 u_4_131 u_p_23 u_1_13 ⟨ok_X12_isNumber, by decide, by decide⟩ rfl (Nat.le_of_ble_eq_true rfl) 0 rfl rfl H hP) hrw [0, 1, 2, 3, 4, 5, 6, 7, 8, 9, 10, 11, 12, 13, 14, 15, 16] rfl (cl_56_s ..) rfl (cl_56_m ..) (ad_M ..) rfl ?_
    obtain ⟨hg, h⟩ := jzb_some h
    obtain rfl := Option.some.inj h
    exact HR _ _ hg dX12_isItem_29
set_option maxRecDepth 100000 in
set_option maxHeartbeats 4000000 in
theorem M_X12_isItem (l : Launch) (G : jG) (a0 : Nat → Nat) (s0 : MS) {r : Int32 × MS} (h : f_X12_isItem s0 = some r) : MC l yX12_isItem cX12_isItem 3 (some .boolean) 2 G (jad (wM G a0 s0)) True (wM G a0 s0) (wM G a0 (r.2)) [.ref (a0 0)] (some (.int (r.1))) := by
  refine mc_bool (by decide +kernel) (Nat.le_of_ble_eq_true rfl) fun E hl hg hA hrw K HR => ?_
  subst hl
  subst hg
  have hrw : jrw E := by rw [hrw]; trivial
  exact b_X12_isItem a0 K hrw HR s0 h
theorem ok_X12_isRead : yX12_isRead.cls ≠ "java/lang/invoke/MethodHandle" ∧ yX12_isRead.cls ≠ "java/lang/invoke/VarHandle" ∧ (parseMethodDescriptor yX12_isRead.desc).map (fun d => d.parameters.length) = some 0 := ⟨by decide, by decide, by decide +kernel⟩
def f_X12_isRead_41 : Nat → MS → Option (Int32 × MS)
  | 0, _ => none
  | n + 1, s0 =>
   if (M_bytes s0) ≤ (M_position s0) then
   jzb (1 : Int32) (
    some ((1 : Int32), s0))
  else
   jbd (f_X12_isItem (M_begin_s s0 (M_position s0))) (fun r61 =>
    if (r61.1) = 0 then
     jzb (0 : Int32) (
      some ((0 : Int32), (r61.2)))
    else
     (f_X12_isRead_41 n) (M_readMany_s (r61.2) ((M_readMany (r61.2)) + (1 : Int32))))
def f_X12_isRead_34 (k12 : Int32 → MS → Option (Int32 × MS)) (v1 : Int32) (t1 : Int32) (t2 : Int32) (s0 : MS) : Option (Int32 × MS) :=
   jgd t1 7 (
   k12 (v1 + (1 : Int32)) (M_read_s s0 (upd (M_read s0) (Int32.toNatClampNeg t1) t2)))
def f_X12_isRead_12 : Nat → Int32 → MS → Option (Int32 × MS)
  | 0, _, _ => none
  | n + 1, v1, s0 =>
   if (7 : Int32) ≤ v1 then
   f_X12_isRead_41 jFU s0
  else
   if v1 = (6 : Int32) then
    f_X12_isRead_34 (f_X12_isRead_12 n) v1 v1 (1 : Int32) s0
   else
    f_X12_isRead_34 (f_X12_isRead_12 n) v1 v1 (0 : Int32) s0
def f_X12_isRead (s0 : MS) : Option (Int32 × MS) :=
   f_X12_isRead_12 jFU (0 : Int32) (M_readMany_s (M_position_s s0 (0 : Int32)) (0 : Int32))
set_option maxRecDepth 100000 in
set_option maxHeartbeats 4000000 in
theorem b_X12_isRead_41 {E : jE} (a0 : Nat → Nat) {res : Int32 × MS} (K : jC E cX12_isRead 2 RX12 3) (hrw : jrw E) (HR : jRZ E cX12_isRead 2 (wM (jg E) a0 (res.2)) (res.1)) : ∀ (n : Nat) (s0 : MS), f_X12_isRead_41 n s0 = some res → J E 2 (wM (jg E) a0 s0) 41 [(0, .ref (a0 0))] [] := by
  intro n
  induction n with
  | zero => intro _ h; cases h
  | succ n ih =>
    intro s0 h
    rw [f_X12_isRead_41] at h
    refine j_aload_n (pc' := 42) K dX12_isRead_41 rfl 0 rfl rfl ?_
    refine j_get (pc' := 45) K dX12_isRead_42 inX12 0 rfl rfl 2 (by decide) u_4_37 rfl rfl rfl ?_
    refine j_aload_n (pc' := 46) K dX12_isRead_45 rfl 0 rfl rfl ?_
    refine j_get (pc' := 49) K dX12_isRead_46 inX12 0 rfl rfl 0 (by decide) u_4_35 rfl rfl rfl ?_
    refine j_icmp_ge (pc' := 52) (tgt := 82) K dX12_isRead_49 (by decide) rfl (fun hc => ?_) (fun hc => ?_)
    · have h := jit hc h
      refine j_iconst (pc' := 83) (v := (1 : Int32)) K dX12_isRead_82 (by decide) rfl ?_
      obtain ⟨hg, h⟩ := jzb_some h
      obtain rfl := Option.some.inj h
      exact HR _ _ hg dX12_isRead_83
    · have h := jif hc h
      refine j_aload_n (pc' := 53) K dX12_isRead_52 rfl 0 rfl rfl ?_
      refine j_aload_n (pc' := 54) K dX12_isRead_53 rfl 0 rfl rfl ?_
      refine j_get (pc' := 57) K dX12_isRead_54 inX12 0 rfl rfl 2 (by decide) u_4_37 rfl rfl rfl ?_
      refine j_put (pc' := 60) (ws' := (wM (jg E) a0 (M_begin_s s0 (M_position s0)))) K dX12_isRead_57 hrw inX12 tyX12 tyX12_ok nmX12 0 rfl rfl 3 (by decide) u_4_38 rfl rfl rfl rfl (Nat.le_of_ble_eq_true rfl) (st_M_0_3 ..) rfl ?_
      refine j_aload_n (pc' := 61) K dX12_isRead_60 rfl 0 rfl rfl ?_
      obtain ⟨r61, hr61, h⟩ := jbd_some h
      refine j_rw (pc' := 64) (ws' := (wM (jg E) a0 (r61.2))) K (fun H hP => jrun_V K dX12_isRead_61 (M_X12_isItem (jl E) (jg E) a0 (M_begin_s s0 (M_position s0)) hr61) u_4_124 u_4_121 u_4_123 u_p_21 u_1_13 ⟨ok_X12_isItem, by decide, by decide⟩ rfl (Nat.le_of_ble_eq_true rfl) 0 rfl rfl H hP) hrw [0, 1, 2, 3, 4, 5, 6, 7, 8, 9, 10, 11, 12, 13, 14, 15, 16] rfl (cl_56_s ..) rfl (cl_56_m ..) (ad_M ..) rfl ?_
      refine j_if_ne (pc' := 67) (tgt := 69) K dX12_isRead_64 (by decide) rfl (fun hc => ?_) (fun hc => ?_)
      · have h := jif hc h
        refine j_aload_n (pc' := 70) K dX12_isRead_69 rfl 0 rfl rfl ?_
        refine j_dup (pc' := 71) K dX12_isRead_70 rfl rfl ?_
        refine j_get (pc' := 74) K dX12_isRead_71 inX12 0 rfl rfl 4 (by decide) u_4_39 rfl rfl rfl ?_
        refine j_iconst (pc' := 75) (v := (1 : Int32)) K dX12_isRead_74 (by decide) rfl ?_
        refine j_iadd (pc' := 76) K dX12_isRead_75 rfl ?_
        refine j_put (pc' := 79) (ws' := (wM (jg E) a0 (M_readMany_s (r61.2) ((M_readMany (r61.2)) + (1 : Int32))))) K dX12_isRead_76 hrw inX12 tyX12 tyX12_ok nmX12 0 rfl rfl 4 (by decide) u_4_39 rfl rfl rfl rfl (Nat.le_of_ble_eq_true rfl) (st_M_0_4 ..) rfl ?_
        refine j_goto (tgt := 41) K dX12_isRead_79 (by decide) ?_
        refine j_sub [0] rfl ?_
        exact ih (M_readMany_s (r61.2) ((M_readMany (r61.2)) + (1 : Int32))) h
      · have h := jit hc h
        refine j_iconst (pc' := 68) (v := (0 : Int32)) K dX12_isRead_67 (by decide) rfl ?_
        obtain ⟨hg, h⟩ := jzb_some h
        obtain rfl := Option.some.inj h
        exact HR _ _ hg dX12_isRead_68
set_option maxRecDepth 100000 in
set_option maxHeartbeats 4000000 in
theorem b_X12_isRead_34 {E : jE} (a0 : Nat → Nat) {res : Int32 × MS} (K : jC E cX12_isRead 2 RX12 3) (hrw : jrw E) (HR : jRZ E cX12_isRead 2 (wM (jg E) a0 (res.2)) (res.1)) (k12 : Int32 → MS → Option (Int32 × MS)) (hk12 : ∀ (v1 : Int32) (s0 : MS), k12 v1 s0 = some res → J E 2 (wM (jg E) a0 s0) 12 [(0, .ref (a0 0)), (1, .int v1)] []) : ∀ (v1 : Int32) (t1 : Int32) (t2 : Int32) (s0 : MS), f_X12_isRead_34 k12 v1 t1 t2 s0 = some res → J E 2 (wM (jg E) a0 s0) 34 [(0, .ref (a0 0)), (1, .int v1)] [.int t2, .int t1, .ref (a0 2)] := by
  intro v1 t1 t2 s0 h
  unfold f_X12_isRead_34 at h
  obtain ⟨hg, h⟩ := jgd_some h
  refine j_iast (pc' := 35) (ws' := (wM (jg E) a0 (M_read_s s0 (upd (M_read s0) (Int32.toNatClampNeg t1) t2)))) K dX12_isRead_34 hrw 2 rfl hg (st_M_2 ..) rfl ?_
  refine j_iinc (pc' := 38) (j := 1) (v := (v1 + (1 : Int32))) (lv' := [(1, .int (v1 + (1 : Int32))), (0, .ref (a0 0))]) K dX12_isRead_35 rfl rfl (by decide) rfl rfl ?_
  refine j_goto (tgt := 12) K dX12_isRead_38 (by decide) ?_
  refine j_sub [1, 0] rfl ?_
  exact hk12 (v1 + (1 : Int32)) (M_read_s s0 (upd (M_read s0) (Int32.toNatClampNeg t1) t2)) h
set_option maxRecDepth 100000 in
set_option maxHeartbeats 4000000 in
theorem b_X12_isRead_12 {E : jE} (a0 : Nat → Nat) {res : Int32 × MS} (K : jC E cX12_isRead 2 RX12 3) (hrw : jrw E) (HR : jRZ E cX12_isRead 2 (wM (jg E) a0 (res.2)) (res.1)) : ∀ (n : Nat) (v1 : Int32) (s0 : MS), f_X12_isRead_12 n v1 s0 = some res → J E 2 (wM (jg E) a0 s0) 12 [(0, .ref (a0 0)), (1, .int v1)] [] := by
  intro n
  induction n with
  | zero => intro _ _ h; cases h
  | succ n ih =>
    intro v1 s0 h
    rw [f_X12_isRead_12] at h
    refine j_iload_n (pc' := 13) K dX12_isRead_12 rfl 1 rfl rfl ?_
    refine j_bipush (pc' := 15) (v := (7 : Int32)) K dX12_isRead_13 (by decide) rfl ?_
    refine j_icmp_ge (pc' := 18) (tgt := 41) K dX12_isRead_15 (by decide) rfl (fun hc => ?_) (fun hc => ?_)
    · have h := jit hc h
      refine j_sub [0] rfl ?_
      exact b_X12_isRead_41 a0 K hrw HR jFU s0 h
    · have h := jif hc h
      refine j_aload_n (pc' := 19) K dX12_isRead_18 rfl 0 rfl rfl ?_
      refine j_get (pc' := 22) K dX12_isRead_19 inX12 0 rfl rfl 5 (by decide) u_4_40 rfl rfl rfl ?_
      refine j_iload_n (pc' := 23) K dX12_isRead_22 rfl 1 rfl rfl ?_
      refine j_iload_n (pc' := 24) K dX12_isRead_23 rfl 1 rfl rfl ?_
      refine j_bipush (pc' := 26) (v := (6 : Int32)) K dX12_isRead_24 (by decide) rfl ?_
      refine j_icmp_ne (pc' := 29) (tgt := 33) K dX12_isRead_26 (by decide) rfl (fun hc => ?_) (fun hc => ?_)
      · have h := jif hc h
        refine j_iconst (pc' := 34) (v := (0 : Int32)) K dX12_isRead_33 (by decide) rfl ?_
        refine j_sub [0, 1] rfl ?_
        exact b_X12_isRead_34 a0 K hrw HR (f_X12_isRead_12 n) (ih) v1 v1 (0 : Int32) s0 h
      · have h := jit hc h
        refine j_iconst (pc' := 30) (v := (1 : Int32)) K dX12_isRead_29 (by decide) rfl ?_
        refine j_goto (tgt := 34) K dX12_isRead_30 (by decide) ?_
        refine j_sub [0, 1] rfl ?_
        exact b_X12_isRead_34 a0 K hrw HR (f_X12_isRead_12 n) (ih) v1 v1 (1 : Int32) s0 h
set_option maxRecDepth 100000 in
set_option maxHeartbeats 4000000 in
theorem b_X12_isRead {E : jE} (a0 : Nat → Nat) {res : Int32 × MS} (K : jC E cX12_isRead 2 RX12 3) (hrw : jrw E) (HR : jRZ E cX12_isRead 2 (wM (jg E) a0 (res.2)) (res.1)) : ∀ (s0 : MS), f_X12_isRead s0 = some res → J E 2 (wM (jg E) a0 s0) 0 [(0, .ref (a0 0))] [] := by
  intro s0 h
  unfold f_X12_isRead at h
  refine j_aload_n (pc' := 1) K dX12_isRead_0 rfl 0 rfl rfl ?_
  refine j_iconst (pc' := 2) (v := (0 : Int32)) K dX12_isRead_1 (by decide) rfl ?_
  refine j_put (pc' := 5) (ws' := (wM (jg E) a0 (M_position_s s0 (0 : Int32)))) K dX12_isRead_2 hrw inX12 tyX12 tyX12_ok nmX12 0 rfl rfl 2 (by decide) u_4_37 rfl rfl rfl rfl (Nat.le_of_ble_eq_true rfl) (st_M_0_2 ..) rfl ?_
  refine j_aload_n (pc' := 6) K dX12_isRead_5 rfl 0 rfl rfl ?_
  refine j_iconst (pc' := 7) (v := (0 : Int32)) K dX12_isRead_6 (by decide) rfl ?_
  refine j_put (pc' := 10) (ws' := (wM (jg E) a0 (M_readMany_s (M_position_s s0 (0 : Int32)) (0 : Int32)))) K dX12_isRead_7 hrw inX12 tyX12 tyX12_ok nmX12 0 rfl rfl 4 (by decide) u_4_39 rfl rfl rfl rfl (Nat.le_of_ble_eq_true rfl) (st_M_0_4 ..) rfl ?_
  refine j_iconst (pc' := 11) (v := (0 : Int32)) K dX12_isRead_10 (by decide) rfl ?_
  refine j_istore_n (pc' := 12) (lv' := [(1, .int (0 : Int32)), (0, .ref (a0 0))]) K dX12_isRead_11 rfl (by decide) rfl rfl ?_
  refine j_sub [1, 0] rfl ?_
  exact b_X12_isRead_12 a0 K hrw HR jFU (0 : Int32) (M_readMany_s (M_position_s s0 (0 : Int32)) (0 : Int32)) h
set_option maxRecDepth 100000 in
set_option maxHeartbeats 4000000 in
theorem M_X12_isRead (l : Launch) (G : jG) (a0 : Nat → Nat) (s0 : MS) {r : Int32 × MS} (h : f_X12_isRead s0 = some r) : MC l yX12_isRead cX12_isRead 2 (some .boolean) 3 G (jad (wM G a0 s0)) True (wM G a0 s0) (wM G a0 (r.2)) [.ref (a0 0)] (some (.int (r.1))) := by
  refine mc_bool (by decide +kernel) (Nat.le_of_ble_eq_true rfl) fun E hl hg hA hrw K HR => ?_
  subst hl
  subst hg
  have hrw : jrw E := by rw [hrw]; trivial
  exact b_X12_isRead a0 K hrw HR s0 h
theorem ok_X12_fault : yX12_fault.cls ≠ "java/lang/invoke/MethodHandle" ∧ yX12_fault.cls ≠ "java/lang/invoke/VarHandle" ∧ (parseMethodDescriptor yX12_fault.desc).map (fun d => d.parameters.length) = some 0 := ⟨by decide, by decide, by decide +kernel⟩
def f_X12_fault (s0 : MS) : Option (Int32 × MS) :=
   jbd (f_X12_isRead s0) (fun r1 =>
   if (r1.1) = 0 then
    some ((M_begin (r1.2)), (r1.2))
   else
    some ((-4 : Int32), (r1.2)))
set_option maxRecDepth 100000 in
set_option maxHeartbeats 4000000 in
theorem b_X12_fault {E : jE} (a0 : Nat → Nat) {res : Int32 × MS} (K : jC E cX12_fault 1 RX12 4) (hrw : jrw E) (HR : jRI E cX12_fault 1 (wM (jg E) a0 (res.2)) (res.1)) : ∀ (s0 : MS), f_X12_fault s0 = some res → J E 1 (wM (jg E) a0 s0) 0 [(0, .ref (a0 0))] [] := by
  intro s0 h
  unfold f_X12_fault at h
  refine j_aload_n (pc' := 1) K dX12_fault_0 rfl 0 rfl rfl ?_
  obtain ⟨r1, hr1, h⟩ := jbd_some h
  refine j_rw (pc' := 4) (ws' := (wM (jg E) a0 (r1.2))) K (fun H hP => jrun_V K dX12_fault_1 (M_X12_isRead (jl E) (jg E) a0 s0 hr1) u_4_120 u_4_117 u_4_119 u_p_20 u_1_13 ⟨ok_X12_isRead, by decide, by decide⟩ rfl (Nat.le_of_ble_eq_true rfl) 0 rfl rfl H hP) hrw [0, 1, 2, 3, 4, 5, 6, 7, 8, 9, 10, 11, 12, 13, 14, 15, 16] rfl (cl_56_s ..) rfl (cl_56_m ..) (ad_M ..) rfl ?_
  refine j_if_eq (pc' := 7) (tgt := 12) K dX12_fault_4 (by decide) rfl (fun hc => ?_) (fun hc => ?_)
  · have h := jit hc h
    refine j_aload_n (pc' := 13) K dX12_fault_12 rfl 0 rfl rfl ?_
    refine j_get (pc' := 16) K dX12_fault_13 inX12 0 rfl rfl 3 (by decide) u_4_38 rfl rfl rfl ?_
    obtain rfl := Option.some.inj h
    exact HR _ _ dX12_fault_16
  · have h := jif hc h
    refine j_bipush (pc' := 9) (v := (-4 : Int32)) K dX12_fault_7 (by decide) rfl ?_
    refine j_goto (tgt := 16) K dX12_fault_9 (by decide) ?_
    obtain rfl := Option.some.inj h
    exact HR _ _ dX12_fault_16
set_option maxRecDepth 100000 in
set_option maxHeartbeats 4000000 in
theorem M_X12_fault (l : Launch) (G : jG) (a0 : Nat → Nat) (s0 : MS) {r : Int32 × MS} (h : f_X12_fault s0 = some r) : MC l yX12_fault cX12_fault 1 (some .int) 4 G (jad (wM G a0 s0)) True (wM G a0 s0) (wM G a0 (r.2)) [.ref (a0 0)] (some (.int (r.1))) := by
  refine mc_int (by decide +kernel) (Nat.le_of_ble_eq_true rfl) fun E hl hg hA hrw K HR => ?_
  subst hl
  subst hg
  have hrw : jrw E := by rw [hrw]; trivial
  exact b_X12_fault a0 K hrw HR s0 h
theorem ok_X12_lay : yX12_lay.cls ≠ "java/lang/invoke/MethodHandle" ∧ yX12_lay.cls ≠ "java/lang/invoke/VarHandle" ∧ (parseMethodDescriptor yX12_lay.desc).map (fun d => d.parameters.length) = some 1 := ⟨by decide, by decide, by decide +kernel⟩
def f_X12_lay_50 (v1 : Int32) (s0 : MS) : Option (Int32 × MS) :=
   jgd v1 4 (
   some ((M_readMany (M_items_s s0 (upd (M_items s0) (Int32.toNatClampNeg v1) (M_readMany s0)))), (M_items_s s0 (upd (M_items s0) (Int32.toNatClampNeg v1) (M_readMany s0)))))
def f_X12_lay_21 : Nat → Int32 → Int32 → MS → Option (Int32 × MS)
  | 0, _, _, _ => none
  | n + 1, v1, v2, s0 =>
   if (7 : Int32) ≤ v2 then
   f_X12_lay_50 v1 s0
  else
   jgd v2 7 (
    jgd (((7 : Int32) * v1) + v2) 28 (
     (f_X12_lay_21 n) v1 (v2 + (1 : Int32)) (M_law_s s0 (upd (M_law s0) (Int32.toNatClampNeg (((7 : Int32) * v1) + v2)) ((M_read s0) (Int32.toNatClampNeg v2))))))
def f_X12_lay (v1 : Int32) (s0 : MS) : Option (Int32 × MS) :=
   jbd (f_X12_isLaw v1) (fun r1 =>
   if r1 = 0 then
    some ((-1 : Int32), s0)
   else
    jbd (f_X12_isRead s0) (fun r10 =>
     if (r10.1) = 0 then
      some ((-2 : Int32), (r10.2))
     else
      f_X12_lay_21 jFU v1 (0 : Int32) (r10.2)))
set_option maxRecDepth 100000 in
set_option maxHeartbeats 4000000 in
theorem b_X12_lay_50 {E : jE} (a0 : Nat → Nat) {res : Int32 × MS} (K : jC E cX12_lay 3 RX12 4) (hrw : jrw E) (HR : jRI E cX12_lay 3 (wM (jg E) a0 (res.2)) (res.1)) : ∀ (v1 : Int32) (s0 : MS), f_X12_lay_50 v1 s0 = some res → J E 3 (wM (jg E) a0 s0) 50 [(0, .ref (a0 0)), (1, .int v1)] [] := by
  intro v1 s0 h
  unfold f_X12_lay_50 at h
  refine j_aload_n (pc' := 51) K dX12_lay_50 rfl 0 rfl rfl ?_
  refine j_get (pc' := 54) K dX12_lay_51 inX12 0 rfl rfl 7 (by decide) u_4_42 rfl rfl rfl ?_
  refine j_iload_n (pc' := 55) K dX12_lay_54 rfl 1 rfl rfl ?_
  refine j_aload_n (pc' := 56) K dX12_lay_55 rfl 0 rfl rfl ?_
  refine j_get (pc' := 59) K dX12_lay_56 inX12 0 rfl rfl 4 (by decide) u_4_39 rfl rfl rfl ?_
  obtain ⟨hg, h⟩ := jgd_some h
  refine j_iast (pc' := 60) (ws' := (wM (jg E) a0 (M_items_s s0 (upd (M_items s0) (Int32.toNatClampNeg v1) (M_readMany s0))))) K dX12_lay_59 hrw 4 rfl hg (st_M_4 ..) rfl ?_
  refine j_aload_n (pc' := 61) K dX12_lay_60 rfl 0 rfl rfl ?_
  refine j_get (pc' := 64) K dX12_lay_61 inX12 0 rfl rfl 4 (by decide) u_4_39 rfl rfl rfl ?_
  obtain rfl := Option.some.inj h
  exact HR _ _ dX12_lay_64
set_option maxRecDepth 100000 in
set_option maxHeartbeats 4000000 in
theorem b_X12_lay_21 {E : jE} (a0 : Nat → Nat) {res : Int32 × MS} (K : jC E cX12_lay 3 RX12 4) (hrw : jrw E) (HR : jRI E cX12_lay 3 (wM (jg E) a0 (res.2)) (res.1)) : ∀ (n : Nat) (v1 : Int32) (v2 : Int32) (s0 : MS), f_X12_lay_21 n v1 v2 s0 = some res → J E 3 (wM (jg E) a0 s0) 21 [(0, .ref (a0 0)), (1, .int v1), (2, .int v2)] [] := by
  intro n
  induction n with
  | zero => intro _ _ _ h; cases h
  | succ n ih =>
    intro v1 v2 s0 h
    rw [f_X12_lay_21] at h
    refine j_iload_n (pc' := 22) K dX12_lay_21 rfl 2 rfl rfl ?_
    refine j_bipush (pc' := 24) (v := (7 : Int32)) K dX12_lay_22 (by decide) rfl ?_
    refine j_icmp_ge (pc' := 27) (tgt := 50) K dX12_lay_24 (by decide) rfl (fun hc => ?_) (fun hc => ?_)
    · have h := jit hc h
      refine j_sub [0, 1] rfl ?_
      exact b_X12_lay_50 a0 K hrw HR v1 s0 h
    · have h := jif hc h
      refine j_aload_n (pc' := 28) K dX12_lay_27 rfl 0 rfl rfl ?_
      refine j_get (pc' := 31) K dX12_lay_28 inX12 0 rfl rfl 6 (by decide) u_4_41 rfl rfl rfl ?_
      refine j_bipush (pc' := 33) (v := (7 : Int32)) K dX12_lay_31 (by decide) rfl ?_
      refine j_iload_n (pc' := 34) K dX12_lay_33 rfl 1 rfl rfl ?_
      refine j_imul (pc' := 35) K dX12_lay_34 rfl ?_
      refine j_iload_n (pc' := 36) K dX12_lay_35 rfl 2 rfl rfl ?_
      refine j_iadd (pc' := 37) K dX12_lay_36 rfl ?_
      refine j_aload_n (pc' := 38) K dX12_lay_37 rfl 0 rfl rfl ?_
      refine j_get (pc' := 41) K dX12_lay_38 inX12 0 rfl rfl 5 (by decide) u_4_40 rfl rfl rfl ?_
      refine j_iload_n (pc' := 42) K dX12_lay_41 rfl 2 rfl rfl ?_
      obtain ⟨hg, h⟩ := jgd_some h
      refine j_iald (pc' := 43) K dX12_lay_42 2 rfl hg rfl ?_
      obtain ⟨hg, h⟩ := jgd_some h
      refine j_iast (pc' := 44) (ws' := (wM (jg E) a0 (M_law_s s0 (upd (M_law s0) (Int32.toNatClampNeg (((7 : Int32) * v1) + v2)) ((M_read s0) (Int32.toNatClampNeg v2)))))) K dX12_lay_43 hrw 3 rfl hg (st_M_3 ..) rfl ?_
      refine j_iinc (pc' := 47) (j := 2) (v := (v2 + (1 : Int32))) (lv' := [(2, .int (v2 + (1 : Int32))), (0, .ref (a0 0)), (1, .int v1)]) K dX12_lay_44 rfl rfl (by decide) rfl rfl ?_
      refine j_goto (tgt := 21) K dX12_lay_47 (by decide) ?_
      refine j_sub [1, 2, 0] rfl ?_
      exact ih v1 (v2 + (1 : Int32)) (M_law_s s0 (upd (M_law s0) (Int32.toNatClampNeg (((7 : Int32) * v1) + v2)) ((M_read s0) (Int32.toNatClampNeg v2)))) h
set_option maxRecDepth 100000 in
set_option maxHeartbeats 4000000 in
theorem b_X12_lay {E : jE} (a0 : Nat → Nat) {res : Int32 × MS} (K : jC E cX12_lay 3 RX12 4) (hrw : jrw E) (HR : jRI E cX12_lay 3 (wM (jg E) a0 (res.2)) (res.1)) : ∀ (v1 : Int32) (s0 : MS), f_X12_lay v1 s0 = some res → J E 3 (wM (jg E) a0 s0) 0 [(0, .ref (a0 0)), (1, .int v1)] [] := by
  intro v1 s0 h
  unfold f_X12_lay at h
  refine j_iload_n (pc' := 1) K dX12_lay_0 rfl 1 rfl rfl ?_
  obtain ⟨r1, hr1, h⟩ := jbd_some h
  refine j_ro (pc' := 4) K (fun H hP => jrun_S K dX12_lay_1 (M_X12_isLaw (jl E) (jg E) v1 hr1) u_4_140 u_4_138 u_4_139 u_1_13 ⟨ok_X12_isLaw, by decide, by decide⟩ rfl (Nat.le_of_ble_eq_true rfl) H) [] rfl rfl ?_
  refine j_if_ne (pc' := 7) (tgt := 9) K dX12_lay_4 (by decide) rfl (fun hc => ?_) (fun hc => ?_)
  · have h := jif hc h
    refine j_aload_n (pc' := 10) K dX12_lay_9 rfl 0 rfl rfl ?_
    obtain ⟨r10, hr10, h⟩ := jbd_some h
    refine j_rw (pc' := 13) (ws' := (wM (jg E) a0 (r10.2))) K (fun H hP => jrun_V K dX12_lay_10 (M_X12_isRead (jl E) (jg E) a0 s0 hr10) u_4_120 u_4_117 u_4_119 u_p_20 u_1_13 ⟨ok_X12_isRead, by decide, by decide⟩ rfl (Nat.le_of_ble_eq_true rfl) 0 rfl rfl H hP) hrw [0, 1, 2, 3, 4, 5, 6, 7, 8, 9, 10, 11, 12, 13, 14, 15, 16] rfl (cl_56_s ..) rfl (cl_56_m ..) (ad_M ..) rfl ?_
    refine j_if_ne (pc' := 16) (tgt := 19) K dX12_lay_13 (by decide) rfl (fun hc => ?_) (fun hc => ?_)
    · have h := jif hc h
      refine j_iconst (pc' := 20) (v := (0 : Int32)) K dX12_lay_19 (by decide) rfl ?_
      refine j_istore_n (pc' := 21) (lv' := [(2, .int (0 : Int32)), (0, .ref (a0 0)), (1, .int v1)]) K dX12_lay_20 rfl (by decide) rfl rfl ?_
      refine j_sub [1, 2, 0] rfl ?_
      exact b_X12_lay_21 a0 K hrw HR jFU v1 (0 : Int32) (r10.2) h
    · have h := jit hc h
      refine j_bipush (pc' := 18) (v := (-2 : Int32)) K dX12_lay_16 (by decide) rfl ?_
      obtain rfl := Option.some.inj h
      exact HR _ _ dX12_lay_18
  · have h := jit hc h
    refine j_iconst (pc' := 8) (v := (-1 : Int32)) K dX12_lay_7 (by decide) rfl ?_
    obtain rfl := Option.some.inj h
    exact HR _ _ dX12_lay_8
set_option maxRecDepth 100000 in
set_option maxHeartbeats 4000000 in
theorem M_X12_lay (l : Launch) (G : jG) (a0 : Nat → Nat) (v1 : Int32) (s0 : MS) {r : Int32 × MS} (h : f_X12_lay v1 s0 = some r) : MC l yX12_lay cX12_lay 3 (some .int) 4 G (jad (wM G a0 s0)) True (wM G a0 s0) (wM G a0 (r.2)) [.ref (a0 0), .int v1] (some (.int (r.1))) := by
  refine mc_int (by decide +kernel) (Nat.le_of_ble_eq_true rfl) fun E hl hg hA hrw K HR => ?_
  subst hl
  subst hg
  have hrw : jrw E := by rw [hrw]; trivial
  exact b_X12_lay a0 K hrw HR v1 s0 h
theorem ok_X12_comes : yX12_comes.cls ≠ "java/lang/invoke/MethodHandle" ∧ yX12_comes.cls ≠ "java/lang/invoke/VarHandle" ∧ (parseMethodDescriptor yX12_comes.desc).map (fun d => d.parameters.length) = some 4 := ⟨by decide, by decide, by decide +kernel⟩
def f_X12_comes (v1 : Int32) (v2 : Int32) (v3 : Int32) (v4 : Int32) (s0 : MS) : Option (Int32) :=
   jgd (((7 : Int32) * v1) + v2) 28 (
   jgd ((((7 : Int32) * v1) + v2) + (1 : Int32)) 28 (
    jgd ((((7 : Int32) * v1) + v2) + (2 : Int32)) 28 (
     some ((((M_law s0) (Int32.toNatClampNeg (((7 : Int32) * v1) + v2))) + (((M_law s0) (Int32.toNatClampNeg ((((7 : Int32) * v1) + v2) + (1 : Int32)))) * v3)) + (((M_law s0) (Int32.toNatClampNeg ((((7 : Int32) * v1) + v2) + (2 : Int32)))) * v4)))))
set_option maxRecDepth 100000 in
set_option maxHeartbeats 4000000 in
theorem b_X12_comes {E : jE} (a0 : Nat → Nat) (s0 : MS) {res : Int32} (K : jC E cX12_comes 5 RX12 0) (HR : jRI E cX12_comes 5 (wM (jg E) a0 s0) res) : ∀ (v1 : Int32) (v2 : Int32) (v3 : Int32) (v4 : Int32), f_X12_comes v1 v2 v3 v4 s0 = some res → J E 5 (wM (jg E) a0 s0) 0 [(0, .ref (a0 0)), (1, .int v1), (2, .int v2), (3, .int v3), (4, .int v4)] [] := by
  intro v1 v2 v3 v4 h
  unfold f_X12_comes at h
  refine j_aload_n (pc' := 1) K dX12_comes_0 rfl 0 rfl rfl ?_
  refine j_get (pc' := 4) K dX12_comes_1 inX12 0 rfl rfl 6 (by decide) u_4_41 rfl rfl rfl ?_
  refine j_bipush (pc' := 6) (v := (7 : Int32)) K dX12_comes_4 (by decide) rfl ?_
  refine j_iload_n (pc' := 7) K dX12_comes_6 rfl 1 rfl rfl ?_
  refine j_imul (pc' := 8) K dX12_comes_7 rfl ?_
  refine j_iload_n (pc' := 9) K dX12_comes_8 rfl 2 rfl rfl ?_
  refine j_iadd (pc' := 10) K dX12_comes_9 rfl ?_
  obtain ⟨hg, h⟩ := jgd_some h
  refine j_iald (pc' := 11) K dX12_comes_10 3 rfl hg rfl ?_
  refine j_aload_n (pc' := 12) K dX12_comes_11 rfl 0 rfl rfl ?_
  refine j_get (pc' := 15) K dX12_comes_12 inX12 0 rfl rfl 6 (by decide) u_4_41 rfl rfl rfl ?_
  refine j_bipush (pc' := 17) (v := (7 : Int32)) K dX12_comes_15 (by decide) rfl ?_
  refine j_iload_n (pc' := 18) K dX12_comes_17 rfl 1 rfl rfl ?_
  refine j_imul (pc' := 19) K dX12_comes_18 rfl ?_
  refine j_iload_n (pc' := 20) K dX12_comes_19 rfl 2 rfl rfl ?_
  refine j_iadd (pc' := 21) K dX12_comes_20 rfl ?_
  refine j_iconst (pc' := 22) (v := (1 : Int32)) K dX12_comes_21 (by decide) rfl ?_
  refine j_iadd (pc' := 23) K dX12_comes_22 rfl ?_
  obtain ⟨hg, h⟩ := jgd_some h
  refine j_iald (pc' := 24) K dX12_comes_23 3 rfl hg rfl ?_
  refine j_iload_n (pc' := 25) K dX12_comes_24 rfl 3 rfl rfl ?_
  refine j_imul (pc' := 26) K dX12_comes_25 rfl ?_
  refine j_iadd (pc' := 27) K dX12_comes_26 rfl ?_
  refine j_aload_n (pc' := 28) K dX12_comes_27 rfl 0 rfl rfl ?_
  refine j_get (pc' := 31) K dX12_comes_28 inX12 0 rfl rfl 6 (by decide) u_4_41 rfl rfl rfl ?_
  refine j_bipush (pc' := 33) (v := (7 : Int32)) K dX12_comes_31 (by decide) rfl ?_
  refine j_iload_n (pc' := 34) K dX12_comes_33 rfl 1 rfl rfl ?_
  refine j_imul (pc' := 35) K dX12_comes_34 rfl ?_
  refine j_iload_n (pc' := 36) K dX12_comes_35 rfl 2 rfl rfl ?_
  refine j_iadd (pc' := 37) K dX12_comes_36 rfl ?_
  refine j_iconst (pc' := 38) (v := (2 : Int32)) K dX12_comes_37 (by decide) rfl ?_
  refine j_iadd (pc' := 39) K dX12_comes_38 rfl ?_
  obtain ⟨hg, h⟩ := jgd_some h
  refine j_iald (pc' := 40) K dX12_comes_39 3 rfl hg rfl ?_
  refine j_iload (pc' := 42) K dX12_comes_40 4 rfl rfl ?_
  refine j_imul (pc' := 43) K dX12_comes_42 rfl ?_
  refine j_iadd (pc' := 44) K dX12_comes_43 rfl ?_
  obtain rfl := Option.some.inj h
  exact HR _ _ dX12_comes_44
set_option maxRecDepth 100000 in
set_option maxHeartbeats 4000000 in
theorem M_X12_comes (l : Launch) (G : jG) (a0 : Nat → Nat) (v1 : Int32) (v2 : Int32) (v3 : Int32) (v4 : Int32) (s0 : MS) {r : Int32} (h : f_X12_comes v1 v2 v3 v4 s0 = some r) : MC l yX12_comes cX12_comes 5 (some .int) 0 G jNo False (wM G a0 s0) (wM G a0 s0) [.ref (a0 0), .int v1, .int v2, .int v3, .int v4] (some (.int r)) := by
  refine mc_int (by decide +kernel) (Nat.le_of_ble_eq_true rfl) fun E hl hg hA hrw K HR => ?_
  subst hl
  subst hg
  exact b_X12_comes a0 s0 K HR v1 v2 v3 v4 h
theorem ok_X12_findRows : yX12_findRows.cls ≠ "java/lang/invoke/MethodHandle" ∧ yX12_findRows.cls ≠ "java/lang/invoke/VarHandle" ∧ (parseMethodDescriptor yX12_findRows.desc).map (fun d => d.parameters.length) = some 3 := ⟨by decide, by decide, by decide +kernel⟩
def f_X12_findRows_331 (k39 : Int32 → Int32 → Int32 → Int32 → MS → Option (MS)) (v1 : Int32) (v2 : Int32) (v3 : Int32) (v4 : Int32) (s0 : MS) : Option (MS) :=
   k39 v1 v2 v3 (v4 + (1 : Int32)) s0
def f_X12_findRows_324 (k39 : Int32 → Int32 → Int32 → Int32 → MS → Option (MS)) (k48 : Int32 → Int32 → Int32 → Int32 → Int32 → MS → Option (MS)) (v1 : Int32) (v2 : Int32) (v3 : Int32) (v4 : Int32) (v5 : Int32) (t1 : Int32) (t2 : Int64) (s0 : MS) : Option (MS) :=
   jgd t1 650 (
   k48 v1 v2 v3 v4 (v5 + (1 : Int32)) (M_cell_s s0 (vp_updL (M_cell s0) (Int32.toNatClampNeg t1) t2)))
def f_X12_findRows_284 (k39 : Int32 → Int32 → Int32 → Int32 → MS → Option (MS)) (k48 : Int32 → Int32 → Int32 → Int32 → Int32 → MS → Option (MS)) (v1 : Int32) (v2 : Int32) (v3 : Int32) (v4 : Int32) (v5 : Int32) (v11 : Int64) (t0 : Int32) (s0 : MS) : Option (MS) :=
   jbd (f_X12_at v1 v4 v5) (fun r295 =>
   jgd r295 650 (
    jbd (f_X12_at v1 v4 v5) (fun r310 =>
     if t0 = 0 then
      f_X12_findRows_324 k39 k48 v1 v2 v3 v4 v5 r310 v11 (M_isGreat_s s0 (upd (M_isGreat s0) (Int32.toNatClampNeg r295) (vp_nar .boolean t0)))
     else
      f_X12_findRows_324 k39 k48 v1 v2 v3 v4 v5 r310 (0 : Int64) (M_isGreat_s s0 (upd (M_isGreat s0) (Int32.toNatClampNeg r295) (vp_nar .boolean t0))))))
def f_X12_findRows_279 (k39 : Int32 → Int32 → Int32 → Int32 → MS → Option (MS)) (k48 : Int32 → Int32 → Int32 → Int32 → Int32 → MS → Option (MS)) (v1 : Int32) (v2 : Int32) (v3 : Int32) (v4 : Int32) (v5 : Int32) (v11 : Int64) (s0 : MS) : Option (MS) :=
   f_X12_findRows_284 k39 k48 v1 v2 v3 v4 v5 v11 (1 : Int32) s0
def f_X12_findRows_264 (k39 : Int32 → Int32 → Int32 → Int32 → MS → Option (MS)) (k48 : Int32 → Int32 → Int32 → Int32 → Int32 → MS → Option (MS)) (v1 : Int32) (v2 : Int32) (v3 : Int32) (v4 : Int32) (v5 : Int32) (v10 : Int32) (t0 : Int64) (s0 : MS) : Option (MS) :=
   if v10 = 0 then
   jbd (f_X12_isBeyond t0) (fun r273 =>
    if r273 = 0 then
     f_X12_findRows_284 k39 k48 v1 v2 v3 v4 v5 t0 (0 : Int32) s0
    else
     f_X12_findRows_279 k39 k48 v1 v2 v3 v4 v5 t0 s0)
  else
   f_X12_findRows_279 k39 k48 v1 v2 v3 v4 v5 t0 s0
def f_X12_findRows_263 (k39 : Int32 → Int32 → Int32 → Int32 → MS → Option (MS)) (k48 : Int32 → Int32 → Int32 → Int32 → Int32 → MS → Option (MS)) (v1 : Int32) (v2 : Int32) (v3 : Int32) (v4 : Int32) (v5 : Int32) (v10 : Int32) (t0 : Int64) (t1 : Int64) (s0 : MS) : Option (MS) :=
   f_X12_findRows_264 k39 k48 v1 v2 v3 v4 v5 v10 (t0 + t1) s0
def f_X12_findRows_243 (k39 : Int32 → Int32 → Int32 → Int32 → MS → Option (MS)) (k48 : Int32 → Int32 → Int32 → Int32 → Int32 → MS → Option (MS)) (v1 : Int32) (v2 : Int32) (v3 : Int32) (v4 : Int32) (v5 : Int32) (v7 : Int32) (v9 : Int32) (v10 : Int32) (t0 : Int64) (s0 : MS) : Option (MS) :=
   if v7 = 0 then
   f_X12_findRows_263 k39 k48 v1 v2 v3 v4 v5 v10 t0 (0 : Int64) s0
  else
   jgd v9 650 (
    f_X12_findRows_263 k39 k48 v1 v2 v3 v4 v5 v10 t0 ((Int32.toInt64 v7) * ((M_cell s0) (Int32.toNatClampNeg v9))) s0)
def f_X12_findRows_212 (k39 : Int32 → Int32 → Int32 → Int32 → MS → Option (MS)) (k48 : Int32 → Int32 → Int32 → Int32 → Int32 → MS → Option (MS)) (v1 : Int32) (v2 : Int32) (v3 : Int32) (v4 : Int32) (v5 : Int32) (v6 : Int32) (v7 : Int32) (v8 : Int32) (v9 : Int32) (t0 : Int32) (s0 : MS) : Option (MS) :=
   if t0 = 0 then
   if v6 = 0 then
    f_X12_findRows_243 k39 k48 v1 v2 v3 v4 v5 v7 v9 t0 (0 : Int64) s0
   else
    jgd v8 650 (
     f_X12_findRows_243 k39 k48 v1 v2 v3 v4 v5 v7 v9 t0 ((Int32.toInt64 v6) * ((M_cell s0) (Int32.toNatClampNeg v8))) s0)
  else
   f_X12_findRows_264 k39 k48 v1 v2 v3 v4 v5 t0 (0 : Int64) s0
def f_X12_findRows_211 (k39 : Int32 → Int32 → Int32 → Int32 → MS → Option (MS)) (k48 : Int32 → Int32 → Int32 → Int32 → Int32 → MS → Option (MS)) (v1 : Int32) (v2 : Int32) (v3 : Int32) (v4 : Int32) (v5 : Int32) (v6 : Int32) (v7 : Int32) (v8 : Int32) (v9 : Int32) (s0 : MS) : Option (MS) :=
   f_X12_findRows_212 k39 k48 v1 v2 v3 v4 v5 v6 v7 v8 v9 (0 : Int32) s0
def f_X12_findRows_207 (k39 : Int32 → Int32 → Int32 → Int32 → MS → Option (MS)) (k48 : Int32 → Int32 → Int32 → Int32 → Int32 → MS → Option (MS)) (v1 : Int32) (v2 : Int32) (v3 : Int32) (v4 : Int32) (v5 : Int32) (v6 : Int32) (v7 : Int32) (v8 : Int32) (v9 : Int32) (s0 : MS) : Option (MS) :=
   f_X12_findRows_212 k39 k48 v1 v2 v3 v4 v5 v6 v7 v8 v9 (1 : Int32) s0
def f_X12_findRows_176 (k39 : Int32 → Int32 → Int32 → Int32 → MS → Option (MS)) (k48 : Int32 → Int32 → Int32 → Int32 → Int32 → MS → Option (MS)) (v1 : Int32) (v2 : Int32) (v3 : Int32) (v4 : Int32) (v5 : Int32) (v6 : Int32) (v7 : Int32) (v8 : Int32) (v9 : Int32) (s0 : MS) : Option (MS) :=
   if v7 = 0 then
   f_X12_findRows_211 k39 k48 v1 v2 v3 v4 v5 v6 v7 v8 v9 s0
  else
   jgd v9 650 (
    if ((M_isGreat s0) (Int32.toNatClampNeg v9)) = 0 then
     jgd v9 650 (
      jbd (f_X12_isTooMuch (Int32.toInt64 v7) ((M_cell s0) (Int32.toNatClampNeg v9))) (fun r201 =>
       if r201 = 0 then
        f_X12_findRows_211 k39 k48 v1 v2 v3 v4 v5 v6 v7 v8 v9 s0
       else
        f_X12_findRows_207 k39 k48 v1 v2 v3 v4 v5 v6 v7 v8 v9 s0))
    else
     f_X12_findRows_207 k39 k48 v1 v2 v3 v4 v5 v6 v7 v8 v9 s0)
def f_X12_findRows_140 (k39 : Int32 → Int32 → Int32 → Int32 → MS → Option (MS)) (k48 : Int32 → Int32 → Int32 → Int32 → Int32 → MS → Option (MS)) (v1 : Int32) (v2 : Int32) (v3 : Int32) (v4 : Int32) (v5 : Int32) (v6 : Int32) (v7 : Int32) (v8 : Int32) (t0 : Int32) (t1 : Int32) (t2 : Int32) (s0 : MS) : Option (MS) :=
   jbd (f_X12_at t0 t1 t2) (fun r140 =>
   if v6 = 0 then
    f_X12_findRows_176 k39 k48 v1 v2 v3 v4 v5 v6 v7 v8 r140 s0
   else
    jgd v8 650 (
     if ((M_isGreat s0) (Int32.toNatClampNeg v8)) = 0 then
      jgd v8 650 (
       jbd (f_X12_isTooMuch (Int32.toInt64 v6) ((M_cell s0) (Int32.toNatClampNeg v8))) (fun r170 =>
        if r170 = 0 then
         f_X12_findRows_176 k39 k48 v1 v2 v3 v4 v5 v6 v7 v8 r140 s0
        else
         f_X12_findRows_207 k39 k48 v1 v2 v3 v4 v5 v6 v7 v8 r140 s0))
     else
      f_X12_findRows_207 k39 k48 v1 v2 v3 v4 v5 v6 v7 v8 r140 s0))
def f_X12_findRows_117 (k39 : Int32 → Int32 → Int32 → Int32 → MS → Option (MS)) (k48 : Int32 → Int32 → Int32 → Int32 → Int32 → MS → Option (MS)) (v1 : Int32) (v2 : Int32) (v3 : Int32) (v4 : Int32) (v5 : Int32) (v6 : Int32) (v7 : Int32) (t0 : Int32) (t1 : Int32) (t2 : Int32) (s0 : MS) : Option (MS) :=
   jbd (f_X12_at t0 t1 t2) (fun r117 =>
   if v4 ≤ v5 then
    f_X12_findRows_140 k39 k48 v1 v2 v3 v4 v5 v6 v7 r117 v1 (v4 - (1 : Int32)) (0 : Int32) s0
   else
    f_X12_findRows_140 k39 k48 v1 v2 v3 v4 v5 v6 v7 r117 v1 (v4 - (1 : Int32)) v5 s0)
def f_X12_findRows_97 (k39 : Int32 → Int32 → Int32 → Int32 → MS → Option (MS)) (k48 : Int32 → Int32 → Int32 → Int32 → Int32 → MS → Option (MS)) (v1 : Int32) (v2 : Int32) (v3 : Int32) (v4 : Int32) (v5 : Int32) (v6 : Int32) (t0 : Int32) (s0 : MS) : Option (MS) :=
   if v5 ≤ 0 then
   f_X12_findRows_117 k39 k48 v1 v2 v3 v4 v5 v6 t0 v1 (v4 - (1 : Int32)) (0 : Int32) s0
  else
   f_X12_findRows_117 k39 k48 v1 v2 v3 v4 v5 v6 t0 v1 (v4 - (1 : Int32)) (v5 - (1 : Int32)) s0
def f_X12_findRows_74 (k39 : Int32 → Int32 → Int32 → Int32 → MS → Option (MS)) (k48 : Int32 → Int32 → Int32 → Int32 → Int32 → MS → Option (MS)) (v1 : Int32) (v2 : Int32) (v3 : Int32) (v4 : Int32) (v5 : Int32) (t0 : Int32) (s0 : MS) : Option (MS) :=
   if v4 ≤ v5 then
   f_X12_findRows_97 k39 k48 v1 v2 v3 v4 v5 t0 (0 : Int32) s0
  else
   jbd (f_X12_comes v2 (3 : Int32) v4 v5 s0) (fun r90 =>
    f_X12_findRows_97 k39 k48 v1 v2 v3 v4 v5 t0 r90 s0)
def f_X12_findRows_48 (k39 : Int32 → Int32 → Int32 → Int32 → MS → Option (MS)) : Nat → Int32 → Int32 → Int32 → Int32 → Int32 → MS → Option (MS)
  | 0, _, _, _, _, _, _ => none
  | n + 1, v1, v2, v3, v4, v5, s0 =>
   if v4 < v5 then
   f_X12_findRows_331 k39 v1 v2 v3 v4 s0
  else
   if v5 ≤ 0 then
    f_X12_findRows_74 k39 (f_X12_findRows_48 k39 n) v1 v2 v3 v4 v5 (0 : Int32) s0
   else
    jbd (f_X12_comes v2 (0 : Int32) v4 v5 s0) (fun r67 =>
     f_X12_findRows_74 k39 (f_X12_findRows_48 k39 n) v1 v2 v3 v4 v5 r67 s0)
def f_X12_findRows_39 : Nat → Int32 → Int32 → Int32 → Int32 → MS → Option (MS)
  | 0, _, _, _, _, _ => none
  | n + 1, v1, v2, v3, v4, s0 =>
   if v3 < v4 then
   some s0
  else
   f_X12_findRows_48 (f_X12_findRows_39 n) jFU v1 v2 v3 v4 (0 : Int32) s0
def f_X12_findRows (v1 : Int32) (v2 : Int32) (v3 : Int32) (s0 : MS) : Option (MS) :=
   jbd (f_X12_at v1 (0 : Int32) (0 : Int32)) (fun r7 =>
   jgd (((7 : Int32) * v2) + (6 : Int32)) 28 (
    jgd r7 650 (
     jbd (f_X12_at v1 (0 : Int32) (0 : Int32)) (fun r31 =>
      jgd r31 650 (
       f_X12_findRows_39 jFU v1 v2 v3 (1 : Int32) (M_isGreat_s (M_cell_s s0 (vp_updL (M_cell s0) (Int32.toNatClampNeg r7) (Int32.toInt64 ((M_law s0) (Int32.toNatClampNeg (((7 : Int32) * v2) + (6 : Int32))))))) (upd (M_isGreat (M_cell_s s0 (vp_updL (M_cell s0) (Int32.toNatClampNeg r7) (Int32.toInt64 ((M_law s0) (Int32.toNatClampNeg (((7 : Int32) * v2) + (6 : Int32)))))))) (Int32.toNatClampNeg r31) (vp_nar .boolean (0 : Int32)))))))))
set_option maxRecDepth 100000 in
set_option maxHeartbeats 4000000 in
theorem b_X12_findRows_331 {E : jE} (a0 : Nat → Nat) {res : MS} (K : jC E cX12_findRows 13 RX12 2) (hrw : jrw E) (HR : jRV E cX12_findRows 13 (wM (jg E) a0 res)) (k39 : Int32 → Int32 → Int32 → Int32 → MS → Option (MS)) (hk39 : ∀ (v1 : Int32) (v2 : Int32) (v3 : Int32) (v4 : Int32) (s0 : MS), k39 v1 v2 v3 v4 s0 = some res → J E 13 (wM (jg E) a0 s0) 39 [(0, .ref (a0 0)), (1, .int v1), (2, .int v2), (3, .int v3), (4, .int v4)] []) : ∀ (v1 : Int32) (v2 : Int32) (v3 : Int32) (v4 : Int32) (s0 : MS), f_X12_findRows_331 k39 v1 v2 v3 v4 s0 = some res → J E 13 (wM (jg E) a0 s0) 331 [(0, .ref (a0 0)), (1, .int v1), (2, .int v2), (3, .int v3), (4, .int v4)] [] := by
  intro v1 v2 v3 v4 s0 h
  unfold f_X12_findRows_331 at h
  refine j_iinc (pc' := 334) (j := 4) (v := (v4 + (1 : Int32))) (lv' := [(4, .int (v4 + (1 : Int32))), (0, .ref (a0 0)), (1, .int v1), (2, .int v2), (3, .int v3)]) K dX12_findRows_331 rfl rfl (by decide) rfl rfl ?_
  refine j_goto (tgt := 39) K dX12_findRows_334 (by decide) ?_
  refine j_sub [1, 2, 3, 4, 0] rfl ?_
  exact hk39 v1 v2 v3 (v4 + (1 : Int32)) s0 h
set_option maxRecDepth 100000 in
set_option maxHeartbeats 4000000 in
theorem b_X12_findRows_324 {E : jE} (a0 : Nat → Nat) {res : MS} (K : jC E cX12_findRows 13 RX12 2) (hrw : jrw E) (HR : jRV E cX12_findRows 13 (wM (jg E) a0 res)) (k39 : Int32 → Int32 → Int32 → Int32 → MS → Option (MS)) (k48 : Int32 → Int32 → Int32 → Int32 → Int32 → MS → Option (MS)) (hk39 : ∀ (v1 : Int32) (v2 : Int32) (v3 : Int32) (v4 : Int32) (s0 : MS), k39 v1 v2 v3 v4 s0 = some res → J E 13 (wM (jg E) a0 s0) 39 [(0, .ref (a0 0)), (1, .int v1), (2, .int v2), (3, .int v3), (4, .int v4)] []) (hk48 : ∀ (v1 : Int32) (v2 : Int32) (v3 : Int32) (v4 : Int32) (v5 : Int32) (s0 : MS), k48 v1 v2 v3 v4 v5 s0 = some res → J E 13 (wM (jg E) a0 s0) 48 [(0, .ref (a0 0)), (1, .int v1), (2, .int v2), (3, .int v3), (4, .int v4), (5, .int v5)] []) : ∀ (v1 : Int32) (v2 : Int32) (v3 : Int32) (v4 : Int32) (v5 : Int32) (t1 : Int32) (t2 : Int64) (s0 : MS), f_X12_findRows_324 k39 k48 v1 v2 v3 v4 v5 t1 t2 s0 = some res → J E 13 (wM (jg E) a0 s0) 324 [(0, .ref (a0 0)), (1, .int v1), (2, .int v2), (3, .int v3), (4, .int v4), (5, .int v5)] [.long t2, .int t1, .ref (a0 5)] := by
  intro v1 v2 v3 v4 v5 t1 t2 s0 h
  unfold f_X12_findRows_324 at h
  obtain ⟨hg, h⟩ := jgd_some h
  refine j_last (pc' := 325) (ws' := (wM (jg E) a0 (M_cell_s s0 (vp_updL (M_cell s0) (Int32.toNatClampNeg t1) t2)))) K dX12_findRows_324 hrw 5 rfl hg (st_M_5 ..) rfl ?_
  refine j_iinc (pc' := 328) (j := 5) (v := (v5 + (1 : Int32))) (lv' := [(5, .int (v5 + (1 : Int32))), (0, .ref (a0 0)), (1, .int v1), (2, .int v2), (3, .int v3), (4, .int v4)]) K dX12_findRows_325 rfl rfl (by decide) rfl rfl ?_
  refine j_goto (tgt := 48) K dX12_findRows_328 (by decide) ?_
  refine j_sub [1, 2, 3, 4, 5, 0] rfl ?_
  exact hk48 v1 v2 v3 v4 (v5 + (1 : Int32)) (M_cell_s s0 (vp_updL (M_cell s0) (Int32.toNatClampNeg t1) t2)) h
set_option maxRecDepth 100000 in
set_option maxHeartbeats 4000000 in
theorem b_X12_findRows_284 {E : jE} (a0 : Nat → Nat) {res : MS} (K : jC E cX12_findRows 13 RX12 2) (hrw : jrw E) (HR : jRV E cX12_findRows 13 (wM (jg E) a0 res)) (k39 : Int32 → Int32 → Int32 → Int32 → MS → Option (MS)) (k48 : Int32 → Int32 → Int32 → Int32 → Int32 → MS → Option (MS)) (hk39 : ∀ (v1 : Int32) (v2 : Int32) (v3 : Int32) (v4 : Int32) (s0 : MS), k39 v1 v2 v3 v4 s0 = some res → J E 13 (wM (jg E) a0 s0) 39 [(0, .ref (a0 0)), (1, .int v1), (2, .int v2), (3, .int v3), (4, .int v4)] []) (hk48 : ∀ (v1 : Int32) (v2 : Int32) (v3 : Int32) (v4 : Int32) (v5 : Int32) (s0 : MS), k48 v1 v2 v3 v4 v5 s0 = some res → J E 13 (wM (jg E) a0 s0) 48 [(0, .ref (a0 0)), (1, .int v1), (2, .int v2), (3, .int v3), (4, .int v4), (5, .int v5)] []) : ∀ (v1 : Int32) (v2 : Int32) (v3 : Int32) (v4 : Int32) (v5 : Int32) (v11 : Int64) (t0 : Int32) (s0 : MS), f_X12_findRows_284 k39 k48 v1 v2 v3 v4 v5 v11 t0 s0 = some res → J E 13 (wM (jg E) a0 s0) 284 [(0, .ref (a0 0)), (1, .int v1), (2, .int v2), (3, .int v3), (4, .int v4), (5, .int v5), (11, .long v11)] [.int t0] := by
  intro v1 v2 v3 v4 v5 v11 t0 s0 h
  unfold f_X12_findRows_284 at h
  refine j_istore (pc' := 286) (lv' := [(10, .int t0), (0, .ref (a0 0)), (1, .int v1), (2, .int v2), (3, .int v3), (4, .int v4), (5, .int v5), (11, .long v11)]) K dX12_findRows_284 (by decide) rfl rfl ?_
  refine j_aload_n (pc' := 287) K dX12_findRows_286 rfl 1 rfl rfl ?_
  refine j_get (pc' := 290) K dX12_findRows_287 inX12 0 rfl rfl 9 (by decide) u_4_44 rfl rfl rfl ?_
  refine j_iload_n (pc' := 291) K dX12_findRows_290 rfl 2 rfl rfl ?_
  refine j_iload (pc' := 293) K dX12_findRows_291 5 rfl rfl ?_
  refine j_iload (pc' := 295) K dX12_findRows_293 6 rfl rfl ?_
  obtain ⟨r295, hr295, h⟩ := jbd_some h
  refine j_ro (pc' := 298) K (fun H hP => jrun_S K dX12_findRows_295 (M_X12_at (jl E) (jg E) v1 v4 v5 hr295) u_4_154 u_4_152 u_4_153 u_1_13 ⟨ok_X12_at, by decide, by decide⟩ rfl (Nat.le_of_ble_eq_true rfl) H) [] rfl rfl ?_
  refine j_iload (pc' := 300) K dX12_findRows_298 0 rfl rfl ?_
  obtain ⟨hg, h⟩ := jgd_some h
  refine j_zast (pc' := 301) (ws' := (wM (jg E) a0 (M_isGreat_s s0 (upd (M_isGreat s0) (Int32.toNatClampNeg r295) (vp_nar .boolean t0))))) K dX12_findRows_300 hrw 6 rfl hg (st_M_6 ..) rfl ?_
  refine j_aload_n (pc' := 302) K dX12_findRows_301 rfl 1 rfl rfl ?_
  refine j_get (pc' := 305) K dX12_findRows_302 inX12 0 rfl rfl 8 (by decide) u_4_43 rfl rfl rfl ?_
  refine j_iload_n (pc' := 306) K dX12_findRows_305 rfl 2 rfl rfl ?_
  refine j_iload (pc' := 308) K dX12_findRows_306 5 rfl rfl ?_
  refine j_iload (pc' := 310) K dX12_findRows_308 6 rfl rfl ?_
  obtain ⟨r310, hr310, h⟩ := jbd_some h
  refine j_ro (pc' := 313) K (fun H hP => jrun_S K dX12_findRows_310 (M_X12_at (jl E) (jg E) v1 v4 v5 hr310) u_4_154 u_4_152 u_4_153 u_1_13 ⟨ok_X12_at, by decide, by decide⟩ rfl (Nat.le_of_ble_eq_true rfl) H) [] rfl rfl ?_
  refine j_iload (pc' := 315) K dX12_findRows_313 0 rfl rfl ?_
  refine j_if_eq (pc' := 318) (tgt := 322) K dX12_findRows_315 (by decide) rfl (fun hc => ?_) (fun hc => ?_)
  · have h := jit hc h
    refine j_lload (pc' := 324) K dX12_findRows_322 7 rfl rfl ?_
    refine j_sub [1, 2, 3, 4, 5, 6] rfl ?_
    exact b_X12_findRows_324 a0 K hrw HR k39 k48 hk39 hk48 v1 v2 v3 v4 v5 r310 v11 (M_isGreat_s s0 (upd (M_isGreat s0) (Int32.toNatClampNeg r295) (vp_nar .boolean t0))) h
  · have h := jif hc h
    refine j_lconst (pc' := 319) (v := (0 : Int64)) K dX12_findRows_318 (by decide) rfl ?_
    refine j_goto (tgt := 324) K dX12_findRows_319 (by decide) ?_
    refine j_sub [1, 2, 3, 4, 5, 6] rfl ?_
    exact b_X12_findRows_324 a0 K hrw HR k39 k48 hk39 hk48 v1 v2 v3 v4 v5 r310 (0 : Int64) (M_isGreat_s s0 (upd (M_isGreat s0) (Int32.toNatClampNeg r295) (vp_nar .boolean t0))) h
set_option maxRecDepth 100000 in
set_option maxHeartbeats 4000000 in
theorem b_X12_findRows_279 {E : jE} (a0 : Nat → Nat) {res : MS} (K : jC E cX12_findRows 13 RX12 2) (hrw : jrw E) (HR : jRV E cX12_findRows 13 (wM (jg E) a0 res)) (k39 : Int32 → Int32 → Int32 → Int32 → MS → Option (MS)) (k48 : Int32 → Int32 → Int32 → Int32 → Int32 → MS → Option (MS)) (hk39 : ∀ (v1 : Int32) (v2 : Int32) (v3 : Int32) (v4 : Int32) (s0 : MS), k39 v1 v2 v3 v4 s0 = some res → J E 13 (wM (jg E) a0 s0) 39 [(0, .ref (a0 0)), (1, .int v1), (2, .int v2), (3, .int v3), (4, .int v4)] []) (hk48 : ∀ (v1 : Int32) (v2 : Int32) (v3 : Int32) (v4 : Int32) (v5 : Int32) (s0 : MS), k48 v1 v2 v3 v4 v5 s0 = some res → J E 13 (wM (jg E) a0 s0) 48 [(0, .ref (a0 0)), (1, .int v1), (2, .int v2), (3, .int v3), (4, .int v4), (5, .int v5)] []) : ∀ (v1 : Int32) (v2 : Int32) (v3 : Int32) (v4 : Int32) (v5 : Int32) (v11 : Int64) (s0 : MS), f_X12_findRows_279 k39 k48 v1 v2 v3 v4 v5 v11 s0 = some res → J E 13 (wM (jg E) a0 s0) 279 [(0, .ref (a0 0)), (1, .int v1), (2, .int v2), (3, .int v3), (4, .int v4), (5, .int v5), (11, .long v11)] [] := by
  intro v1 v2 v3 v4 v5 v11 s0 h
  unfold f_X12_findRows_279 at h
  refine j_iconst (pc' := 280) (v := (1 : Int32)) K dX12_findRows_279 (by decide) rfl ?_
  refine j_goto (tgt := 284) K dX12_findRows_280 (by decide) ?_
  refine j_sub [0, 1, 2, 3, 4, 5, 6] rfl ?_
  exact b_X12_findRows_284 a0 K hrw HR k39 k48 hk39 hk48 v1 v2 v3 v4 v5 v11 (1 : Int32) s0 h
set_option maxRecDepth 100000 in
set_option maxHeartbeats 4000000 in
theorem b_X12_findRows_264 {E : jE} (a0 : Nat → Nat) {res : MS} (K : jC E cX12_findRows 13 RX12 2) (hrw : jrw E) (HR : jRV E cX12_findRows 13 (wM (jg E) a0 res)) (k39 : Int32 → Int32 → Int32 → Int32 → MS → Option (MS)) (k48 : Int32 → Int32 → Int32 → Int32 → Int32 → MS → Option (MS)) (hk39 : ∀ (v1 : Int32) (v2 : Int32) (v3 : Int32) (v4 : Int32) (s0 : MS), k39 v1 v2 v3 v4 s0 = some res → J E 13 (wM (jg E) a0 s0) 39 [(0, .ref (a0 0)), (1, .int v1), (2, .int v2), (3, .int v3), (4, .int v4)] []) (hk48 : ∀ (v1 : Int32) (v2 : Int32) (v3 : Int32) (v4 : Int32) (v5 : Int32) (s0 : MS), k48 v1 v2 v3 v4 v5 s0 = some res → J E 13 (wM (jg E) a0 s0) 48 [(0, .ref (a0 0)), (1, .int v1), (2, .int v2), (3, .int v3), (4, .int v4), (5, .int v5)] []) : ∀ (v1 : Int32) (v2 : Int32) (v3 : Int32) (v4 : Int32) (v5 : Int32) (v10 : Int32) (t0 : Int64) (s0 : MS), f_X12_findRows_264 k39 k48 v1 v2 v3 v4 v5 v10 t0 s0 = some res → J E 13 (wM (jg E) a0 s0) 264 [(0, .ref (a0 0)), (1, .int v1), (2, .int v2), (3, .int v3), (4, .int v4), (5, .int v5), (10, .int v10)] [.long t0] := by
  intro v1 v2 v3 v4 v5 v10 t0 s0 h
  unfold f_X12_findRows_264 at h
  refine j_lstore (pc' := 266) (lv' := [(11, .long t0), (0, .ref (a0 0)), (1, .int v1), (2, .int v2), (3, .int v3), (4, .int v4), (5, .int v5), (10, .int v10)]) K dX12_findRows_264 (by decide) rfl rfl ?_
  refine j_iload (pc' := 268) K dX12_findRows_266 7 rfl rfl ?_
  refine j_if_ne (pc' := 271) (tgt := 279) K dX12_findRows_268 (by decide) rfl (fun hc => ?_) (fun hc => ?_)
  · have h := jif hc h
    refine j_sub [1, 2, 3, 4, 5, 6, 0] rfl ?_
    exact b_X12_findRows_279 a0 K hrw HR k39 k48 hk39 hk48 v1 v2 v3 v4 v5 t0 s0 h
  · have h := jit hc h
    refine j_lload (pc' := 273) K dX12_findRows_271 0 rfl rfl ?_
    obtain ⟨r273, hr273, h⟩ := jbd_some h
    refine j_ro (pc' := 276) K (fun H hP => jrun_S K dX12_findRows_273 (M_X12_isBeyond (jl E) (jg E) t0 hr273) u_4_168 u_4_166 u_4_167 u_1_13 ⟨ok_X12_isBeyond, by decide, by decide⟩ rfl (Nat.le_of_ble_eq_true rfl) H) [] rfl rfl ?_
    refine j_if_eq (pc' := 279) (tgt := 283) K dX12_findRows_276 (by decide) rfl (fun hc => ?_) (fun hc => ?_)
    · have h := jit hc h
      refine j_iconst (pc' := 284) (v := (0 : Int32)) K dX12_findRows_283 (by decide) rfl ?_
      refine j_sub [1, 2, 3, 4, 5, 6, 0] rfl ?_
      exact b_X12_findRows_284 a0 K hrw HR k39 k48 hk39 hk48 v1 v2 v3 v4 v5 t0 (0 : Int32) s0 h
    · have h := jif hc h
      refine j_sub [1, 2, 3, 4, 5, 6, 0] rfl ?_
      exact b_X12_findRows_279 a0 K hrw HR k39 k48 hk39 hk48 v1 v2 v3 v4 v5 t0 s0 h
set_option maxRecDepth 100000 in
set_option maxHeartbeats 4000000 in
theorem b_X12_findRows_263 {E : jE} (a0 : Nat → Nat) {res : MS} (K : jC E cX12_findRows 13 RX12 2) (hrw : jrw E) (HR : jRV E cX12_findRows 13 (wM (jg E) a0 res)) (k39 : Int32 → Int32 → Int32 → Int32 → MS → Option (MS)) (k48 : Int32 → Int32 → Int32 → Int32 → Int32 → MS → Option (MS)) (hk39 : ∀ (v1 : Int32) (v2 : Int32) (v3 : Int32) (v4 : Int32) (s0 : MS), k39 v1 v2 v3 v4 s0 = some res → J E 13 (wM (jg E) a0 s0) 39 [(0, .ref (a0 0)), (1, .int v1), (2, .int v2), (3, .int v3), (4, .int v4)] []) (hk48 : ∀ (v1 : Int32) (v2 : Int32) (v3 : Int32) (v4 : Int32) (v5 : Int32) (s0 : MS), k48 v1 v2 v3 v4 v5 s0 = some res → J E 13 (wM (jg E) a0 s0) 48 [(0, .ref (a0 0)), (1, .int v1), (2, .int v2), (3, .int v3), (4, .int v4), (5, .int v5)] []) : ∀ (v1 : Int32) (v2 : Int32) (v3 : Int32) (v4 : Int32) (v5 : Int32) (v10 : Int32) (t0 : Int64) (t1 : Int64) (s0 : MS), f_X12_findRows_263 k39 k48 v1 v2 v3 v4 v5 v10 t0 t1 s0 = some res → J E 13 (wM (jg E) a0 s0) 263 [(0, .ref (a0 0)), (1, .int v1), (2, .int v2), (3, .int v3), (4, .int v4), (5, .int v5), (10, .int v10)] [.long t1, .long t0] := by
  intro v1 v2 v3 v4 v5 v10 t0 t1 s0 h
  unfold f_X12_findRows_263 at h
  refine j_ladd (pc' := 264) K dX12_findRows_263 rfl ?_
  refine j_sub [0, 1, 2, 3, 4, 5, 6] rfl ?_
  exact b_X12_findRows_264 a0 K hrw HR k39 k48 hk39 hk48 v1 v2 v3 v4 v5 v10 (t0 + t1) s0 h
set_option maxRecDepth 100000 in
set_option maxHeartbeats 4000000 in
theorem b_X12_findRows_243 {E : jE} (a0 : Nat → Nat) {res : MS} (K : jC E cX12_findRows 13 RX12 2) (hrw : jrw E) (HR : jRV E cX12_findRows 13 (wM (jg E) a0 res)) (k39 : Int32 → Int32 → Int32 → Int32 → MS → Option (MS)) (k48 : Int32 → Int32 → Int32 → Int32 → Int32 → MS → Option (MS)) (hk39 : ∀ (v1 : Int32) (v2 : Int32) (v3 : Int32) (v4 : Int32) (s0 : MS), k39 v1 v2 v3 v4 s0 = some res → J E 13 (wM (jg E) a0 s0) 39 [(0, .ref (a0 0)), (1, .int v1), (2, .int v2), (3, .int v3), (4, .int v4)] []) (hk48 : ∀ (v1 : Int32) (v2 : Int32) (v3 : Int32) (v4 : Int32) (v5 : Int32) (s0 : MS), k48 v1 v2 v3 v4 v5 s0 = some res → J E 13 (wM (jg E) a0 s0) 48 [(0, .ref (a0 0)), (1, .int v1), (2, .int v2), (3, .int v3), (4, .int v4), (5, .int v5)] []) : ∀ (v1 : Int32) (v2 : Int32) (v3 : Int32) (v4 : Int32) (v5 : Int32) (v7 : Int32) (v9 : Int32) (v10 : Int32) (t0 : Int64) (s0 : MS), f_X12_findRows_243 k39 k48 v1 v2 v3 v4 v5 v7 v9 v10 t0 s0 = some res → J E 13 (wM (jg E) a0 s0) 243 [(0, .ref (a0 0)), (1, .int v1), (2, .int v2), (3, .int v3), (4, .int v4), (5, .int v5), (7, .int v7), (9, .int v9), (10, .int v10)] [.long t0] := by
  intro v1 v2 v3 v4 v5 v7 v9 v10 t0 s0 h
  unfold f_X12_findRows_243 at h
  refine j_iload (pc' := 245) K dX12_findRows_243 6 rfl rfl ?_
  refine j_if_ne (pc' := 248) (tgt := 252) K dX12_findRows_245 (by decide) rfl (fun hc => ?_) (fun hc => ?_)
  · have h := jif hc h
    refine j_iload (pc' := 254) K dX12_findRows_252 6 rfl rfl ?_
    refine j_i2l (pc' := 255) K dX12_findRows_254 rfl ?_
    refine j_aload_n (pc' := 256) K dX12_findRows_255 rfl 0 rfl rfl ?_
    refine j_get (pc' := 259) K dX12_findRows_256 inX12 0 rfl rfl 8 (by decide) u_4_43 rfl rfl rfl ?_
    refine j_iload (pc' := 261) K dX12_findRows_259 7 rfl rfl ?_
    obtain ⟨hg, h⟩ := jgd_some h
    refine j_lald (pc' := 262) K dX12_findRows_261 5 rfl hg rfl ?_
    refine j_lmul (pc' := 263) K dX12_findRows_262 rfl ?_
    refine j_sub [0, 1, 2, 3, 4, 5, 8] rfl ?_
    exact b_X12_findRows_263 a0 K hrw HR k39 k48 hk39 hk48 v1 v2 v3 v4 v5 v10 t0 ((Int32.toInt64 v7) * ((M_cell s0) (Int32.toNatClampNeg v9))) s0 h
  · have h := jit hc h
    refine j_lconst (pc' := 249) (v := (0 : Int64)) K dX12_findRows_248 (by decide) rfl ?_
    refine j_goto (tgt := 263) K dX12_findRows_249 (by decide) ?_
    refine j_sub [0, 1, 2, 3, 4, 5, 8] rfl ?_
    exact b_X12_findRows_263 a0 K hrw HR k39 k48 hk39 hk48 v1 v2 v3 v4 v5 v10 t0 (0 : Int64) s0 h
set_option maxRecDepth 100000 in
set_option maxHeartbeats 4000000 in
theorem b_X12_findRows_212 {E : jE} (a0 : Nat → Nat) {res : MS} (K : jC E cX12_findRows 13 RX12 2) (hrw : jrw E) (HR : jRV E cX12_findRows 13 (wM (jg E) a0 res)) (k39 : Int32 → Int32 → Int32 → Int32 → MS → Option (MS)) (k48 : Int32 → Int32 → Int32 → Int32 → Int32 → MS → Option (MS)) (hk39 : ∀ (v1 : Int32) (v2 : Int32) (v3 : Int32) (v4 : Int32) (s0 : MS), k39 v1 v2 v3 v4 s0 = some res → J E 13 (wM (jg E) a0 s0) 39 [(0, .ref (a0 0)), (1, .int v1), (2, .int v2), (3, .int v3), (4, .int v4)] []) (hk48 : ∀ (v1 : Int32) (v2 : Int32) (v3 : Int32) (v4 : Int32) (v5 : Int32) (s0 : MS), k48 v1 v2 v3 v4 v5 s0 = some res → J E 13 (wM (jg E) a0 s0) 48 [(0, .ref (a0 0)), (1, .int v1), (2, .int v2), (3, .int v3), (4, .int v4), (5, .int v5)] []) : ∀ (v1 : Int32) (v2 : Int32) (v3 : Int32) (v4 : Int32) (v5 : Int32) (v6 : Int32) (v7 : Int32) (v8 : Int32) (v9 : Int32) (t0 : Int32) (s0 : MS), f_X12_findRows_212 k39 k48 v1 v2 v3 v4 v5 v6 v7 v8 v9 t0 s0 = some res → J E 13 (wM (jg E) a0 s0) 212 [(0, .ref (a0 0)), (1, .int v1), (2, .int v2), (3, .int v3), (4, .int v4), (5, .int v5), (6, .int v6), (7, .int v7), (8, .int v8), (9, .int v9)] [.int t0] := by
  intro v1 v2 v3 v4 v5 v6 v7 v8 v9 t0 s0 h
  unfold f_X12_findRows_212 at h
  refine j_istore (pc' := 214) (lv' := [(10, .int t0), (0, .ref (a0 0)), (1, .int v1), (2, .int v2), (3, .int v3), (4, .int v4), (5, .int v5), (6, .int v6), (7, .int v7), (8, .int v8), (9, .int v9)]) K dX12_findRows_212 (by decide) rfl rfl ?_
  refine j_iload (pc' := 216) K dX12_findRows_214 0 rfl rfl ?_
  refine j_if_eq (pc' := 219) (tgt := 223) K dX12_findRows_216 (by decide) rfl (fun hc => ?_) (fun hc => ?_)
  · have h := jit hc h
    refine j_iload (pc' := 225) K dX12_findRows_223 7 rfl rfl ?_
    refine j_if_ne (pc' := 228) (tgt := 232) K dX12_findRows_225 (by decide) rfl (fun hc => ?_) (fun hc => ?_)
    · have h := jif hc h
      refine j_iload (pc' := 234) K dX12_findRows_232 7 rfl rfl ?_
      refine j_i2l (pc' := 235) K dX12_findRows_234 rfl ?_
      refine j_aload_n (pc' := 236) K dX12_findRows_235 rfl 1 rfl rfl ?_
      refine j_get (pc' := 239) K dX12_findRows_236 inX12 0 rfl rfl 8 (by decide) u_4_43 rfl rfl rfl ?_
      refine j_iload (pc' := 241) K dX12_findRows_239 9 rfl rfl ?_
      obtain ⟨hg, h⟩ := jgd_some h
      refine j_lald (pc' := 242) K dX12_findRows_241 5 rfl hg rfl ?_
      refine j_lmul (pc' := 243) K dX12_findRows_242 rfl ?_
      refine j_sub [1, 2, 3, 4, 5, 6, 8, 10, 0] rfl ?_
      exact b_X12_findRows_243 a0 K hrw HR k39 k48 hk39 hk48 v1 v2 v3 v4 v5 v7 v9 t0 ((Int32.toInt64 v6) * ((M_cell s0) (Int32.toNatClampNeg v8))) s0 h
    · have h := jit hc h
      refine j_lconst (pc' := 229) (v := (0 : Int64)) K dX12_findRows_228 (by decide) rfl ?_
      refine j_goto (tgt := 243) K dX12_findRows_229 (by decide) ?_
      refine j_sub [1, 2, 3, 4, 5, 6, 8, 10, 0] rfl ?_
      exact b_X12_findRows_243 a0 K hrw HR k39 k48 hk39 hk48 v1 v2 v3 v4 v5 v7 v9 t0 (0 : Int64) s0 h
  · have h := jif hc h
    refine j_lconst (pc' := 220) (v := (0 : Int64)) K dX12_findRows_219 (by decide) rfl ?_
    refine j_goto (tgt := 264) K dX12_findRows_220 (by decide) ?_
    refine j_sub [1, 2, 3, 4, 5, 6, 0] rfl ?_
    exact b_X12_findRows_264 a0 K hrw HR k39 k48 hk39 hk48 v1 v2 v3 v4 v5 t0 (0 : Int64) s0 h
set_option maxRecDepth 100000 in
set_option maxHeartbeats 4000000 in
theorem b_X12_findRows_211 {E : jE} (a0 : Nat → Nat) {res : MS} (K : jC E cX12_findRows 13 RX12 2) (hrw : jrw E) (HR : jRV E cX12_findRows 13 (wM (jg E) a0 res)) (k39 : Int32 → Int32 → Int32 → Int32 → MS → Option (MS)) (k48 : Int32 → Int32 → Int32 → Int32 → Int32 → MS → Option (MS)) (hk39 : ∀ (v1 : Int32) (v2 : Int32) (v3 : Int32) (v4 : Int32) (s0 : MS), k39 v1 v2 v3 v4 s0 = some res → J E 13 (wM (jg E) a0 s0) 39 [(0, .ref (a0 0)), (1, .int v1), (2, .int v2), (3, .int v3), (4, .int v4)] []) (hk48 : ∀ (v1 : Int32) (v2 : Int32) (v3 : Int32) (v4 : Int32) (v5 : Int32) (s0 : MS), k48 v1 v2 v3 v4 v5 s0 = some res → J E 13 (wM (jg E) a0 s0) 48 [(0, .ref (a0 0)), (1, .int v1), (2, .int v2), (3, .int v3), (4, .int v4), (5, .int v5)] []) : ∀ (v1 : Int32) (v2 : Int32) (v3 : Int32) (v4 : Int32) (v5 : Int32) (v6 : Int32) (v7 : Int32) (v8 : Int32) (v9 : Int32) (s0 : MS), f_X12_findRows_211 k39 k48 v1 v2 v3 v4 v5 v6 v7 v8 v9 s0 = some res → J E 13 (wM (jg E) a0 s0) 211 [(0, .ref (a0 0)), (1, .int v1), (2, .int v2), (3, .int v3), (4, .int v4), (5, .int v5), (6, .int v6), (7, .int v7), (8, .int v8), (9, .int v9)] [] := by
  intro v1 v2 v3 v4 v5 v6 v7 v8 v9 s0 h
  unfold f_X12_findRows_211 at h
  refine j_iconst (pc' := 212) (v := (0 : Int32)) K dX12_findRows_211 (by decide) rfl ?_
  refine j_sub [0, 1, 2, 3, 4, 5, 6, 7, 8, 9] rfl ?_
  exact b_X12_findRows_212 a0 K hrw HR k39 k48 hk39 hk48 v1 v2 v3 v4 v5 v6 v7 v8 v9 (0 : Int32) s0 h
set_option maxRecDepth 100000 in
set_option maxHeartbeats 4000000 in
theorem b_X12_findRows_207 {E : jE} (a0 : Nat → Nat) {res : MS} (K : jC E cX12_findRows 13 RX12 2) (hrw : jrw E) (HR : jRV E cX12_findRows 13 (wM (jg E) a0 res)) (k39 : Int32 → Int32 → Int32 → Int32 → MS → Option (MS)) (k48 : Int32 → Int32 → Int32 → Int32 → Int32 → MS → Option (MS)) (hk39 : ∀ (v1 : Int32) (v2 : Int32) (v3 : Int32) (v4 : Int32) (s0 : MS), k39 v1 v2 v3 v4 s0 = some res → J E 13 (wM (jg E) a0 s0) 39 [(0, .ref (a0 0)), (1, .int v1), (2, .int v2), (3, .int v3), (4, .int v4)] []) (hk48 : ∀ (v1 : Int32) (v2 : Int32) (v3 : Int32) (v4 : Int32) (v5 : Int32) (s0 : MS), k48 v1 v2 v3 v4 v5 s0 = some res → J E 13 (wM (jg E) a0 s0) 48 [(0, .ref (a0 0)), (1, .int v1), (2, .int v2), (3, .int v3), (4, .int v4), (5, .int v5)] []) : ∀ (v1 : Int32) (v2 : Int32) (v3 : Int32) (v4 : Int32) (v5 : Int32) (v6 : Int32) (v7 : Int32) (v8 : Int32) (v9 : Int32) (s0 : MS), f_X12_findRows_207 k39 k48 v1 v2 v3 v4 v5 v6 v7 v8 v9 s0 = some res → J E 13 (wM (jg E) a0 s0) 207 [(0, .ref (a0 0)), (1, .int v1), (2, .int v2), (3, .int v3), (4, .int v4), (5, .int v5), (6, .int v6), (7, .int v7), (8, .int v8), (9, .int v9)] [] := by
  intro v1 v2 v3 v4 v5 v6 v7 v8 v9 s0 h
  unfold f_X12_findRows_207 at h
  refine j_iconst (pc' := 208) (v := (1 : Int32)) K dX12_findRows_207 (by decide) rfl ?_
  refine j_goto (tgt := 212) K dX12_findRows_208 (by decide) ?_
  refine j_sub [0, 1, 2, 3, 4, 5, 6, 7, 8, 9] rfl ?_
  exact b_X12_findRows_212 a0 K hrw HR k39 k48 hk39 hk48 v1 v2 v3 v4 v5 v6 v7 v8 v9 (1 : Int32) s0 h
set_option maxRecDepth 100000 in
set_option maxHeartbeats 4000000 in
theorem b_X12_findRows_176 {E : jE} (a0 : Nat → Nat) {res : MS} (K : jC E cX12_findRows 13 RX12 2) (hrw : jrw E) (HR : jRV E cX12_findRows 13 (wM (jg E) a0 res)) (k39 : Int32 → Int32 → Int32 → Int32 → MS → Option (MS)) (k48 : Int32 → Int32 → Int32 → Int32 → Int32 → MS → Option (MS)) (hk39 : ∀ (v1 : Int32) (v2 : Int32) (v3 : Int32) (v4 : Int32) (s0 : MS), k39 v1 v2 v3 v4 s0 = some res → J E 13 (wM (jg E) a0 s0) 39 [(0, .ref (a0 0)), (1, .int v1), (2, .int v2), (3, .int v3), (4, .int v4)] []) (hk48 : ∀ (v1 : Int32) (v2 : Int32) (v3 : Int32) (v4 : Int32) (v5 : Int32) (s0 : MS), k48 v1 v2 v3 v4 v5 s0 = some res → J E 13 (wM (jg E) a0 s0) 48 [(0, .ref (a0 0)), (1, .int v1), (2, .int v2), (3, .int v3), (4, .int v4), (5, .int v5)] []) : ∀ (v1 : Int32) (v2 : Int32) (v3 : Int32) (v4 : Int32) (v5 : Int32) (v6 : Int32) (v7 : Int32) (v8 : Int32) (v9 : Int32) (s0 : MS), f_X12_findRows_176 k39 k48 v1 v2 v3 v4 v5 v6 v7 v8 v9 s0 = some res → J E 13 (wM (jg E) a0 s0) 176 [(0, .ref (a0 0)), (1, .int v1), (2, .int v2), (3, .int v3), (4, .int v4), (5, .int v5), (6, .int v6), (7, .int v7), (8, .int v8), (9, .int v9)] [] := by
  intro v1 v2 v3 v4 v5 v6 v7 v8 v9 s0 h
  unfold f_X12_findRows_176 at h
  refine j_iload (pc' := 178) K dX12_findRows_176 7 rfl rfl ?_
  refine j_if_eq (pc' := 181) (tgt := 211) K dX12_findRows_178 (by decide) rfl (fun hc => ?_) (fun hc => ?_)
  · have h := jit hc h
    refine j_sub [0, 1, 2, 3, 4, 5, 6, 7, 8, 9] rfl ?_
    exact b_X12_findRows_211 a0 K hrw HR k39 k48 hk39 hk48 v1 v2 v3 v4 v5 v6 v7 v8 v9 s0 h
  · have h := jif hc h
    refine j_aload_n (pc' := 182) K dX12_findRows_181 rfl 0 rfl rfl ?_
    refine j_get (pc' := 185) K dX12_findRows_182 inX12 0 rfl rfl 9 (by decide) u_4_44 rfl rfl rfl ?_
    refine j_iload (pc' := 187) K dX12_findRows_185 9 rfl rfl ?_
    obtain ⟨hg, h⟩ := jgd_some h
    refine j_zald (pc' := 188) K dX12_findRows_187 6 rfl hg rfl ?_
    refine j_if_ne (pc' := 191) (tgt := 207) K dX12_findRows_188 (by decide) rfl (fun hc => ?_) (fun hc => ?_)
    · have h := jif hc h
      refine j_sub [0, 1, 2, 3, 4, 5, 6, 7, 8, 9] rfl ?_
      exact b_X12_findRows_207 a0 K hrw HR k39 k48 hk39 hk48 v1 v2 v3 v4 v5 v6 v7 v8 v9 s0 h
    · have h := jit hc h
      refine j_iload (pc' := 193) K dX12_findRows_191 7 rfl rfl ?_
      refine j_i2l (pc' := 194) K dX12_findRows_193 rfl ?_
      refine j_aload_n (pc' := 195) K dX12_findRows_194 rfl 0 rfl rfl ?_
      refine j_get (pc' := 198) K dX12_findRows_195 inX12 0 rfl rfl 8 (by decide) u_4_43 rfl rfl rfl ?_
      refine j_iload (pc' := 200) K dX12_findRows_198 9 rfl rfl ?_
      obtain ⟨hg, h⟩ := jgd_some h
      refine j_lald (pc' := 201) K dX12_findRows_200 5 rfl hg rfl ?_
      obtain ⟨r201, hr201, h⟩ := jbd_some h
      refine j_ro (pc' := 204) K (fun H hP => jrun_S K dX12_findRows_201 (M_X12_isTooMuch (jl E) (jg E) (Int32.toInt64 v7) ((M_cell s0) (Int32.toNatClampNeg v9)) hr201) u_4_161 u_4_159 u_4_160 u_1_13 ⟨ok_X12_isTooMuch, by decide, by decide⟩ rfl (Nat.le_of_ble_eq_true rfl) H) [] rfl rfl ?_
      refine j_if_eq (pc' := 207) (tgt := 211) K dX12_findRows_204 (by decide) rfl (fun hc => ?_) (fun hc => ?_)
      · have h := jit hc h
        refine j_sub [0, 1, 2, 3, 4, 5, 6, 7, 8, 9] rfl ?_
        exact b_X12_findRows_211 a0 K hrw HR k39 k48 hk39 hk48 v1 v2 v3 v4 v5 v6 v7 v8 v9 s0 h
      · have h := jif hc h
        refine j_sub [0, 1, 2, 3, 4, 5, 6, 7, 8, 9] rfl ?_
        exact b_X12_findRows_207 a0 K hrw HR k39 k48 hk39 hk48 v1 v2 v3 v4 v5 v6 v7 v8 v9 s0 h
set_option maxRecDepth 100000 in
set_option maxHeartbeats 4000000 in
theorem b_X12_findRows_140 {E : jE} (a0 : Nat → Nat) {res : MS} (K : jC E cX12_findRows 13 RX12 2) (hrw : jrw E) (HR : jRV E cX12_findRows 13 (wM (jg E) a0 res)) (k39 : Int32 → Int32 → Int32 → Int32 → MS → Option (MS)) (k48 : Int32 → Int32 → Int32 → Int32 → Int32 → MS → Option (MS)) (hk39 : ∀ (v1 : Int32) (v2 : Int32) (v3 : Int32) (v4 : Int32) (s0 : MS), k39 v1 v2 v3 v4 s0 = some res → J E 13 (wM (jg E) a0 s0) 39 [(0, .ref (a0 0)), (1, .int v1), (2, .int v2), (3, .int v3), (4, .int v4)] []) (hk48 : ∀ (v1 : Int32) (v2 : Int32) (v3 : Int32) (v4 : Int32) (v5 : Int32) (s0 : MS), k48 v1 v2 v3 v4 v5 s0 = some res → J E 13 (wM (jg E) a0 s0) 48 [(0, .ref (a0 0)), (1, .int v1), (2, .int v2), (3, .int v3), (4, .int v4), (5, .int v5)] []) : ∀ (v1 : Int32) (v2 : Int32) (v3 : Int32) (v4 : Int32) (v5 : Int32) (v6 : Int32) (v7 : Int32) (v8 : Int32) (t0 : Int32) (t1 : Int32) (t2 : Int32) (s0 : MS), f_X12_findRows_140 k39 k48 v1 v2 v3 v4 v5 v6 v7 v8 t0 t1 t2 s0 = some res → J E 13 (wM (jg E) a0 s0) 140 [(0, .ref (a0 0)), (1, .int v1), (2, .int v2), (3, .int v3), (4, .int v4), (5, .int v5), (6, .int v6), (7, .int v7), (8, .int v8)] [.int t2, .int t1, .int t0] := by
  intro v1 v2 v3 v4 v5 v6 v7 v8 t0 t1 t2 s0 h
  unfold f_X12_findRows_140 at h
  obtain ⟨r140, hr140, h⟩ := jbd_some h
  refine j_ro (pc' := 143) K (fun H hP => jrun_S K dX12_findRows_140 (M_X12_at (jl E) (jg E) t0 t1 t2 hr140) u_4_154 u_4_152 u_4_153 u_1_13 ⟨ok_X12_at, by decide, by decide⟩ rfl (Nat.le_of_ble_eq_true rfl) H) [] rfl rfl ?_
  refine j_istore (pc' := 145) (lv' := [(9, .int r140), (0, .ref (a0 0)), (1, .int v1), (2, .int v2), (3, .int v3), (4, .int v4), (5, .int v5), (6, .int v6), (7, .int v7), (8, .int v8)]) K dX12_findRows_143 (by decide) rfl rfl ?_
  refine j_iload (pc' := 147) K dX12_findRows_145 7 rfl rfl ?_
  refine j_if_eq (pc' := 150) (tgt := 176) K dX12_findRows_147 (by decide) rfl (fun hc => ?_) (fun hc => ?_)
  · have h := jit hc h
    refine j_sub [1, 2, 3, 4, 5, 6, 7, 8, 9, 0] rfl ?_
    exact b_X12_findRows_176 a0 K hrw HR k39 k48 hk39 hk48 v1 v2 v3 v4 v5 v6 v7 v8 r140 s0 h
  · have h := jif hc h
    refine j_aload_n (pc' := 151) K dX12_findRows_150 rfl 1 rfl rfl ?_
    refine j_get (pc' := 154) K dX12_findRows_151 inX12 0 rfl rfl 9 (by decide) u_4_44 rfl rfl rfl ?_
    refine j_iload (pc' := 156) K dX12_findRows_154 9 rfl rfl ?_
    obtain ⟨hg, h⟩ := jgd_some h
    refine j_zald (pc' := 157) K dX12_findRows_156 6 rfl hg rfl ?_
    refine j_if_ne (pc' := 160) (tgt := 207) K dX12_findRows_157 (by decide) rfl (fun hc => ?_) (fun hc => ?_)
    · have h := jif hc h
      refine j_sub [1, 2, 3, 4, 5, 6, 7, 8, 9, 0] rfl ?_
      exact b_X12_findRows_207 a0 K hrw HR k39 k48 hk39 hk48 v1 v2 v3 v4 v5 v6 v7 v8 r140 s0 h
    · have h := jit hc h
      refine j_iload (pc' := 162) K dX12_findRows_160 7 rfl rfl ?_
      refine j_i2l (pc' := 163) K dX12_findRows_162 rfl ?_
      refine j_aload_n (pc' := 164) K dX12_findRows_163 rfl 1 rfl rfl ?_
      refine j_get (pc' := 167) K dX12_findRows_164 inX12 0 rfl rfl 8 (by decide) u_4_43 rfl rfl rfl ?_
      refine j_iload (pc' := 169) K dX12_findRows_167 9 rfl rfl ?_
      obtain ⟨hg, h⟩ := jgd_some h
      refine j_lald (pc' := 170) K dX12_findRows_169 5 rfl hg rfl ?_
      obtain ⟨r170, hr170, h⟩ := jbd_some h
      refine j_ro (pc' := 173) K (fun H hP => jrun_S K dX12_findRows_170 (M_X12_isTooMuch (jl E) (jg E) (Int32.toInt64 v6) ((M_cell s0) (Int32.toNatClampNeg v8)) hr170) u_4_161 u_4_159 u_4_160 u_1_13 ⟨ok_X12_isTooMuch, by decide, by decide⟩ rfl (Nat.le_of_ble_eq_true rfl) H) [] rfl rfl ?_
      refine j_if_ne (pc' := 176) (tgt := 207) K dX12_findRows_173 (by decide) rfl (fun hc => ?_) (fun hc => ?_)
      · have h := jif hc h
        refine j_sub [1, 2, 3, 4, 5, 6, 7, 8, 9, 0] rfl ?_
        exact b_X12_findRows_207 a0 K hrw HR k39 k48 hk39 hk48 v1 v2 v3 v4 v5 v6 v7 v8 r140 s0 h
      · have h := jit hc h
        refine j_sub [1, 2, 3, 4, 5, 6, 7, 8, 9, 0] rfl ?_
        exact b_X12_findRows_176 a0 K hrw HR k39 k48 hk39 hk48 v1 v2 v3 v4 v5 v6 v7 v8 r140 s0 h
set_option maxRecDepth 100000 in
set_option maxHeartbeats 4000000 in
theorem b_X12_findRows_117 {E : jE} (a0 : Nat → Nat) {res : MS} (K : jC E cX12_findRows 13 RX12 2) (hrw : jrw E) (HR : jRV E cX12_findRows 13 (wM (jg E) a0 res)) (k39 : Int32 → Int32 → Int32 → Int32 → MS → Option (MS)) (k48 : Int32 → Int32 → Int32 → Int32 → Int32 → MS → Option (MS)) (hk39 : ∀ (v1 : Int32) (v2 : Int32) (v3 : Int32) (v4 : Int32) (s0 : MS), k39 v1 v2 v3 v4 s0 = some res → J E 13 (wM (jg E) a0 s0) 39 [(0, .ref (a0 0)), (1, .int v1), (2, .int v2), (3, .int v3), (4, .int v4)] []) (hk48 : ∀ (v1 : Int32) (v2 : Int32) (v3 : Int32) (v4 : Int32) (v5 : Int32) (s0 : MS), k48 v1 v2 v3 v4 v5 s0 = some res → J E 13 (wM (jg E) a0 s0) 48 [(0, .ref (a0 0)), (1, .int v1), (2, .int v2), (3, .int v3), (4, .int v4), (5, .int v5)] []) : ∀ (v1 : Int32) (v2 : Int32) (v3 : Int32) (v4 : Int32) (v5 : Int32) (v6 : Int32) (v7 : Int32) (t0 : Int32) (t1 : Int32) (t2 : Int32) (s0 : MS), f_X12_findRows_117 k39 k48 v1 v2 v3 v4 v5 v6 v7 t0 t1 t2 s0 = some res → J E 13 (wM (jg E) a0 s0) 117 [(0, .ref (a0 0)), (1, .int v1), (2, .int v2), (3, .int v3), (4, .int v4), (5, .int v5), (6, .int v6), (7, .int v7)] [.int t2, .int t1, .int t0] := by
  intro v1 v2 v3 v4 v5 v6 v7 t0 t1 t2 s0 h
  unfold f_X12_findRows_117 at h
  obtain ⟨r117, hr117, h⟩ := jbd_some h
  refine j_ro (pc' := 120) K (fun H hP => jrun_S K dX12_findRows_117 (M_X12_at (jl E) (jg E) t0 t1 t2 hr117) u_4_154 u_4_152 u_4_153 u_1_13 ⟨ok_X12_at, by decide, by decide⟩ rfl (Nat.le_of_ble_eq_true rfl) H) [] rfl rfl ?_
  refine j_istore (pc' := 122) (lv' := [(8, .int r117), (0, .ref (a0 0)), (1, .int v1), (2, .int v2), (3, .int v3), (4, .int v4), (5, .int v5), (6, .int v6), (7, .int v7)]) K dX12_findRows_120 (by decide) rfl rfl ?_
  refine j_iload_n (pc' := 123) K dX12_findRows_122 rfl 2 rfl rfl ?_
  refine j_iload (pc' := 125) K dX12_findRows_123 5 rfl rfl ?_
  refine j_iconst (pc' := 126) (v := (1 : Int32)) K dX12_findRows_125 (by decide) rfl ?_
  refine j_isub (pc' := 127) K dX12_findRows_126 rfl ?_
  refine j_iload (pc' := 129) K dX12_findRows_127 6 rfl rfl ?_
  refine j_iload (pc' := 131) K dX12_findRows_129 5 rfl rfl ?_
  refine j_icmp_ge (pc' := 134) (tgt := 139) K dX12_findRows_131 (by decide) rfl (fun hc => ?_) (fun hc => ?_)
  · have h := jit hc h
    refine j_iconst (pc' := 140) (v := (0 : Int32)) K dX12_findRows_139 (by decide) rfl ?_
    refine j_sub [1, 2, 3, 4, 5, 6, 7, 8, 0] rfl ?_
    exact b_X12_findRows_140 a0 K hrw HR k39 k48 hk39 hk48 v1 v2 v3 v4 v5 v6 v7 r117 v1 (v4 - (1 : Int32)) (0 : Int32) s0 h
  · have h := jif hc h
    refine j_iload (pc' := 136) K dX12_findRows_134 6 rfl rfl ?_
    refine j_goto (tgt := 140) K dX12_findRows_136 (by decide) ?_
    refine j_sub [1, 2, 3, 4, 5, 6, 7, 8, 0] rfl ?_
    exact b_X12_findRows_140 a0 K hrw HR k39 k48 hk39 hk48 v1 v2 v3 v4 v5 v6 v7 r117 v1 (v4 - (1 : Int32)) v5 s0 h
set_option maxRecDepth 100000 in
set_option maxHeartbeats 4000000 in
theorem b_X12_findRows_97 {E : jE} (a0 : Nat → Nat) {res : MS} (K : jC E cX12_findRows 13 RX12 2) (hrw : jrw E) (HR : jRV E cX12_findRows 13 (wM (jg E) a0 res)) (k39 : Int32 → Int32 → Int32 → Int32 → MS → Option (MS)) (k48 : Int32 → Int32 → Int32 → Int32 → Int32 → MS → Option (MS)) (hk39 : ∀ (v1 : Int32) (v2 : Int32) (v3 : Int32) (v4 : Int32) (s0 : MS), k39 v1 v2 v3 v4 s0 = some res → J E 13 (wM (jg E) a0 s0) 39 [(0, .ref (a0 0)), (1, .int v1), (2, .int v2), (3, .int v3), (4, .int v4)] []) (hk48 : ∀ (v1 : Int32) (v2 : Int32) (v3 : Int32) (v4 : Int32) (v5 : Int32) (s0 : MS), k48 v1 v2 v3 v4 v5 s0 = some res → J E 13 (wM (jg E) a0 s0) 48 [(0, .ref (a0 0)), (1, .int v1), (2, .int v2), (3, .int v3), (4, .int v4), (5, .int v5)] []) : ∀ (v1 : Int32) (v2 : Int32) (v3 : Int32) (v4 : Int32) (v5 : Int32) (v6 : Int32) (t0 : Int32) (s0 : MS), f_X12_findRows_97 k39 k48 v1 v2 v3 v4 v5 v6 t0 s0 = some res → J E 13 (wM (jg E) a0 s0) 97 [(0, .ref (a0 0)), (1, .int v1), (2, .int v2), (3, .int v3), (4, .int v4), (5, .int v5), (6, .int v6)] [.int t0] := by
  intro v1 v2 v3 v4 v5 v6 t0 s0 h
  unfold f_X12_findRows_97 at h
  refine j_istore (pc' := 99) (lv' := [(7, .int t0), (0, .ref (a0 0)), (1, .int v1), (2, .int v2), (3, .int v3), (4, .int v4), (5, .int v5), (6, .int v6)]) K dX12_findRows_97 (by decide) rfl rfl ?_
  refine j_iload_n (pc' := 100) K dX12_findRows_99 rfl 2 rfl rfl ?_
  refine j_iload (pc' := 102) K dX12_findRows_100 5 rfl rfl ?_
  refine j_iconst (pc' := 103) (v := (1 : Int32)) K dX12_findRows_102 (by decide) rfl ?_
  refine j_isub (pc' := 104) K dX12_findRows_103 rfl ?_
  refine j_iload (pc' := 106) K dX12_findRows_104 6 rfl rfl ?_
  refine j_if_le (pc' := 109) (tgt := 116) K dX12_findRows_106 (by decide) rfl (fun hc => ?_) (fun hc => ?_)
  · have h := jit hc h
    refine j_iconst (pc' := 117) (v := (0 : Int32)) K dX12_findRows_116 (by decide) rfl ?_
    refine j_sub [1, 2, 3, 4, 5, 6, 7, 0] rfl ?_
    exact b_X12_findRows_117 a0 K hrw HR k39 k48 hk39 hk48 v1 v2 v3 v4 v5 v6 t0 v1 (v4 - (1 : Int32)) (0 : Int32) s0 h
  · have h := jif hc h
    refine j_iload (pc' := 111) K dX12_findRows_109 6 rfl rfl ?_
    refine j_iconst (pc' := 112) (v := (1 : Int32)) K dX12_findRows_111 (by decide) rfl ?_
    refine j_isub (pc' := 113) K dX12_findRows_112 rfl ?_
    refine j_goto (tgt := 117) K dX12_findRows_113 (by decide) ?_
    refine j_sub [1, 2, 3, 4, 5, 6, 7, 0] rfl ?_
    exact b_X12_findRows_117 a0 K hrw HR k39 k48 hk39 hk48 v1 v2 v3 v4 v5 v6 t0 v1 (v4 - (1 : Int32)) (v5 - (1 : Int32)) s0 h
set_option maxRecDepth 100000 in
set_option maxHeartbeats 4000000 in
theorem b_X12_findRows_74 {E : jE} (a0 : Nat → Nat) {res : MS} (K : jC E cX12_findRows 13 RX12 2) (hrw : jrw E) (HR : jRV E cX12_findRows 13 (wM (jg E) a0 res)) (k39 : Int32 → Int32 → Int32 → Int32 → MS → Option (MS)) (k48 : Int32 → Int32 → Int32 → Int32 → Int32 → MS → Option (MS)) (hk39 : ∀ (v1 : Int32) (v2 : Int32) (v3 : Int32) (v4 : Int32) (s0 : MS), k39 v1 v2 v3 v4 s0 = some res → J E 13 (wM (jg E) a0 s0) 39 [(0, .ref (a0 0)), (1, .int v1), (2, .int v2), (3, .int v3), (4, .int v4)] []) (hk48 : ∀ (v1 : Int32) (v2 : Int32) (v3 : Int32) (v4 : Int32) (v5 : Int32) (s0 : MS), k48 v1 v2 v3 v4 v5 s0 = some res → J E 13 (wM (jg E) a0 s0) 48 [(0, .ref (a0 0)), (1, .int v1), (2, .int v2), (3, .int v3), (4, .int v4), (5, .int v5)] []) : ∀ (v1 : Int32) (v2 : Int32) (v3 : Int32) (v4 : Int32) (v5 : Int32) (t0 : Int32) (s0 : MS), f_X12_findRows_74 k39 k48 v1 v2 v3 v4 v5 t0 s0 = some res → J E 13 (wM (jg E) a0 s0) 74 [(0, .ref (a0 0)), (1, .int v1), (2, .int v2), (3, .int v3), (4, .int v4), (5, .int v5)] [.int t0] := by
  intro v1 v2 v3 v4 v5 t0 s0 h
  unfold f_X12_findRows_74 at h
  refine j_istore (pc' := 76) (lv' := [(6, .int t0), (0, .ref (a0 0)), (1, .int v1), (2, .int v2), (3, .int v3), (4, .int v4), (5, .int v5)]) K dX12_findRows_74 (by decide) rfl rfl ?_
  refine j_iload (pc' := 78) K dX12_findRows_76 6 rfl rfl ?_
  refine j_iload (pc' := 80) K dX12_findRows_78 5 rfl rfl ?_
  refine j_icmp_ge (pc' := 83) (tgt := 96) K dX12_findRows_80 (by decide) rfl (fun hc => ?_) (fun hc => ?_)
  · have h := jit hc h
    refine j_iconst (pc' := 97) (v := (0 : Int32)) K dX12_findRows_96 (by decide) rfl ?_
    refine j_sub [1, 2, 3, 4, 5, 6, 0] rfl ?_
    exact b_X12_findRows_97 a0 K hrw HR k39 k48 hk39 hk48 v1 v2 v3 v4 v5 t0 (0 : Int32) s0 h
  · have h := jif hc h
    refine j_aload_n (pc' := 84) K dX12_findRows_83 rfl 1 rfl rfl ?_
    refine j_iload_n (pc' := 85) K dX12_findRows_84 rfl 3 rfl rfl ?_
    refine j_iconst (pc' := 86) (v := (3 : Int32)) K dX12_findRows_85 (by decide) rfl ?_
    refine j_iload (pc' := 88) K dX12_findRows_86 5 rfl rfl ?_
    refine j_iload (pc' := 90) K dX12_findRows_88 6 rfl rfl ?_
    obtain ⟨r90, hr90, h⟩ := jbd_some h
    refine j_ro (pc' := 93) K (fun H hP => jrun_V K dX12_findRows_90 (M_X12_comes (jl E) (jg E) a0 v2 (3 : Int32) v4 v5 s0 hr90) u_4_158 u_4_155 u_4_157 u_p_25 u_1_13 ⟨ok_X12_comes, by decide, by decide⟩ rfl (Nat.le_of_ble_eq_true rfl) 0 rfl rfl H hP) [0, 1, 2, 3, 4, 5, 6, 7, 8, 9, 10, 11, 12, 13, 14, 15, 16] (cl_55_f ..) rfl ?_
    refine j_goto (tgt := 97) K dX12_findRows_93 (by decide) ?_
    refine j_sub [1, 2, 3, 4, 5, 6, 0] rfl ?_
    exact b_X12_findRows_97 a0 K hrw HR k39 k48 hk39 hk48 v1 v2 v3 v4 v5 t0 r90 s0 h
set_option maxRecDepth 100000 in
set_option maxHeartbeats 4000000 in
theorem b_X12_findRows_48 {E : jE} (a0 : Nat → Nat) {res : MS} (K : jC E cX12_findRows 13 RX12 2) (hrw : jrw E) (HR : jRV E cX12_findRows 13 (wM (jg E) a0 res)) (k39 : Int32 → Int32 → Int32 → Int32 → MS → Option (MS)) (hk39 : ∀ (v1 : Int32) (v2 : Int32) (v3 : Int32) (v4 : Int32) (s0 : MS), k39 v1 v2 v3 v4 s0 = some res → J E 13 (wM (jg E) a0 s0) 39 [(0, .ref (a0 0)), (1, .int v1), (2, .int v2), (3, .int v3), (4, .int v4)] []) : ∀ (n : Nat) (v1 : Int32) (v2 : Int32) (v3 : Int32) (v4 : Int32) (v5 : Int32) (s0 : MS), f_X12_findRows_48 k39 n v1 v2 v3 v4 v5 s0 = some res → J E 13 (wM (jg E) a0 s0) 48 [(0, .ref (a0 0)), (1, .int v1), (2, .int v2), (3, .int v3), (4, .int v4), (5, .int v5)] [] := by
  intro n
  induction n with
  | zero => intro _ _ _ _ _ _ h; cases h
  | succ n ih =>
    intro v1 v2 v3 v4 v5 s0 h
    rw [f_X12_findRows_48] at h
    refine j_iload (pc' := 50) K dX12_findRows_48 5 rfl rfl ?_
    refine j_iload (pc' := 52) K dX12_findRows_50 4 rfl rfl ?_
    refine j_icmp_gt (pc' := 55) (tgt := 331) K dX12_findRows_52 (by decide) rfl (fun hc => ?_) (fun hc => ?_)
    · have h := jit hc h
      refine j_sub [0, 1, 2, 3, 4] rfl ?_
      exact b_X12_findRows_331 a0 K hrw HR k39 hk39 v1 v2 v3 v4 s0 h
    · have h := jif hc h
      refine j_iload (pc' := 57) K dX12_findRows_55 5 rfl rfl ?_
      refine j_if_le (pc' := 60) (tgt := 73) K dX12_findRows_57 (by decide) rfl (fun hc => ?_) (fun hc => ?_)
      · have h := jit hc h
        refine j_iconst (pc' := 74) (v := (0 : Int32)) K dX12_findRows_73 (by decide) rfl ?_
        refine j_sub [0, 1, 2, 3, 4, 5] rfl ?_
        exact b_X12_findRows_74 a0 K hrw HR k39 (f_X12_findRows_48 k39 n) hk39 (ih) v1 v2 v3 v4 v5 (0 : Int32) s0 h
      · have h := jif hc h
        refine j_aload_n (pc' := 61) K dX12_findRows_60 rfl 0 rfl rfl ?_
        refine j_iload_n (pc' := 62) K dX12_findRows_61 rfl 2 rfl rfl ?_
        refine j_iconst (pc' := 63) (v := (0 : Int32)) K dX12_findRows_62 (by decide) rfl ?_
        refine j_iload (pc' := 65) K dX12_findRows_63 4 rfl rfl ?_
        refine j_iload (pc' := 67) K dX12_findRows_65 5 rfl rfl ?_
        obtain ⟨r67, hr67, h⟩ := jbd_some h
        refine j_ro (pc' := 70) K (fun H hP => jrun_V K dX12_findRows_67 (M_X12_comes (jl E) (jg E) a0 v2 (0 : Int32) v4 v5 s0 hr67) u_4_158 u_4_155 u_4_157 u_p_25 u_1_13 ⟨ok_X12_comes, by decide, by decide⟩ rfl (Nat.le_of_ble_eq_true rfl) 0 rfl rfl H hP) [0, 1, 2, 3, 4, 5, 6, 7, 8, 9, 10, 11, 12, 13, 14, 15, 16] (cl_55_f ..) rfl ?_
        refine j_goto (tgt := 74) K dX12_findRows_70 (by decide) ?_
        refine j_sub [0, 1, 2, 3, 4, 5] rfl ?_
        exact b_X12_findRows_74 a0 K hrw HR k39 (f_X12_findRows_48 k39 n) hk39 (ih) v1 v2 v3 v4 v5 r67 s0 h
set_option maxRecDepth 100000 in
set_option maxHeartbeats 4000000 in
theorem b_X12_findRows_39 {E : jE} (a0 : Nat → Nat) {res : MS} (K : jC E cX12_findRows 13 RX12 2) (hrw : jrw E) (HR : jRV E cX12_findRows 13 (wM (jg E) a0 res)) : ∀ (n : Nat) (v1 : Int32) (v2 : Int32) (v3 : Int32) (v4 : Int32) (s0 : MS), f_X12_findRows_39 n v1 v2 v3 v4 s0 = some res → J E 13 (wM (jg E) a0 s0) 39 [(0, .ref (a0 0)), (1, .int v1), (2, .int v2), (3, .int v3), (4, .int v4)] [] := by
  intro n
  induction n with
  | zero => intro _ _ _ _ _ h; cases h
  | succ n ih =>
    intro v1 v2 v3 v4 s0 h
    rw [f_X12_findRows_39] at h
    refine j_iload (pc' := 41) K dX12_findRows_39 4 rfl rfl ?_
    refine j_iload_n (pc' := 42) K dX12_findRows_41 rfl 3 rfl rfl ?_
    refine j_icmp_gt (pc' := 45) (tgt := 337) K dX12_findRows_42 (by decide) rfl (fun hc => ?_) (fun hc => ?_)
    · have h := jit hc h
      obtain rfl := Option.some.inj h
      exact HR _ _ dX12_findRows_337
    · have h := jif hc h
      refine j_iconst (pc' := 46) (v := (0 : Int32)) K dX12_findRows_45 (by decide) rfl ?_
      refine j_istore (pc' := 48) (lv' := [(5, .int (0 : Int32)), (0, .ref (a0 0)), (1, .int v1), (2, .int v2), (3, .int v3), (4, .int v4)]) K dX12_findRows_46 (by decide) rfl rfl ?_
      refine j_sub [1, 2, 3, 4, 5, 0] rfl ?_
      exact b_X12_findRows_48 a0 K hrw HR (f_X12_findRows_39 n) (ih) jFU v1 v2 v3 v4 (0 : Int32) s0 h
set_option maxRecDepth 100000 in
set_option maxHeartbeats 4000000 in
theorem b_X12_findRows {E : jE} (a0 : Nat → Nat) {res : MS} (K : jC E cX12_findRows 13 RX12 2) (hrw : jrw E) (HR : jRV E cX12_findRows 13 (wM (jg E) a0 res)) : ∀ (v1 : Int32) (v2 : Int32) (v3 : Int32) (s0 : MS), f_X12_findRows v1 v2 v3 s0 = some res → J E 13 (wM (jg E) a0 s0) 0 [(0, .ref (a0 0)), (1, .int v1), (2, .int v2), (3, .int v3)] [] := by
  intro v1 v2 v3 s0 h
  unfold f_X12_findRows at h
  refine j_aload_n (pc' := 1) K dX12_findRows_0 rfl 0 rfl rfl ?_
  refine j_get (pc' := 4) K dX12_findRows_1 inX12 0 rfl rfl 8 (by decide) u_4_43 rfl rfl rfl ?_
  refine j_iload_n (pc' := 5) K dX12_findRows_4 rfl 1 rfl rfl ?_
  refine j_iconst (pc' := 6) (v := (0 : Int32)) K dX12_findRows_5 (by decide) rfl ?_
  refine j_iconst (pc' := 7) (v := (0 : Int32)) K dX12_findRows_6 (by decide) rfl ?_
  obtain ⟨r7, hr7, h⟩ := jbd_some h
  refine j_ro (pc' := 10) K (fun H hP => jrun_S K dX12_findRows_7 (M_X12_at (jl E) (jg E) v1 (0 : Int32) (0 : Int32) hr7) u_4_154 u_4_152 u_4_153 u_1_13 ⟨ok_X12_at, by decide, by decide⟩ rfl (Nat.le_of_ble_eq_true rfl) H) [] rfl rfl ?_
  refine j_aload_n (pc' := 11) K dX12_findRows_10 rfl 0 rfl rfl ?_
  refine j_get (pc' := 14) K dX12_findRows_11 inX12 0 rfl rfl 6 (by decide) u_4_41 rfl rfl rfl ?_
  refine j_bipush (pc' := 16) (v := (7 : Int32)) K dX12_findRows_14 (by decide) rfl ?_
  refine j_iload_n (pc' := 17) K dX12_findRows_16 rfl 2 rfl rfl ?_
  refine j_imul (pc' := 18) K dX12_findRows_17 rfl ?_
  refine j_bipush (pc' := 20) (v := (6 : Int32)) K dX12_findRows_18 (by decide) rfl ?_
  refine j_iadd (pc' := 21) K dX12_findRows_20 rfl ?_
  obtain ⟨hg, h⟩ := jgd_some h
  refine j_iald (pc' := 22) K dX12_findRows_21 3 rfl hg rfl ?_
  refine j_i2l (pc' := 23) K dX12_findRows_22 rfl ?_
  obtain ⟨hg, h⟩ := jgd_some h
  refine j_last (pc' := 24) (ws' := (wM (jg E) a0 (M_cell_s s0 (vp_updL (M_cell s0) (Int32.toNatClampNeg r7) (Int32.toInt64 ((M_law s0) (Int32.toNatClampNeg (((7 : Int32) * v2) + (6 : Int32))))))))) K dX12_findRows_23 hrw 5 rfl hg (st_M_5 ..) rfl ?_
  refine j_aload_n (pc' := 25) K dX12_findRows_24 rfl 0 rfl rfl ?_
  refine j_get (pc' := 28) K dX12_findRows_25 inX12 0 rfl rfl 9 (by decide) u_4_44 rfl rfl rfl ?_
  refine j_iload_n (pc' := 29) K dX12_findRows_28 rfl 1 rfl rfl ?_
  refine j_iconst (pc' := 30) (v := (0 : Int32)) K dX12_findRows_29 (by decide) rfl ?_
  refine j_iconst (pc' := 31) (v := (0 : Int32)) K dX12_findRows_30 (by decide) rfl ?_
  obtain ⟨r31, hr31, h⟩ := jbd_some h
  refine j_ro (pc' := 34) K (fun H hP => jrun_S K dX12_findRows_31 (M_X12_at (jl E) (jg E) v1 (0 : Int32) (0 : Int32) hr31) u_4_154 u_4_152 u_4_153 u_1_13 ⟨ok_X12_at, by decide, by decide⟩ rfl (Nat.le_of_ble_eq_true rfl) H) [] rfl rfl ?_
  refine j_iconst (pc' := 35) (v := (0 : Int32)) K dX12_findRows_34 (by decide) rfl ?_
  obtain ⟨hg, h⟩ := jgd_some h
  refine j_zast (pc' := 36) (ws' := (wM (jg E) a0 (M_isGreat_s (M_cell_s s0 (vp_updL (M_cell s0) (Int32.toNatClampNeg r7) (Int32.toInt64 ((M_law s0) (Int32.toNatClampNeg (((7 : Int32) * v2) + (6 : Int32))))))) (upd (M_isGreat (M_cell_s s0 (vp_updL (M_cell s0) (Int32.toNatClampNeg r7) (Int32.toInt64 ((M_law s0) (Int32.toNatClampNeg (((7 : Int32) * v2) + (6 : Int32)))))))) (Int32.toNatClampNeg r31) (vp_nar .boolean (0 : Int32)))))) K dX12_findRows_35 hrw 6 rfl hg (st_M_6 ..) rfl ?_
  refine j_iconst (pc' := 37) (v := (1 : Int32)) K dX12_findRows_36 (by decide) rfl ?_
  refine j_istore (pc' := 39) (lv' := [(4, .int (1 : Int32)), (0, .ref (a0 0)), (1, .int v1), (2, .int v2), (3, .int v3)]) K dX12_findRows_37 (by decide) rfl rfl ?_
  refine j_sub [1, 2, 3, 4, 0] rfl ?_
  exact b_X12_findRows_39 a0 K hrw HR jFU v1 v2 v3 (1 : Int32) (M_isGreat_s (M_cell_s s0 (vp_updL (M_cell s0) (Int32.toNatClampNeg r7) (Int32.toInt64 ((M_law s0) (Int32.toNatClampNeg (((7 : Int32) * v2) + (6 : Int32))))))) (upd (M_isGreat (M_cell_s s0 (vp_updL (M_cell s0) (Int32.toNatClampNeg r7) (Int32.toInt64 ((M_law s0) (Int32.toNatClampNeg (((7 : Int32) * v2) + (6 : Int32)))))))) (Int32.toNatClampNeg r31) (vp_nar .boolean (0 : Int32)))) h
set_option maxRecDepth 100000 in
set_option maxHeartbeats 4000000 in
theorem M_X12_findRows (l : Launch) (G : jG) (a0 : Nat → Nat) (v1 : Int32) (v2 : Int32) (v3 : Int32) (s0 : MS) {r : MS} (h : f_X12_findRows v1 v2 v3 s0 = some r) : MC l yX12_findRows cX12_findRows 13 none 2 G (jad (wM G a0 s0)) True (wM G a0 s0) (wM G a0 r) [.ref (a0 0), .int v1, .int v2, .int v3] none := by
  refine mc_void (by decide +kernel) (Nat.le_of_ble_eq_true rfl) fun E hl hg hA hrw K HR => ?_
  subst hl
  subst hg
  have hrw : jrw E := by rw [hrw]; trivial
  exact b_X12_findRows a0 K hrw HR v1 v2 v3 s0 h
theorem ok_X12_number : yX12_number.cls ≠ "java/lang/invoke/MethodHandle" ∧ yX12_number.cls ≠ "java/lang/invoke/VarHandle" ∧ (parseMethodDescriptor yX12_number.desc).map (fun d => d.parameters.length) = some 3 := ⟨by decide, by decide, by decide +kernel⟩
def f_X12_number (v1 : Int32) (v2 : Int32) (v3 : Int32) (s0 : MS) : Option (Int64 × MS) :=
   jbd (f_X12_isLaw v1) (fun r1 =>
   if r1 = 0 then
    some ((-1000000000000000001 : Int64), s0)
   else
    jbd (f_X12_in (Int32.toInt64 v2) (0 : Int64) (24 : Int64)) (fun r13 =>
     if r13 = 0 then
      some ((-1000000000000000001 : Int64), s0)
     else
      jbd (f_X12_in (Int32.toInt64 v3) (0 : Int64) (Int32.toInt64 v2)) (fun r24 =>
       if r24 = 0 then
        some ((-1000000000000000001 : Int64), s0)
       else
        jbd (f_X12_findRows (0 : Int32) v1 v2 s0) (fun r38 =>
         jbd (f_X12_at (0 : Int32) v2 v3) (fun r48 =>
          jgd r48 650 (
           if ((M_isGreat r38) (Int32.toNatClampNeg r48)) = 0 then
            jbd (f_X12_at (0 : Int32) v2 v3) (fun r68 =>
             jgd r68 650 (
              some (((M_cell r38) (Int32.toNatClampNeg r68)), r38)))
           else
            some ((-1000000000000000002 : Int64), r38)))))))
set_option maxRecDepth 100000 in
set_option maxHeartbeats 4000000 in
theorem b_X12_number {E : jE} (a0 : Nat → Nat) {res : Int64 × MS} (K : jC E cX12_number 4 RX12 3) (hrw : jrw E) (HR : jRL E cX12_number 4 (wM (jg E) a0 (res.2)) (res.1)) : ∀ (v1 : Int32) (v2 : Int32) (v3 : Int32) (s0 : MS), f_X12_number v1 v2 v3 s0 = some res → J E 4 (wM (jg E) a0 s0) 0 [(0, .ref (a0 0)), (1, .int v1), (2, .int v2), (3, .int v3)] [] := by
  intro v1 v2 v3 s0 h
  unfold f_X12_number at h
  refine j_iload_n (pc' := 1) K dX12_number_0 rfl 1 rfl rfl ?_
  obtain ⟨r1, hr1, h⟩ := jbd_some h
  refine j_ro (pc' := 4) K (fun H hP => jrun_S K dX12_number_1 (M_X12_isLaw (jl E) (jg E) v1 hr1) u_4_140 u_4_138 u_4_139 u_1_13 ⟨ok_X12_isLaw, by decide, by decide⟩ rfl (Nat.le_of_ble_eq_true rfl) H) [] rfl rfl ?_
  refine j_if_eq (pc' := 7) (tgt := 30) K dX12_number_4 (by decide) rfl (fun hc => ?_) (fun hc => ?_)
  · have h := jit hc h
    refine j_ldc2 (pc' := 33) K dX12_number_30 u_4_147 rfl ?_
    obtain rfl := Option.some.inj h
    exact HR _ _ dX12_number_33
  · have h := jif hc h
    refine j_iload_n (pc' := 8) K dX12_number_7 rfl 2 rfl rfl ?_
    refine j_i2l (pc' := 9) K dX12_number_8 rfl ?_
    refine j_lconst (pc' := 10) (v := (0 : Int64)) K dX12_number_9 (by decide) rfl ?_
    refine j_ldc2 (pc' := 13) K dX12_number_10 u_4_146 rfl ?_
    obtain ⟨r13, hr13, h⟩ := jbd_some h
    refine j_ro (pc' := 16) K (fun H hP => jrun_S K dX12_number_13 (M_X12_in (jl E) (jg E) (Int32.toInt64 v2) (0 : Int64) (24 : Int64) hr13) u_4_107 u_4_105 u_4_106 u_1_13 ⟨ok_X12_in, by decide, by decide⟩ rfl (Nat.le_of_ble_eq_true rfl) H) [] rfl rfl ?_
    refine j_if_eq (pc' := 19) (tgt := 30) K dX12_number_16 (by decide) rfl (fun hc => ?_) (fun hc => ?_)
    · have h := jit hc h
      refine j_ldc2 (pc' := 33) K dX12_number_30 u_4_147 rfl ?_
      obtain rfl := Option.some.inj h
      exact HR _ _ dX12_number_33
    · have h := jif hc h
      refine j_iload_n (pc' := 20) K dX12_number_19 rfl 3 rfl rfl ?_
      refine j_i2l (pc' := 21) K dX12_number_20 rfl ?_
      refine j_lconst (pc' := 22) (v := (0 : Int64)) K dX12_number_21 (by decide) rfl ?_
      refine j_iload_n (pc' := 23) K dX12_number_22 rfl 2 rfl rfl ?_
      refine j_i2l (pc' := 24) K dX12_number_23 rfl ?_
      obtain ⟨r24, hr24, h⟩ := jbd_some h
      refine j_ro (pc' := 27) K (fun H hP => jrun_S K dX12_number_24 (M_X12_in (jl E) (jg E) (Int32.toInt64 v3) (0 : Int64) (Int32.toInt64 v2) hr24) u_4_107 u_4_105 u_4_106 u_1_13 ⟨ok_X12_in, by decide, by decide⟩ rfl (Nat.le_of_ble_eq_true rfl) H) [] rfl rfl ?_
      refine j_if_ne (pc' := 30) (tgt := 34) K dX12_number_27 (by decide) rfl (fun hc => ?_) (fun hc => ?_)
      · have h := jif hc h
        refine j_aload_n (pc' := 35) K dX12_number_34 rfl 0 rfl rfl ?_
        refine j_iconst (pc' := 36) (v := (0 : Int32)) K dX12_number_35 (by decide) rfl ?_
        refine j_iload_n (pc' := 37) K dX12_number_36 rfl 1 rfl rfl ?_
        refine j_iload_n (pc' := 38) K dX12_number_37 rfl 2 rfl rfl ?_
        obtain ⟨r38, hr38, h⟩ := jbd_some h
        refine j_rw (pc' := 41) (ws' := (wM (jg E) a0 r38)) K (fun H hP => jrun_V K dX12_number_38 (M_X12_findRows (jl E) (jg E) a0 (0 : Int32) v1 v2 s0 hr38) u_4_151 u_4_148 u_4_150 u_p_24 u_1_13 ⟨ok_X12_findRows, by decide, by decide⟩ rfl (Nat.le_of_ble_eq_true rfl) 0 rfl rfl H hP) hrw [0, 1, 2, 3, 4, 5, 6, 7, 8, 9, 10, 11, 12, 13, 14, 15, 16] rfl (cl_56_s ..) rfl (cl_56_m ..) (ad_M ..) rfl ?_
        refine j_aload_n (pc' := 42) K dX12_number_41 rfl 0 rfl rfl ?_
        refine j_get (pc' := 45) K dX12_number_42 inX12 0 rfl rfl 9 (by decide) u_4_44 rfl rfl rfl ?_
        refine j_iconst (pc' := 46) (v := (0 : Int32)) K dX12_number_45 (by decide) rfl ?_
        refine j_iload_n (pc' := 47) K dX12_number_46 rfl 2 rfl rfl ?_
        refine j_iload_n (pc' := 48) K dX12_number_47 rfl 3 rfl rfl ?_
        obtain ⟨r48, hr48, h⟩ := jbd_some h
        refine j_ro (pc' := 51) K (fun H hP => jrun_S K dX12_number_48 (M_X12_at (jl E) (jg E) (0 : Int32) v2 v3 hr48) u_4_154 u_4_152 u_4_153 u_1_13 ⟨ok_X12_at, by decide, by decide⟩ rfl (Nat.le_of_ble_eq_true rfl) H) [] rfl rfl ?_
        obtain ⟨hg, h⟩ := jgd_some h
        refine j_zald (pc' := 52) K dX12_number_51 6 rfl hg rfl ?_
        refine j_if_eq (pc' := 55) (tgt := 61) K dX12_number_52 (by decide) rfl (fun hc => ?_) (fun hc => ?_)
        · have h := jit hc h
          refine j_aload_n (pc' := 62) K dX12_number_61 rfl 0 rfl rfl ?_
          refine j_get (pc' := 65) K dX12_number_62 inX12 0 rfl rfl 8 (by decide) u_4_43 rfl rfl rfl ?_
          refine j_iconst (pc' := 66) (v := (0 : Int32)) K dX12_number_65 (by decide) rfl ?_
          refine j_iload_n (pc' := 67) K dX12_number_66 rfl 2 rfl rfl ?_
          refine j_iload_n (pc' := 68) K dX12_number_67 rfl 3 rfl rfl ?_
          obtain ⟨r68, hr68, h⟩ := jbd_some h
          refine j_ro (pc' := 71) K (fun H hP => jrun_S K dX12_number_68 (M_X12_at (jl E) (jg E) (0 : Int32) v2 v3 hr68) u_4_154 u_4_152 u_4_153 u_1_13 ⟨ok_X12_at, by decide, by decide⟩ rfl (Nat.le_of_ble_eq_true rfl) H) [] rfl rfl ?_
          obtain ⟨hg, h⟩ := jgd_some h
          refine j_lald (pc' := 72) K dX12_number_71 5 rfl hg rfl ?_
          obtain rfl := Option.some.inj h
          exact HR _ _ dX12_number_72
        · have h := jif hc h
          refine j_ldc2 (pc' := 58) K dX12_number_55 u_4_170 rfl ?_
          refine j_goto (tgt := 72) K dX12_number_58 (by decide) ?_
          obtain rfl := Option.some.inj h
          exact HR _ _ dX12_number_72
      · have h := jit hc h
        refine j_ldc2 (pc' := 33) K dX12_number_30 u_4_147 rfl ?_
        obtain rfl := Option.some.inj h
        exact HR _ _ dX12_number_33
set_option maxRecDepth 100000 in
set_option maxHeartbeats 4000000 in
theorem M_X12_number (l : Launch) (G : jG) (a0 : Nat → Nat) (v1 : Int32) (v2 : Int32) (v3 : Int32) (s0 : MS) {r : Int64 × MS} (h : f_X12_number v1 v2 v3 s0 = some r) : MC l yX12_number cX12_number 4 (some .long) 3 G (jad (wM G a0 s0)) True (wM G a0 s0) (wM G a0 (r.2)) [.ref (a0 0), .int v1, .int v2, .int v3] (some (.long (r.1))) := by
  refine mc_long (by decide +kernel) (Nat.le_of_ble_eq_true rfl) fun E hl hg hA hrw K HR => ?_
  subst hl
  subst hg
  have hrw : jrw E := by rw [hrw]; trivial
  exact b_X12_number a0 K hrw HR v1 v2 v3 s0 h
theorem ok_X12_sum : yX12_sum.cls ≠ "java/lang/invoke/MethodHandle" ∧ yX12_sum.cls ≠ "java/lang/invoke/VarHandle" ∧ (parseMethodDescriptor yX12_sum.desc).map (fun d => d.parameters.length) = some 3 := ⟨by decide, by decide, by decide +kernel⟩
def f_X12_sum_191 (v4 : Int64) (v6 : Int32) (s0 : MS) : Option (Int64 × MS) :=
   if v6 = 0 then
   some ((-1000000000000000002 : Int64), s0)
  else
   some (v4, s0)
def f_X12_sum_182 (k51 : Int32 → Int32 → Int64 → Int32 → Int32 → MS → Option (Int64 × MS)) (v2 : Int32) (v3 : Int32) (v6 : Int32) (v7 : Int32) (t0 : Int64) (t1 : Int64) (s0 : MS) : Option (Int64 × MS) :=
   k51 v2 v3 (t0 + t1) v6 (v7 + (1 : Int32)) s0
def f_X12_sum_158 (k51 : Int32 → Int32 → Int64 → Int32 → Int32 → MS → Option (Int64 × MS)) (v2 : Int32) (v3 : Int32) (v6 : Int32) (v7 : Int32) (v9 : Int64) (t0 : Int64) (s0 : MS) : Option (Int64 × MS) :=
   if (3 : Int32) ≤ v3 then
   if v6 = 0 then
    f_X12_sum_182 k51 v2 v3 v6 v7 t0 (0 : Int64) s0
   else
    f_X12_sum_182 k51 v2 v3 v6 v7 t0 (v9 * v9) s0
  else
   f_X12_sum_182 k51 v2 v3 v6 v7 t0 v9 s0
def f_X12_sum_135 (k51 : Int32 → Int32 → Int64 → Int32 → Int32 → MS → Option (Int64 × MS)) (v2 : Int32) (v3 : Int32) (v4 : Int64) (v7 : Int32) (v9 : Int64) (t0 : Int32) (s0 : MS) : Option (Int64 × MS) :=
   if v3 = (1 : Int32) then
   if (v7 - v7 / (2 : Int32) * (2 : Int32)) = (1 : Int32) then
    f_X12_sum_182 k51 v2 v3 t0 v7 v4 (-v9) s0
   else
    f_X12_sum_158 k51 v2 v3 t0 v7 v9 v4 s0
  else
   f_X12_sum_158 k51 v2 v3 t0 v7 v9 v4 s0
def f_X12_sum_134 (k51 : Int32 → Int32 → Int64 → Int32 → Int32 → MS → Option (Int64 × MS)) (v2 : Int32) (v3 : Int32) (v4 : Int64) (v7 : Int32) (v9 : Int64) (s0 : MS) : Option (Int64 × MS) :=
   f_X12_sum_135 k51 v2 v3 v4 v7 v9 (0 : Int32) s0
def f_X12_sum_130 (k51 : Int32 → Int32 → Int64 → Int32 → Int32 → MS → Option (Int64 × MS)) (v2 : Int32) (v3 : Int32) (v4 : Int64) (v7 : Int32) (v9 : Int64) (s0 : MS) : Option (Int64 × MS) :=
   f_X12_sum_135 k51 v2 v3 v4 v7 v9 (1 : Int32) s0
def f_X12_sum_82 (k51 : Int32 → Int32 → Int64 → Int32 → Int32 → MS → Option (Int64 × MS)) (v2 : Int32) (v3 : Int32) (v4 : Int64) (v6 : Int32) (v7 : Int32) (t0 : Int32) (t1 : Int32) (s0 : MS) : Option (Int64 × MS) :=
   jbd (f_X12_at t0 t1 v7) (fun r84 =>
   jgd r84 650 (
    if v6 = 0 then
     f_X12_sum_134 k51 v2 v3 v4 v7 ((M_cell s0) (Int32.toNatClampNeg r84)) s0
    else
     jgd r84 650 (
      if ((M_isGreat s0) (Int32.toNatClampNeg r84)) = 0 then
       if v3 < (3 : Int32) then
        f_X12_sum_130 k51 v2 v3 v4 v7 ((M_cell s0) (Int32.toNatClampNeg r84)) s0
       else
        jbd (f_X12_size ((M_cell s0) (Int32.toNatClampNeg r84))) (fun r120 =>
         if 0 < (lg_cmp r120 (100000000 : Int64)) then
          f_X12_sum_134 k51 v2 v3 v4 v7 ((M_cell s0) (Int32.toNatClampNeg r84)) s0
         else
          f_X12_sum_130 k51 v2 v3 v4 v7 ((M_cell s0) (Int32.toNatClampNeg r84)) s0)
      else
       f_X12_sum_134 k51 v2 v3 v4 v7 ((M_cell s0) (Int32.toNatClampNeg r84)) s0)))
def f_X12_sum_65 (k51 : Int32 → Int32 → Int64 → Int32 → Int32 → MS → Option (Int64 × MS)) (v2 : Int32) (v3 : Int32) (v4 : Int64) (v6 : Int32) (v7 : Int32) (t0 : Int32) (t1 : Int32) (s0 : MS) : Option (Int64 × MS) :=
   if t1 < t0 then
   f_X12_sum_191 v4 v6 s0
  else
   if v3 = (2 : Int32) then
    f_X12_sum_82 k51 v2 v3 v4 v6 v7 (0 : Int32) (v2 - v7) s0
   else
    f_X12_sum_82 k51 v2 v3 v4 v6 v7 (0 : Int32) v2 s0
def f_X12_sum_51 : Nat → Int32 → Int32 → Int64 → Int32 → Int32 → MS → Option (Int64 × MS)
  | 0, _, _, _, _, _, _ => none
  | n + 1, v2, v3, v4, v6, v7, s0 =>
   if v3 = (2 : Int32) then
   f_X12_sum_65 (f_X12_sum_51 n) v2 v3 v4 v6 v7 v7 (v2 / (2 : Int32)) s0
  else
   f_X12_sum_65 (f_X12_sum_51 n) v2 v3 v4 v6 v7 v7 v2 s0
def f_X12_sum (v1 : Int32) (v2 : Int32) (v3 : Int32) (s0 : MS) : Option (Int64 × MS) :=
   jbd (f_X12_isLaw v1) (fun r1 =>
   if r1 = 0 then
    some ((-1000000000000000001 : Int64), s0)
   else
    jbd (f_X12_in (Int32.toInt64 v2) (0 : Int64) (24 : Int64)) (fun r13 =>
     if r13 = 0 then
      some ((-1000000000000000001 : Int64), s0)
     else
      jbd (f_X12_in (Int32.toInt64 v3) (0 : Int64) (3 : Int64)) (fun r25 =>
       if r25 = 0 then
        some ((-1000000000000000001 : Int64), s0)
       else
        jbd (f_X12_findRows (0 : Int32) v1 v2 s0) (fun r39 =>
         f_X12_sum_51 jFU v2 v3 (0 : Int64) (1 : Int32) (0 : Int32) r39))))
set_option maxRecDepth 100000 in
set_option maxHeartbeats 4000000 in
theorem b_X12_sum_191 {E : jE} (a0 : Nat → Nat) {res : Int64 × MS} (K : jC E cX12_sum 11 RX12 3) (hrw : jrw E) (HR : jRL E cX12_sum 11 (wM (jg E) a0 (res.2)) (res.1)) : ∀ (v4 : Int64) (v6 : Int32) (s0 : MS), f_X12_sum_191 v4 v6 s0 = some res → J E 11 (wM (jg E) a0 s0) 191 [(4, .long v4), (6, .int v6)] [] := by
  intro v4 v6 s0 h
  unfold f_X12_sum_191 at h
  refine j_iload (pc' := 193) K dX12_sum_191 1 rfl rfl ?_
  refine j_if_eq (pc' := 196) (tgt := 201) K dX12_sum_193 (by decide) rfl (fun hc => ?_) (fun hc => ?_)
  · have h := jit hc h
    refine j_ldc2 (pc' := 204) K dX12_sum_201 u_4_170 rfl ?_
    obtain rfl := Option.some.inj h
    exact HR _ _ dX12_sum_204
  · have h := jif hc h
    refine j_lload (pc' := 198) K dX12_sum_196 0 rfl rfl ?_
    refine j_goto (tgt := 204) K dX12_sum_198 (by decide) ?_
    obtain rfl := Option.some.inj h
    exact HR _ _ dX12_sum_204
set_option maxRecDepth 100000 in
set_option maxHeartbeats 4000000 in
theorem b_X12_sum_182 {E : jE} (a0 : Nat → Nat) {res : Int64 × MS} (K : jC E cX12_sum 11 RX12 3) (hrw : jrw E) (HR : jRL E cX12_sum 11 (wM (jg E) a0 (res.2)) (res.1)) (k51 : Int32 → Int32 → Int64 → Int32 → Int32 → MS → Option (Int64 × MS)) (hk51 : ∀ (v2 : Int32) (v3 : Int32) (v4 : Int64) (v6 : Int32) (v7 : Int32) (s0 : MS), k51 v2 v3 v4 v6 v7 s0 = some res → J E 11 (wM (jg E) a0 s0) 51 [(0, .ref (a0 0)), (2, .int v2), (3, .int v3), (4, .long v4), (6, .int v6), (7, .int v7)] []) : ∀ (v2 : Int32) (v3 : Int32) (v6 : Int32) (v7 : Int32) (t0 : Int64) (t1 : Int64) (s0 : MS), f_X12_sum_182 k51 v2 v3 v6 v7 t0 t1 s0 = some res → J E 11 (wM (jg E) a0 s0) 182 [(0, .ref (a0 0)), (2, .int v2), (3, .int v3), (6, .int v6), (7, .int v7)] [.long t1, .long t0] := by
  intro v2 v3 v6 v7 t0 t1 s0 h
  unfold f_X12_sum_182 at h
  refine j_ladd (pc' := 183) K dX12_sum_182 rfl ?_
  refine j_lstore (pc' := 185) (lv' := [(4, .long (t0 + t1)), (0, .ref (a0 0)), (2, .int v2), (3, .int v3), (6, .int v6), (7, .int v7)]) K dX12_sum_183 (by decide) rfl rfl ?_
  refine j_iinc (pc' := 188) (j := 5) (v := (v7 + (1 : Int32))) (lv' := [(7, .int (v7 + (1 : Int32))), (4, .long (t0 + t1)), (0, .ref (a0 0)), (2, .int v2), (3, .int v3), (6, .int v6)]) K dX12_sum_185 rfl rfl (by decide) rfl rfl ?_
  refine j_goto (tgt := 51) K dX12_sum_188 (by decide) ?_
  refine j_sub [2, 3, 4, 1, 5, 0] rfl ?_
  exact hk51 v2 v3 (t0 + t1) v6 (v7 + (1 : Int32)) s0 h
set_option maxRecDepth 100000 in
set_option maxHeartbeats 4000000 in
theorem b_X12_sum_158 {E : jE} (a0 : Nat → Nat) {res : Int64 × MS} (K : jC E cX12_sum 11 RX12 3) (hrw : jrw E) (HR : jRL E cX12_sum 11 (wM (jg E) a0 (res.2)) (res.1)) (k51 : Int32 → Int32 → Int64 → Int32 → Int32 → MS → Option (Int64 × MS)) (hk51 : ∀ (v2 : Int32) (v3 : Int32) (v4 : Int64) (v6 : Int32) (v7 : Int32) (s0 : MS), k51 v2 v3 v4 v6 v7 s0 = some res → J E 11 (wM (jg E) a0 s0) 51 [(0, .ref (a0 0)), (2, .int v2), (3, .int v3), (4, .long v4), (6, .int v6), (7, .int v7)] []) : ∀ (v2 : Int32) (v3 : Int32) (v6 : Int32) (v7 : Int32) (v9 : Int64) (t0 : Int64) (s0 : MS), f_X12_sum_158 k51 v2 v3 v6 v7 v9 t0 s0 = some res → J E 11 (wM (jg E) a0 s0) 158 [(0, .ref (a0 0)), (2, .int v2), (3, .int v3), (6, .int v6), (7, .int v7), (9, .long v9)] [.long t0] := by
  intro v2 v3 v6 v7 v9 t0 s0 h
  unfold f_X12_sum_158 at h
  refine j_iload_n (pc' := 159) K dX12_sum_158 rfl 2 rfl rfl ?_
  refine j_iconst (pc' := 160) (v := (3 : Int32)) K dX12_sum_159 (by decide) rfl ?_
  refine j_icmp_ge (pc' := 163) (tgt := 168) K dX12_sum_160 (by decide) rfl (fun hc => ?_) (fun hc => ?_)
  · have h := jit hc h
    refine j_iload (pc' := 170) K dX12_sum_168 3 rfl rfl ?_
    refine j_if_eq (pc' := 173) (tgt := 181) K dX12_sum_170 (by decide) rfl (fun hc => ?_) (fun hc => ?_)
    · have h := jit hc h
      refine j_lconst (pc' := 182) (v := (0 : Int64)) K dX12_sum_181 (by decide) rfl ?_
      refine j_sub [0, 1, 2, 3, 4] rfl ?_
      exact b_X12_sum_182 a0 K hrw HR k51 hk51 v2 v3 v6 v7 t0 (0 : Int64) s0 h
    · have h := jif hc h
      refine j_lload (pc' := 175) K dX12_sum_173 5 rfl rfl ?_
      refine j_lload (pc' := 177) K dX12_sum_175 5 rfl rfl ?_
      refine j_lmul (pc' := 178) K dX12_sum_177 rfl ?_
      refine j_goto (tgt := 182) K dX12_sum_178 (by decide) ?_
      refine j_sub [0, 1, 2, 3, 4] rfl ?_
      exact b_X12_sum_182 a0 K hrw HR k51 hk51 v2 v3 v6 v7 t0 (v9 * v9) s0 h
  · have h := jif hc h
    refine j_lload (pc' := 165) K dX12_sum_163 5 rfl rfl ?_
    refine j_goto (tgt := 182) K dX12_sum_165 (by decide) ?_
    refine j_sub [0, 1, 2, 3, 4] rfl ?_
    exact b_X12_sum_182 a0 K hrw HR k51 hk51 v2 v3 v6 v7 t0 v9 s0 h
set_option maxRecDepth 100000 in
set_option maxHeartbeats 4000000 in
theorem b_X12_sum_135 {E : jE} (a0 : Nat → Nat) {res : Int64 × MS} (K : jC E cX12_sum 11 RX12 3) (hrw : jrw E) (HR : jRL E cX12_sum 11 (wM (jg E) a0 (res.2)) (res.1)) (k51 : Int32 → Int32 → Int64 → Int32 → Int32 → MS → Option (Int64 × MS)) (hk51 : ∀ (v2 : Int32) (v3 : Int32) (v4 : Int64) (v6 : Int32) (v7 : Int32) (s0 : MS), k51 v2 v3 v4 v6 v7 s0 = some res → J E 11 (wM (jg E) a0 s0) 51 [(0, .ref (a0 0)), (2, .int v2), (3, .int v3), (4, .long v4), (6, .int v6), (7, .int v7)] []) : ∀ (v2 : Int32) (v3 : Int32) (v4 : Int64) (v7 : Int32) (v9 : Int64) (t0 : Int32) (s0 : MS), f_X12_sum_135 k51 v2 v3 v4 v7 v9 t0 s0 = some res → J E 11 (wM (jg E) a0 s0) 135 [(0, .ref (a0 0)), (2, .int v2), (3, .int v3), (4, .long v4), (7, .int v7), (9, .long v9)] [.int t0] := by
  intro v2 v3 v4 v7 v9 t0 s0 h
  unfold f_X12_sum_135 at h
  refine j_istore (pc' := 137) (lv' := [(6, .int t0), (0, .ref (a0 0)), (2, .int v2), (3, .int v3), (4, .long v4), (7, .int v7), (9, .long v9)]) K dX12_sum_135 (by decide) rfl rfl ?_
  refine j_lload (pc' := 139) K dX12_sum_137 4 rfl rfl ?_
  refine j_iload_n (pc' := 140) K dX12_sum_139 rfl 3 rfl rfl ?_
  refine j_iconst (pc' := 141) (v := (1 : Int32)) K dX12_sum_140 (by decide) rfl ?_
  refine j_icmp_ne (pc' := 144) (tgt := 158) K dX12_sum_141 (by decide) rfl (fun hc => ?_) (fun hc => ?_)
  · have h := jif hc h
    refine j_sub [1, 2, 3, 0, 5, 6] rfl ?_
    exact b_X12_sum_158 a0 K hrw HR k51 hk51 v2 v3 t0 v7 v9 v4 s0 h
  · have h := jit hc h
    refine j_iload (pc' := 146) K dX12_sum_144 5 rfl rfl ?_
    refine j_iconst (pc' := 147) (v := (2 : Int32)) K dX12_sum_146 (by decide) rfl ?_
    refine j_irem (pc' := 148) K dX12_sum_147 (by decide) rfl ?_
    refine j_iconst (pc' := 149) (v := (1 : Int32)) K dX12_sum_148 (by decide) rfl ?_
    refine j_icmp_ne (pc' := 152) (tgt := 158) K dX12_sum_149 (by decide) rfl (fun hc => ?_) (fun hc => ?_)
    · have h := jif hc h
      refine j_sub [1, 2, 3, 0, 5, 6] rfl ?_
      exact b_X12_sum_158 a0 K hrw HR k51 hk51 v2 v3 t0 v7 v9 v4 s0 h
    · have h := jit hc h
      refine j_lload (pc' := 154) K dX12_sum_152 6 rfl rfl ?_
      refine j_lneg (pc' := 155) K dX12_sum_154 rfl ?_
      refine j_goto (tgt := 182) K dX12_sum_155 (by decide) ?_
      refine j_sub [1, 2, 3, 0, 5] rfl ?_
      exact b_X12_sum_182 a0 K hrw HR k51 hk51 v2 v3 t0 v7 v4 (-v9) s0 h
set_option maxRecDepth 100000 in
set_option maxHeartbeats 4000000 in
theorem b_X12_sum_134 {E : jE} (a0 : Nat → Nat) {res : Int64 × MS} (K : jC E cX12_sum 11 RX12 3) (hrw : jrw E) (HR : jRL E cX12_sum 11 (wM (jg E) a0 (res.2)) (res.1)) (k51 : Int32 → Int32 → Int64 → Int32 → Int32 → MS → Option (Int64 × MS)) (hk51 : ∀ (v2 : Int32) (v3 : Int32) (v4 : Int64) (v6 : Int32) (v7 : Int32) (s0 : MS), k51 v2 v3 v4 v6 v7 s0 = some res → J E 11 (wM (jg E) a0 s0) 51 [(0, .ref (a0 0)), (2, .int v2), (3, .int v3), (4, .long v4), (6, .int v6), (7, .int v7)] []) : ∀ (v2 : Int32) (v3 : Int32) (v4 : Int64) (v7 : Int32) (v9 : Int64) (s0 : MS), f_X12_sum_134 k51 v2 v3 v4 v7 v9 s0 = some res → J E 11 (wM (jg E) a0 s0) 134 [(0, .ref (a0 0)), (2, .int v2), (3, .int v3), (4, .long v4), (7, .int v7), (9, .long v9)] [] := by
  intro v2 v3 v4 v7 v9 s0 h
  unfold f_X12_sum_134 at h
  refine j_iconst (pc' := 135) (v := (0 : Int32)) K dX12_sum_134 (by decide) rfl ?_
  refine j_sub [0, 1, 2, 3, 4, 5] rfl ?_
  exact b_X12_sum_135 a0 K hrw HR k51 hk51 v2 v3 v4 v7 v9 (0 : Int32) s0 h
set_option maxRecDepth 100000 in
set_option maxHeartbeats 4000000 in
theorem b_X12_sum_130 {E : jE} (a0 : Nat → Nat) {res : Int64 × MS} (K : jC E cX12_sum 11 RX12 3) (hrw : jrw E) (HR : jRL E cX12_sum 11 (wM (jg E) a0 (res.2)) (res.1)) (k51 : Int32 → Int32 → Int64 → Int32 → Int32 → MS → Option (Int64 × MS)) (hk51 : ∀ (v2 : Int32) (v3 : Int32) (v4 : Int64) (v6 : Int32) (v7 : Int32) (s0 : MS), k51 v2 v3 v4 v6 v7 s0 = some res → J E 11 (wM (jg E) a0 s0) 51 [(0, .ref (a0 0)), (2, .int v2), (3, .int v3), (4, .long v4), (6, .int v6), (7, .int v7)] []) : ∀ (v2 : Int32) (v3 : Int32) (v4 : Int64) (v7 : Int32) (v9 : Int64) (s0 : MS), f_X12_sum_130 k51 v2 v3 v4 v7 v9 s0 = some res → J E 11 (wM (jg E) a0 s0) 130 [(0, .ref (a0 0)), (2, .int v2), (3, .int v3), (4, .long v4), (7, .int v7), (9, .long v9)] [] := by
  intro v2 v3 v4 v7 v9 s0 h
  unfold f_X12_sum_130 at h
  refine j_iconst (pc' := 131) (v := (1 : Int32)) K dX12_sum_130 (by decide) rfl ?_
  refine j_goto (tgt := 135) K dX12_sum_131 (by decide) ?_
  refine j_sub [0, 1, 2, 3, 4, 5] rfl ?_
  exact b_X12_sum_135 a0 K hrw HR k51 hk51 v2 v3 v4 v7 v9 (1 : Int32) s0 h
set_option maxRecDepth 100000 in
set_option maxHeartbeats 4000000 in
theorem b_X12_sum_82 {E : jE} (a0 : Nat → Nat) {res : Int64 × MS} (K : jC E cX12_sum 11 RX12 3) (hrw : jrw E) (HR : jRL E cX12_sum 11 (wM (jg E) a0 (res.2)) (res.1)) (k51 : Int32 → Int32 → Int64 → Int32 → Int32 → MS → Option (Int64 × MS)) (hk51 : ∀ (v2 : Int32) (v3 : Int32) (v4 : Int64) (v6 : Int32) (v7 : Int32) (s0 : MS), k51 v2 v3 v4 v6 v7 s0 = some res → J E 11 (wM (jg E) a0 s0) 51 [(0, .ref (a0 0)), (2, .int v2), (3, .int v3), (4, .long v4), (6, .int v6), (7, .int v7)] []) : ∀ (v2 : Int32) (v3 : Int32) (v4 : Int64) (v6 : Int32) (v7 : Int32) (t0 : Int32) (t1 : Int32) (s0 : MS), f_X12_sum_82 k51 v2 v3 v4 v6 v7 t0 t1 s0 = some res → J E 11 (wM (jg E) a0 s0) 82 [(0, .ref (a0 0)), (2, .int v2), (3, .int v3), (4, .long v4), (6, .int v6), (7, .int v7)] [.int t1, .int t0] := by
  intro v2 v3 v4 v6 v7 t0 t1 s0 h
  unfold f_X12_sum_82 at h
  refine j_iload (pc' := 84) K dX12_sum_82 5 rfl rfl ?_
  obtain ⟨r84, hr84, h⟩ := jbd_some h
  refine j_ro (pc' := 87) K (fun H hP => jrun_S K dX12_sum_84 (M_X12_at (jl E) (jg E) t0 t1 v7 hr84) u_4_154 u_4_152 u_4_153 u_1_13 ⟨ok_X12_at, by decide, by decide⟩ rfl (Nat.le_of_ble_eq_true rfl) H) [] rfl rfl ?_
  refine j_istore (pc' := 89) (lv' := [(8, .int r84), (0, .ref (a0 0)), (2, .int v2), (3, .int v3), (4, .long v4), (6, .int v6), (7, .int v7)]) K dX12_sum_87 (by decide) rfl rfl ?_
  refine j_aload_n (pc' := 90) K dX12_sum_89 rfl 1 rfl rfl ?_
  refine j_get (pc' := 93) K dX12_sum_90 inX12 0 rfl rfl 8 (by decide) u_4_43 rfl rfl rfl ?_
  refine j_iload (pc' := 95) K dX12_sum_93 0 rfl rfl ?_
  obtain ⟨hg, h⟩ := jgd_some h
  refine j_lald (pc' := 96) K dX12_sum_95 5 rfl hg rfl ?_
  refine j_lstore (pc' := 98) (lv' := [(9, .long ((M_cell s0) (Int32.toNatClampNeg r84))), (8, .int r84), (0, .ref (a0 0)), (2, .int v2), (3, .int v3), (4, .long v4), (6, .int v6), (7, .int v7)]) K dX12_sum_96 (by decide) rfl rfl ?_
  refine j_iload (pc' := 100) K dX12_sum_98 6 rfl rfl ?_
  refine j_if_eq (pc' := 103) (tgt := 134) K dX12_sum_100 (by decide) rfl (fun hc => ?_) (fun hc => ?_)
  · have h := jit hc h
    refine j_sub [2, 3, 4, 5, 7, 0] rfl ?_
    exact b_X12_sum_134 a0 K hrw HR k51 hk51 v2 v3 v4 v7 ((M_cell s0) (Int32.toNatClampNeg r84)) s0 h
  · have h := jif hc h
    refine j_aload_n (pc' := 104) K dX12_sum_103 rfl 2 rfl rfl ?_
    refine j_get (pc' := 107) K dX12_sum_104 inX12 0 rfl rfl 9 (by decide) u_4_44 rfl rfl rfl ?_
    refine j_iload (pc' := 109) K dX12_sum_107 1 rfl rfl ?_
    obtain ⟨hg, h⟩ := jgd_some h
    refine j_zald (pc' := 110) K dX12_sum_109 6 rfl hg rfl ?_
    refine j_if_ne (pc' := 113) (tgt := 134) K dX12_sum_110 (by decide) rfl (fun hc => ?_) (fun hc => ?_)
    · have h := jif hc h
      refine j_sub [2, 3, 4, 5, 7, 0] rfl ?_
      exact b_X12_sum_134 a0 K hrw HR k51 hk51 v2 v3 v4 v7 ((M_cell s0) (Int32.toNatClampNeg r84)) s0 h
    · have h := jit hc h
      refine j_iload_n (pc' := 114) K dX12_sum_113 rfl 4 rfl rfl ?_
      refine j_iconst (pc' := 115) (v := (3 : Int32)) K dX12_sum_114 (by decide) rfl ?_
      refine j_icmp_lt (pc' := 118) (tgt := 130) K dX12_sum_115 (by decide) rfl (fun hc => ?_) (fun hc => ?_)
      · have h := jit hc h
        refine j_sub [2, 3, 4, 5, 7, 0] rfl ?_
        exact b_X12_sum_130 a0 K hrw HR k51 hk51 v2 v3 v4 v7 ((M_cell s0) (Int32.toNatClampNeg r84)) s0 h
      · have h := jif hc h
        refine j_lload (pc' := 120) K dX12_sum_118 0 rfl rfl ?_
        obtain ⟨r120, hr120, h⟩ := jbd_some h
        refine j_ro (pc' := 123) K (fun H hP => jrun_S K dX12_sum_120 (M_X12_size (jl E) (jg E) ((M_cell s0) (Int32.toNatClampNeg r84)) hr120) u_4_164 u_4_162 u_4_163 u_1_13 ⟨ok_X12_size, by decide, by decide⟩ rfl (Nat.le_of_ble_eq_true rfl) H) [] rfl rfl ?_
        refine j_ldc2 (pc' := 126) K dX12_sum_123 u_4_175 rfl ?_
        refine j_lcmp (pc' := 127) K dX12_sum_126 rfl ?_
        refine j_if_gt (pc' := 130) (tgt := 134) K dX12_sum_127 (by decide) rfl (fun hc => ?_) (fun hc => ?_)
        · have h := jit hc h
          refine j_sub [2, 3, 4, 5, 7, 0] rfl ?_
          exact b_X12_sum_134 a0 K hrw HR k51 hk51 v2 v3 v4 v7 ((M_cell s0) (Int32.toNatClampNeg r84)) s0 h
        · have h := jif hc h
          refine j_sub [2, 3, 4, 5, 7, 0] rfl ?_
          exact b_X12_sum_130 a0 K hrw HR k51 hk51 v2 v3 v4 v7 ((M_cell s0) (Int32.toNatClampNeg r84)) s0 h
set_option maxRecDepth 100000 in
set_option maxHeartbeats 4000000 in
theorem b_X12_sum_65 {E : jE} (a0 : Nat → Nat) {res : Int64 × MS} (K : jC E cX12_sum 11 RX12 3) (hrw : jrw E) (HR : jRL E cX12_sum 11 (wM (jg E) a0 (res.2)) (res.1)) (k51 : Int32 → Int32 → Int64 → Int32 → Int32 → MS → Option (Int64 × MS)) (hk51 : ∀ (v2 : Int32) (v3 : Int32) (v4 : Int64) (v6 : Int32) (v7 : Int32) (s0 : MS), k51 v2 v3 v4 v6 v7 s0 = some res → J E 11 (wM (jg E) a0 s0) 51 [(0, .ref (a0 0)), (2, .int v2), (3, .int v3), (4, .long v4), (6, .int v6), (7, .int v7)] []) : ∀ (v2 : Int32) (v3 : Int32) (v4 : Int64) (v6 : Int32) (v7 : Int32) (t0 : Int32) (t1 : Int32) (s0 : MS), f_X12_sum_65 k51 v2 v3 v4 v6 v7 t0 t1 s0 = some res → J E 11 (wM (jg E) a0 s0) 65 [(0, .ref (a0 0)), (2, .int v2), (3, .int v3), (4, .long v4), (6, .int v6), (7, .int v7)] [.int t1, .int t0] := by
  intro v2 v3 v4 v6 v7 t0 t1 s0 h
  unfold f_X12_sum_65 at h
  refine j_icmp_gt (pc' := 68) (tgt := 191) K dX12_sum_65 (by decide) rfl (fun hc => ?_) (fun hc => ?_)
  · have h := jit hc h
    refine j_sub [3, 4] rfl ?_
    exact b_X12_sum_191 a0 K hrw HR v4 v6 s0 h
  · have h := jif hc h
    refine j_iconst (pc' := 69) (v := (0 : Int32)) K dX12_sum_68 (by decide) rfl ?_
    refine j_iload_n (pc' := 70) K dX12_sum_69 rfl 2 rfl rfl ?_
    refine j_iconst (pc' := 71) (v := (2 : Int32)) K dX12_sum_70 (by decide) rfl ?_
    refine j_icmp_ne (pc' := 74) (tgt := 81) K dX12_sum_71 (by decide) rfl (fun hc => ?_) (fun hc => ?_)
    · have h := jif hc h
      refine j_iload_n (pc' := 82) K dX12_sum_81 rfl 1 rfl rfl ?_
      refine j_sub [0, 1, 2, 3, 4, 5] rfl ?_
      exact b_X12_sum_82 a0 K hrw HR k51 hk51 v2 v3 v4 v6 v7 (0 : Int32) v2 s0 h
    · have h := jit hc h
      refine j_iload_n (pc' := 75) K dX12_sum_74 rfl 1 rfl rfl ?_
      refine j_iload (pc' := 77) K dX12_sum_75 5 rfl rfl ?_
      refine j_isub (pc' := 78) K dX12_sum_77 rfl ?_
      refine j_goto (tgt := 82) K dX12_sum_78 (by decide) ?_
      refine j_sub [0, 1, 2, 3, 4, 5] rfl ?_
      exact b_X12_sum_82 a0 K hrw HR k51 hk51 v2 v3 v4 v6 v7 (0 : Int32) (v2 - v7) s0 h
set_option maxRecDepth 100000 in
set_option maxHeartbeats 4000000 in
theorem b_X12_sum_51 {E : jE} (a0 : Nat → Nat) {res : Int64 × MS} (K : jC E cX12_sum 11 RX12 3) (hrw : jrw E) (HR : jRL E cX12_sum 11 (wM (jg E) a0 (res.2)) (res.1)) : ∀ (n : Nat) (v2 : Int32) (v3 : Int32) (v4 : Int64) (v6 : Int32) (v7 : Int32) (s0 : MS), f_X12_sum_51 n v2 v3 v4 v6 v7 s0 = some res → J E 11 (wM (jg E) a0 s0) 51 [(0, .ref (a0 0)), (2, .int v2), (3, .int v3), (4, .long v4), (6, .int v6), (7, .int v7)] [] := by
  intro n
  induction n with
  | zero => intro _ _ _ _ _ _ h; cases h
  | succ n ih =>
    intro v2 v3 v4 v6 v7 s0 h
    rw [f_X12_sum_51] at h
    refine j_iload (pc' := 53) K dX12_sum_51 5 rfl rfl ?_
    refine j_iload_n (pc' := 54) K dX12_sum_53 rfl 2 rfl rfl ?_
    refine j_iconst (pc' := 55) (v := (2 : Int32)) K dX12_sum_54 (by decide) rfl ?_
    refine j_icmp_ne (pc' := 58) (tgt := 64) K dX12_sum_55 (by decide) rfl (fun hc => ?_) (fun hc => ?_)
    · have h := jif hc h
      refine j_iload_n (pc' := 65) K dX12_sum_64 rfl 1 rfl rfl ?_
      refine j_sub [0, 1, 2, 3, 4, 5] rfl ?_
      exact b_X12_sum_65 a0 K hrw HR (f_X12_sum_51 n) (ih) v2 v3 v4 v6 v7 v7 v2 s0 h
    · have h := jit hc h
      refine j_iload_n (pc' := 59) K dX12_sum_58 rfl 1 rfl rfl ?_
      refine j_iconst (pc' := 60) (v := (2 : Int32)) K dX12_sum_59 (by decide) rfl ?_
      refine j_idiv (pc' := 61) K dX12_sum_60 (by decide) rfl ?_
      refine j_goto (tgt := 65) K dX12_sum_61 (by decide) ?_
      refine j_sub [0, 1, 2, 3, 4, 5] rfl ?_
      exact b_X12_sum_65 a0 K hrw HR (f_X12_sum_51 n) (ih) v2 v3 v4 v6 v7 v7 (v2 / (2 : Int32)) s0 h
set_option maxRecDepth 100000 in
set_option maxHeartbeats 4000000 in
theorem b_X12_sum {E : jE} (a0 : Nat → Nat) {res : Int64 × MS} (K : jC E cX12_sum 11 RX12 3) (hrw : jrw E) (HR : jRL E cX12_sum 11 (wM (jg E) a0 (res.2)) (res.1)) : ∀ (v1 : Int32) (v2 : Int32) (v3 : Int32) (s0 : MS), f_X12_sum v1 v2 v3 s0 = some res → J E 11 (wM (jg E) a0 s0) 0 [(0, .ref (a0 0)), (1, .int v1), (2, .int v2), (3, .int v3)] [] := by
  intro v1 v2 v3 s0 h
  unfold f_X12_sum at h
  refine j_iload_n (pc' := 1) K dX12_sum_0 rfl 1 rfl rfl ?_
  obtain ⟨r1, hr1, h⟩ := jbd_some h
  refine j_ro (pc' := 4) K (fun H hP => jrun_S K dX12_sum_1 (M_X12_isLaw (jl E) (jg E) v1 hr1) u_4_140 u_4_138 u_4_139 u_1_13 ⟨ok_X12_isLaw, by decide, by decide⟩ rfl (Nat.le_of_ble_eq_true rfl) H) [] rfl rfl ?_
  refine j_if_eq (pc' := 7) (tgt := 31) K dX12_sum_4 (by decide) rfl (fun hc => ?_) (fun hc => ?_)
  · have h := jit hc h
    refine j_ldc2 (pc' := 34) K dX12_sum_31 u_4_147 rfl ?_
    obtain rfl := Option.some.inj h
    exact HR _ _ dX12_sum_34
  · have h := jif hc h
    refine j_iload_n (pc' := 8) K dX12_sum_7 rfl 2 rfl rfl ?_
    refine j_i2l (pc' := 9) K dX12_sum_8 rfl ?_
    refine j_lconst (pc' := 10) (v := (0 : Int64)) K dX12_sum_9 (by decide) rfl ?_
    refine j_ldc2 (pc' := 13) K dX12_sum_10 u_4_146 rfl ?_
    obtain ⟨r13, hr13, h⟩ := jbd_some h
    refine j_ro (pc' := 16) K (fun H hP => jrun_S K dX12_sum_13 (M_X12_in (jl E) (jg E) (Int32.toInt64 v2) (0 : Int64) (24 : Int64) hr13) u_4_107 u_4_105 u_4_106 u_1_13 ⟨ok_X12_in, by decide, by decide⟩ rfl (Nat.le_of_ble_eq_true rfl) H) [] rfl rfl ?_
    refine j_if_eq (pc' := 19) (tgt := 31) K dX12_sum_16 (by decide) rfl (fun hc => ?_) (fun hc => ?_)
    · have h := jit hc h
      refine j_ldc2 (pc' := 34) K dX12_sum_31 u_4_147 rfl ?_
      obtain rfl := Option.some.inj h
      exact HR _ _ dX12_sum_34
    · have h := jif hc h
      refine j_iload_n (pc' := 20) K dX12_sum_19 rfl 3 rfl rfl ?_
      refine j_i2l (pc' := 21) K dX12_sum_20 rfl ?_
      refine j_lconst (pc' := 22) (v := (0 : Int64)) K dX12_sum_21 (by decide) rfl ?_
      refine j_ldc2 (pc' := 25) K dX12_sum_22 u_4_141 rfl ?_
      obtain ⟨r25, hr25, h⟩ := jbd_some h
      refine j_ro (pc' := 28) K (fun H hP => jrun_S K dX12_sum_25 (M_X12_in (jl E) (jg E) (Int32.toInt64 v3) (0 : Int64) (3 : Int64) hr25) u_4_107 u_4_105 u_4_106 u_1_13 ⟨ok_X12_in, by decide, by decide⟩ rfl (Nat.le_of_ble_eq_true rfl) H) [] rfl rfl ?_
      refine j_if_ne (pc' := 31) (tgt := 35) K dX12_sum_28 (by decide) rfl (fun hc => ?_) (fun hc => ?_)
      · have h := jif hc h
        refine j_aload_n (pc' := 36) K dX12_sum_35 rfl 0 rfl rfl ?_
        refine j_iconst (pc' := 37) (v := (0 : Int32)) K dX12_sum_36 (by decide) rfl ?_
        refine j_iload_n (pc' := 38) K dX12_sum_37 rfl 1 rfl rfl ?_
        refine j_iload_n (pc' := 39) K dX12_sum_38 rfl 2 rfl rfl ?_
        obtain ⟨r39, hr39, h⟩ := jbd_some h
        refine j_rw (pc' := 42) (ws' := (wM (jg E) a0 r39)) K (fun H hP => jrun_V K dX12_sum_39 (M_X12_findRows (jl E) (jg E) a0 (0 : Int32) v1 v2 s0 hr39) u_4_151 u_4_148 u_4_150 u_p_24 u_1_13 ⟨ok_X12_findRows, by decide, by decide⟩ rfl (Nat.le_of_ble_eq_true rfl) 0 rfl rfl H hP) hrw [0, 1, 2, 3, 4, 5, 6, 7, 8, 9, 10, 11, 12, 13, 14, 15, 16] rfl (cl_56_s ..) rfl (cl_56_m ..) (ad_M ..) rfl ?_
        refine j_lconst (pc' := 43) (v := (0 : Int64)) K dX12_sum_42 (by decide) rfl ?_
        refine j_lstore (pc' := 45) (lv' := [(4, .long (0 : Int64)), (0, .ref (a0 0)), (1, .int v1), (2, .int v2), (3, .int v3)]) K dX12_sum_43 (by decide) rfl rfl ?_
        refine j_iconst (pc' := 46) (v := (1 : Int32)) K dX12_sum_45 (by decide) rfl ?_
        refine j_istore (pc' := 48) (lv' := [(6, .int (1 : Int32)), (4, .long (0 : Int64)), (0, .ref (a0 0)), (1, .int v1), (2, .int v2), (3, .int v3)]) K dX12_sum_46 (by decide) rfl rfl ?_
        refine j_iconst (pc' := 49) (v := (0 : Int32)) K dX12_sum_48 (by decide) rfl ?_
        refine j_istore (pc' := 51) (lv' := [(7, .int (0 : Int32)), (6, .int (1 : Int32)), (4, .long (0 : Int64)), (0, .ref (a0 0)), (1, .int v1), (2, .int v2), (3, .int v3)]) K dX12_sum_49 (by decide) rfl rfl ?_
        refine j_sub [3, 5, 6, 2, 1, 0] rfl ?_
        exact b_X12_sum_51 a0 K hrw HR jFU v2 v3 (0 : Int64) (1 : Int32) (0 : Int32) r39 h
      · have h := jit hc h
        refine j_ldc2 (pc' := 34) K dX12_sum_31 u_4_147 rfl ?_
        obtain rfl := Option.some.inj h
        exact HR _ _ dX12_sum_34
set_option maxRecDepth 100000 in
set_option maxHeartbeats 4000000 in
theorem M_X12_sum (l : Launch) (G : jG) (a0 : Nat → Nat) (v1 : Int32) (v2 : Int32) (v3 : Int32) (s0 : MS) {r : Int64 × MS} (h : f_X12_sum v1 v2 v3 s0 = some r) : MC l yX12_sum cX12_sum 11 (some .long) 3 G (jad (wM G a0 s0)) True (wM G a0 s0) (wM G a0 (r.2)) [.ref (a0 0), .int v1, .int v2, .int v3] (some (.long (r.1))) := by
  refine mc_long (by decide +kernel) (Nat.le_of_ble_eq_true rfl) fun E hl hg hA hrw K HR => ?_
  subst hl
  subst hg
  have hrw : jrw E := by rw [hrw]; trivial
  exact b_X12_sum a0 K hrw HR v1 v2 v3 s0 h
theorem ok_X12_shape : yX12_shape.cls ≠ "java/lang/invoke/MethodHandle" ∧ yX12_shape.cls ≠ "java/lang/invoke/VarHandle" ∧ (parseMethodDescriptor yX12_shape.desc).map (fun d => d.parameters.length) = some 3 := ⟨by decide, by decide, by decide +kernel⟩
def f_X12_shape_289 (v3 : Int32) (v5 : Int32) (v6 : Int32) (v7 : Int32) (s0 : MS) : Option (Int32 × MS) :=
   if v3 = 0 then
   some (v5, s0)
  else
   if v3 = (1 : Int32) then
    some (v6, s0)
   else
    some (v7, s0)
def f_X12_shape_281 (k125 : Int32 → Int32 → Int32 → Int32 → Int32 → Int32 → Int32 → Int32 → MS → Option (Int32 × MS)) (v2 : Int32) (v3 : Int32) (v4 : Int32) (v5 : Int32) (v6 : Int32) (v8 : Int32) (v9 : Int32) (t0 : Int32) (s0 : MS) : Option (Int32 × MS) :=
   k125 v2 v3 v4 v5 v6 t0 v8 (v9 + (1 : Int32)) s0
def f_X12_shape_279 (k125 : Int32 → Int32 → Int32 → Int32 → Int32 → Int32 → Int32 → Int32 → MS → Option (Int32 × MS)) (v2 : Int32) (v3 : Int32) (v4 : Int32) (v5 : Int32) (v6 : Int32) (v7 : Int32) (v8 : Int32) (v9 : Int32) (s0 : MS) : Option (Int32 × MS) :=
   f_X12_shape_281 k125 v2 v3 v4 v5 v6 v8 v9 v7 s0
def f_X12_shape_231 (k125 : Int32 → Int32 → Int32 → Int32 → Int32 → Int32 → Int32 → Int32 → MS → Option (Int32 × MS)) (v2 : Int32) (v3 : Int32) (v4 : Int32) (v5 : Int32) (v6 : Int32) (v7 : Int32) (v9 : Int32) (v10 : Int64) (v12 : Int64) (t0 : Int32) (s0 : MS) : Option (Int32 × MS) :=
   if v3 = (2 : Int32) then
   if v7 = (-4 : Int32) then
    if v9 ≤ 0 then
     f_X12_shape_279 k125 v2 v3 v4 v5 v6 v7 t0 v9 s0
    else
     jgd ((v4 + v9) - (1 : Int32)) 650 (
      if 0 ≤ (lg_cmp (v10 * v10) (((M_cell s0) (Int32.toNatClampNeg ((v4 + v9) - (1 : Int32)))) * v12)) then
       f_X12_shape_279 k125 v2 v3 v4 v5 v6 v7 t0 v9 s0
      else
       f_X12_shape_281 k125 v2 v3 v4 v5 v6 t0 v9 v9 s0)
   else
    f_X12_shape_279 k125 v2 v3 v4 v5 v6 v7 t0 v9 s0
  else
   f_X12_shape_279 k125 v2 v3 v4 v5 v6 v7 t0 v9 s0
def f_X12_shape_226 (k125 : Int32 → Int32 → Int32 → Int32 → Int32 → Int32 → Int32 → Int32 → MS → Option (Int32 × MS)) (v2 : Int32) (v3 : Int32) (v4 : Int32) (v5 : Int32) (v6 : Int32) (v7 : Int32) (v9 : Int32) (v10 : Int64) (v12 : Int64) (s0 : MS) : Option (Int32 × MS) :=
   f_X12_shape_231 k125 v2 v3 v4 v5 v6 v7 v9 v10 v12 (1 : Int32) s0
def f_X12_shape_211 (k125 : Int32 → Int32 → Int32 → Int32 → Int32 → Int32 → Int32 → Int32 → MS → Option (Int32 × MS)) (v2 : Int32) (v3 : Int32) (v4 : Int32) (v5 : Int32) (v7 : Int32) (v8 : Int32) (v9 : Int32) (v10 : Int64) (v12 : Int64) (t0 : Int32) (s0 : MS) : Option (Int32 × MS) :=
   if v8 = 0 then
   if 0 ≤ (lg_cmp v12 v10) then
    f_X12_shape_231 k125 v2 v3 v4 v5 t0 v7 v9 v10 v12 (0 : Int32) s0
   else
    f_X12_shape_226 k125 v2 v3 v4 v5 t0 v7 v9 v10 v12 s0
  else
   f_X12_shape_226 k125 v2 v3 v4 v5 t0 v7 v9 v10 v12 s0
def f_X12_shape_209 (k125 : Int32 → Int32 → Int32 → Int32 → Int32 → Int32 → Int32 → Int32 → MS → Option (Int32 × MS)) (v2 : Int32) (v3 : Int32) (v4 : Int32) (v5 : Int32) (v6 : Int32) (v7 : Int32) (v8 : Int32) (v9 : Int32) (v10 : Int64) (v12 : Int64) (s0 : MS) : Option (Int32 × MS) :=
   f_X12_shape_211 k125 v2 v3 v4 v5 v7 v8 v9 v10 v12 v6 s0
def f_X12_shape_182 (k125 : Int32 → Int32 → Int32 → Int32 → Int32 → Int32 → Int32 → Int32 → MS → Option (Int32 × MS)) (v2 : Int32) (v3 : Int32) (v4 : Int32) (v6 : Int32) (v7 : Int32) (v8 : Int32) (v9 : Int32) (v10 : Int64) (v12 : Int64) (t0 : Int32) (s0 : MS) : Option (Int32 × MS) :=
   if v6 = (-4 : Int32) then
   if v8 = 0 then
    f_X12_shape_209 k125 v2 v3 v4 t0 v6 v7 v8 v9 v10 v12 s0
   else
    if (lg_cmp v12 v10) ≤ 0 then
     f_X12_shape_209 k125 v2 v3 v4 t0 v6 v7 v8 v9 v10 v12 s0
    else
     f_X12_shape_211 k125 v2 v3 v4 t0 v7 v8 v9 v10 v12 v9 s0
  else
   f_X12_shape_209 k125 v2 v3 v4 t0 v6 v7 v8 v9 v10 v12 s0
def f_X12_shape_125 : Nat → Int32 → Int32 → Int32 → Int32 → Int32 → Int32 → Int32 → Int32 → MS → Option (Int32 × MS)
  | 0, _, _, _, _, _, _, _, _, _ => none
  | n + 1, v2, v3, v4, v5, v6, v7, v8, v9, s0 =>
   if v2 ≤ v9 then
   f_X12_shape_289 v3 v5 v6 v7 s0
  else
   jgd (v4 + v9) 650 (
    jgd ((v4 + v9) + (1 : Int32)) 650 (
     jgd (v4 + v5) 650 (
      if (lg_cmp ((M_cell s0) (Int32.toNatClampNeg ((v4 + v9) + (1 : Int32)))) ((M_cell s0) (Int32.toNatClampNeg (v4 + v5)))) ≤ 0 then
       f_X12_shape_182 (f_X12_shape_125 n) v2 v3 v4 v6 v7 v8 v9 ((M_cell s0) (Int32.toNatClampNeg (v4 + v9))) ((M_cell s0) (Int32.toNatClampNeg ((v4 + v9) + (1 : Int32)))) v5 s0
      else
       f_X12_shape_182 (f_X12_shape_125 n) v2 v3 v4 v6 v7 v8 v9 ((M_cell s0) (Int32.toNatClampNeg (v4 + v9))) ((M_cell s0) (Int32.toNatClampNeg ((v4 + v9) + (1 : Int32)))) (v9 + (1 : Int32)) s0)))
def f_X12_shape_100 (v2 : Int32) (v3 : Int32) (s0 : MS) : Option (Int32 × MS) :=
   jbd (f_X12_at (0 : Int32) v2 (0 : Int32)) (fun r103 =>
   f_X12_shape_125 jFU v2 v3 r103 (0 : Int32) (-4 : Int32) (-4 : Int32) (0 : Int32) (0 : Int32) s0)
def f_X12_shape_94 (k43 : Int32 → Int32 → Int32 → MS → Option (Int32 × MS)) (v2 : Int32) (v3 : Int32) (v4 : Int32) (s0 : MS) : Option (Int32 × MS) :=
   k43 v2 v3 (v4 + (1 : Int32)) s0
def f_X12_shape_43 : Nat → Int32 → Int32 → Int32 → MS → Option (Int32 × MS)
  | 0, _, _, _, _ => none
  | n + 1, v2, v3, v4, s0 =>
   if v2 < v4 then
   f_X12_shape_100 v2 v3 s0
  else
   jbd (f_X12_at (0 : Int32) v2 v4) (fun r57 =>
    jgd r57 650 (
     if ((M_isGreat s0) (Int32.toNatClampNeg r57)) = 0 then
      if v3 = (2 : Int32) then
       jbd (f_X12_at (0 : Int32) v2 v4) (fun r77 =>
        jgd r77 650 (
         jbd (f_X12_size ((M_cell s0) (Int32.toNatClampNeg r77))) (fun r81 =>
          if (lg_cmp r81 (100000000 : Int64)) ≤ 0 then
           f_X12_shape_94 (f_X12_shape_43 n) v2 v3 v4 s0
          else
           some ((-2 : Int32), s0))))
      else
       f_X12_shape_94 (f_X12_shape_43 n) v2 v3 v4 s0
     else
      some ((-2 : Int32), s0)))
def f_X12_shape (v1 : Int32) (v2 : Int32) (v3 : Int32) (s0 : MS) : Option (Int32 × MS) :=
   jbd (f_X12_isLaw v1) (fun r1 =>
   if r1 = 0 then
    some ((-1 : Int32), s0)
   else
    jbd (f_X12_in (Int32.toInt64 v2) (0 : Int64) (24 : Int64)) (fun r13 =>
     if r13 = 0 then
      some ((-1 : Int32), s0)
     else
      jbd (f_X12_in (Int32.toInt64 v3) (0 : Int64) (2 : Int64)) (fun r25 =>
       if r25 = 0 then
        some ((-1 : Int32), s0)
       else
        jbd (f_X12_findRows (0 : Int32) v1 v2 s0) (fun r37 =>
         f_X12_shape_43 jFU v2 v3 (0 : Int32) r37))))
set_option maxRecDepth 100000 in
set_option maxHeartbeats 4000000 in
theorem b_X12_shape_289 {E : jE} (a0 : Nat → Nat) {res : Int32 × MS} (K : jC E cX12_shape 14 RX12 3) (hrw : jrw E) (HR : jRI E cX12_shape 14 (wM (jg E) a0 (res.2)) (res.1)) : ∀ (v3 : Int32) (v5 : Int32) (v6 : Int32) (v7 : Int32) (s0 : MS), f_X12_shape_289 v3 v5 v6 v7 s0 = some res → J E 14 (wM (jg E) a0 s0) 289 [(3, .int v3), (5, .int v5), (6, .int v6), (7, .int v7)] [] := by
  intro v3 v5 v6 v7 s0 h
  unfold f_X12_shape_289 at h
  refine j_iload_n (pc' := 290) K dX12_shape_289 rfl 0 rfl rfl ?_
  refine j_if_ne (pc' := 293) (tgt := 298) K dX12_shape_290 (by decide) rfl (fun hc => ?_) (fun hc => ?_)
  · have h := jif hc h
    refine j_iload_n (pc' := 299) K dX12_shape_298 rfl 0 rfl rfl ?_
    refine j_iconst (pc' := 300) (v := (1 : Int32)) K dX12_shape_299 (by decide) rfl ?_
    refine j_icmp_ne (pc' := 303) (tgt := 308) K dX12_shape_300 (by decide) rfl (fun hc => ?_) (fun hc => ?_)
    · have h := jif hc h
      refine j_iload (pc' := 310) K dX12_shape_308 3 rfl rfl ?_
      obtain rfl := Option.some.inj h
      exact HR _ _ dX12_shape_310
    · have h := jit hc h
      refine j_iload (pc' := 305) K dX12_shape_303 2 rfl rfl ?_
      refine j_goto (tgt := 310) K dX12_shape_305 (by decide) ?_
      obtain rfl := Option.some.inj h
      exact HR _ _ dX12_shape_310
  · have h := jit hc h
    refine j_iload (pc' := 295) K dX12_shape_293 1 rfl rfl ?_
    refine j_goto (tgt := 310) K dX12_shape_295 (by decide) ?_
    obtain rfl := Option.some.inj h
    exact HR _ _ dX12_shape_310
set_option maxRecDepth 100000 in
set_option maxHeartbeats 4000000 in
theorem b_X12_shape_281 {E : jE} (a0 : Nat → Nat) {res : Int32 × MS} (K : jC E cX12_shape 14 RX12 3) (hrw : jrw E) (HR : jRI E cX12_shape 14 (wM (jg E) a0 (res.2)) (res.1)) (k125 : Int32 → Int32 → Int32 → Int32 → Int32 → Int32 → Int32 → Int32 → MS → Option (Int32 × MS)) (hk125 : ∀ (v2 : Int32) (v3 : Int32) (v4 : Int32) (v5 : Int32) (v6 : Int32) (v7 : Int32) (v8 : Int32) (v9 : Int32) (s0 : MS), k125 v2 v3 v4 v5 v6 v7 v8 v9 s0 = some res → J E 14 (wM (jg E) a0 s0) 125 [(0, .ref (a0 0)), (2, .int v2), (3, .int v3), (4, .int v4), (5, .int v5), (6, .int v6), (7, .int v7), (8, .int v8), (9, .int v9)] []) : ∀ (v2 : Int32) (v3 : Int32) (v4 : Int32) (v5 : Int32) (v6 : Int32) (v8 : Int32) (v9 : Int32) (t0 : Int32) (s0 : MS), f_X12_shape_281 k125 v2 v3 v4 v5 v6 v8 v9 t0 s0 = some res → J E 14 (wM (jg E) a0 s0) 281 [(0, .ref (a0 0)), (2, .int v2), (3, .int v3), (4, .int v4), (5, .int v5), (6, .int v6), (8, .int v8), (9, .int v9)] [.int t0] := by
  intro v2 v3 v4 v5 v6 v8 v9 t0 s0 h
  unfold f_X12_shape_281 at h
  refine j_istore (pc' := 283) (lv' := [(7, .int t0), (0, .ref (a0 0)), (2, .int v2), (3, .int v3), (4, .int v4), (5, .int v5), (6, .int v6), (8, .int v8), (9, .int v9)]) K dX12_shape_281 (by decide) rfl rfl ?_
  refine j_iinc (pc' := 286) (j := 8) (v := (v9 + (1 : Int32))) (lv' := [(9, .int (v9 + (1 : Int32))), (7, .int t0), (0, .ref (a0 0)), (2, .int v2), (3, .int v3), (4, .int v4), (5, .int v5), (6, .int v6), (8, .int v8)]) K dX12_shape_283 rfl rfl (by decide) rfl rfl ?_
  refine j_goto (tgt := 125) K dX12_shape_286 (by decide) ?_
  refine j_sub [2, 3, 4, 5, 6, 7, 1, 8, 0] rfl ?_
  exact hk125 v2 v3 v4 v5 v6 t0 v8 (v9 + (1 : Int32)) s0 h
set_option maxRecDepth 100000 in
set_option maxHeartbeats 4000000 in
theorem b_X12_shape_279 {E : jE} (a0 : Nat → Nat) {res : Int32 × MS} (K : jC E cX12_shape 14 RX12 3) (hrw : jrw E) (HR : jRI E cX12_shape 14 (wM (jg E) a0 (res.2)) (res.1)) (k125 : Int32 → Int32 → Int32 → Int32 → Int32 → Int32 → Int32 → Int32 → MS → Option (Int32 × MS)) (hk125 : ∀ (v2 : Int32) (v3 : Int32) (v4 : Int32) (v5 : Int32) (v6 : Int32) (v7 : Int32) (v8 : Int32) (v9 : Int32) (s0 : MS), k125 v2 v3 v4 v5 v6 v7 v8 v9 s0 = some res → J E 14 (wM (jg E) a0 s0) 125 [(0, .ref (a0 0)), (2, .int v2), (3, .int v3), (4, .int v4), (5, .int v5), (6, .int v6), (7, .int v7), (8, .int v8), (9, .int v9)] []) : ∀ (v2 : Int32) (v3 : Int32) (v4 : Int32) (v5 : Int32) (v6 : Int32) (v7 : Int32) (v8 : Int32) (v9 : Int32) (s0 : MS), f_X12_shape_279 k125 v2 v3 v4 v5 v6 v7 v8 v9 s0 = some res → J E 14 (wM (jg E) a0 s0) 279 [(0, .ref (a0 0)), (2, .int v2), (3, .int v3), (4, .int v4), (5, .int v5), (6, .int v6), (7, .int v7), (8, .int v8), (9, .int v9)] [] := by
  intro v2 v3 v4 v5 v6 v7 v8 v9 s0 h
  unfold f_X12_shape_279 at h
  refine j_iload (pc' := 281) K dX12_shape_279 6 rfl rfl ?_
  refine j_sub [0, 1, 2, 3, 4, 5, 7, 8] rfl ?_
  exact b_X12_shape_281 a0 K hrw HR k125 hk125 v2 v3 v4 v5 v6 v8 v9 v7 s0 h
set_option maxRecDepth 100000 in
set_option maxHeartbeats 4000000 in
theorem b_X12_shape_231 {E : jE} (a0 : Nat → Nat) {res : Int32 × MS} (K : jC E cX12_shape 14 RX12 3) (hrw : jrw E) (HR : jRI E cX12_shape 14 (wM (jg E) a0 (res.2)) (res.1)) (k125 : Int32 → Int32 → Int32 → Int32 → Int32 → Int32 → Int32 → Int32 → MS → Option (Int32 × MS)) (hk125 : ∀ (v2 : Int32) (v3 : Int32) (v4 : Int32) (v5 : Int32) (v6 : Int32) (v7 : Int32) (v8 : Int32) (v9 : Int32) (s0 : MS), k125 v2 v3 v4 v5 v6 v7 v8 v9 s0 = some res → J E 14 (wM (jg E) a0 s0) 125 [(0, .ref (a0 0)), (2, .int v2), (3, .int v3), (4, .int v4), (5, .int v5), (6, .int v6), (7, .int v7), (8, .int v8), (9, .int v9)] []) : ∀ (v2 : Int32) (v3 : Int32) (v4 : Int32) (v5 : Int32) (v6 : Int32) (v7 : Int32) (v9 : Int32) (v10 : Int64) (v12 : Int64) (t0 : Int32) (s0 : MS), f_X12_shape_231 k125 v2 v3 v4 v5 v6 v7 v9 v10 v12 t0 s0 = some res → J E 14 (wM (jg E) a0 s0) 231 [(0, .ref (a0 0)), (2, .int v2), (3, .int v3), (4, .int v4), (5, .int v5), (6, .int v6), (7, .int v7), (9, .int v9), (10, .long v10), (12, .long v12)] [.int t0] := by
  intro v2 v3 v4 v5 v6 v7 v9 v10 v12 t0 s0 h
  unfold f_X12_shape_231 at h
  refine j_istore (pc' := 233) (lv' := [(8, .int t0), (0, .ref (a0 0)), (2, .int v2), (3, .int v3), (4, .int v4), (5, .int v5), (6, .int v6), (7, .int v7), (9, .int v9), (10, .long v10), (12, .long v12)]) K dX12_shape_231 (by decide) rfl rfl ?_
  refine j_iload_n (pc' := 234) K dX12_shape_233 rfl 3 rfl rfl ?_
  refine j_iconst (pc' := 235) (v := (2 : Int32)) K dX12_shape_234 (by decide) rfl ?_
  refine j_icmp_ne (pc' := 238) (tgt := 279) K dX12_shape_235 (by decide) rfl (fun hc => ?_) (fun hc => ?_)
  · have h := jif hc h
    refine j_sub [1, 2, 3, 4, 5, 6, 7, 0, 8] rfl ?_
    exact b_X12_shape_279 a0 K hrw HR k125 hk125 v2 v3 v4 v5 v6 v7 t0 v9 s0 h
  · have h := jit hc h
    refine j_iload (pc' := 240) K dX12_shape_238 7 rfl rfl ?_
    refine j_bipush (pc' := 242) (v := (-4 : Int32)) K dX12_shape_240 (by decide) rfl ?_
    refine j_icmp_ne (pc' := 245) (tgt := 279) K dX12_shape_242 (by decide) rfl (fun hc => ?_) (fun hc => ?_)
    · have h := jif hc h
      refine j_sub [1, 2, 3, 4, 5, 6, 7, 0, 8] rfl ?_
      exact b_X12_shape_279 a0 K hrw HR k125 hk125 v2 v3 v4 v5 v6 v7 t0 v9 s0 h
    · have h := jit hc h
      refine j_iload (pc' := 247) K dX12_shape_245 8 rfl rfl ?_
      refine j_if_le (pc' := 250) (tgt := 279) K dX12_shape_247 (by decide) rfl (fun hc => ?_) (fun hc => ?_)
      · have h := jit hc h
        refine j_sub [1, 2, 3, 4, 5, 6, 7, 0, 8] rfl ?_
        exact b_X12_shape_279 a0 K hrw HR k125 hk125 v2 v3 v4 v5 v6 v7 t0 v9 s0 h
      · have h := jif hc h
        refine j_lload (pc' := 252) K dX12_shape_250 9 rfl rfl ?_
        refine j_lload (pc' := 254) K dX12_shape_252 9 rfl rfl ?_
        refine j_lmul (pc' := 255) K dX12_shape_254 rfl ?_
        refine j_aload_n (pc' := 256) K dX12_shape_255 rfl 1 rfl rfl ?_
        refine j_get (pc' := 259) K dX12_shape_256 inX12 0 rfl rfl 8 (by decide) u_4_43 rfl rfl rfl ?_
        refine j_iload (pc' := 261) K dX12_shape_259 4 rfl rfl ?_
        refine j_iload (pc' := 263) K dX12_shape_261 8 rfl rfl ?_
        refine j_iadd (pc' := 264) K dX12_shape_263 rfl ?_
        refine j_iconst (pc' := 265) (v := (1 : Int32)) K dX12_shape_264 (by decide) rfl ?_
        refine j_isub (pc' := 266) K dX12_shape_265 rfl ?_
        obtain ⟨hg, h⟩ := jgd_some h
        refine j_lald (pc' := 267) K dX12_shape_266 5 rfl hg rfl ?_
        refine j_lload (pc' := 269) K dX12_shape_267 10 rfl rfl ?_
        refine j_lmul (pc' := 270) K dX12_shape_269 rfl ?_
        refine j_lcmp (pc' := 271) K dX12_shape_270 rfl ?_
        refine j_if_ge (pc' := 274) (tgt := 279) K dX12_shape_271 (by decide) rfl (fun hc => ?_) (fun hc => ?_)
        · have h := jit hc h
          refine j_sub [1, 2, 3, 4, 5, 6, 7, 0, 8] rfl ?_
          exact b_X12_shape_279 a0 K hrw HR k125 hk125 v2 v3 v4 v5 v6 v7 t0 v9 s0 h
        · have h := jif hc h
          refine j_iload (pc' := 276) K dX12_shape_274 8 rfl rfl ?_
          refine j_goto (tgt := 281) K dX12_shape_276 (by decide) ?_
          refine j_sub [1, 2, 3, 4, 5, 6, 0, 8] rfl ?_
          exact b_X12_shape_281 a0 K hrw HR k125 hk125 v2 v3 v4 v5 v6 t0 v9 v9 s0 h
set_option maxRecDepth 100000 in
set_option maxHeartbeats 4000000 in
theorem b_X12_shape_226 {E : jE} (a0 : Nat → Nat) {res : Int32 × MS} (K : jC E cX12_shape 14 RX12 3) (hrw : jrw E) (HR : jRI E cX12_shape 14 (wM (jg E) a0 (res.2)) (res.1)) (k125 : Int32 → Int32 → Int32 → Int32 → Int32 → Int32 → Int32 → Int32 → MS → Option (Int32 × MS)) (hk125 : ∀ (v2 : Int32) (v3 : Int32) (v4 : Int32) (v5 : Int32) (v6 : Int32) (v7 : Int32) (v8 : Int32) (v9 : Int32) (s0 : MS), k125 v2 v3 v4 v5 v6 v7 v8 v9 s0 = some res → J E 14 (wM (jg E) a0 s0) 125 [(0, .ref (a0 0)), (2, .int v2), (3, .int v3), (4, .int v4), (5, .int v5), (6, .int v6), (7, .int v7), (8, .int v8), (9, .int v9)] []) : ∀ (v2 : Int32) (v3 : Int32) (v4 : Int32) (v5 : Int32) (v6 : Int32) (v7 : Int32) (v9 : Int32) (v10 : Int64) (v12 : Int64) (s0 : MS), f_X12_shape_226 k125 v2 v3 v4 v5 v6 v7 v9 v10 v12 s0 = some res → J E 14 (wM (jg E) a0 s0) 226 [(0, .ref (a0 0)), (2, .int v2), (3, .int v3), (4, .int v4), (5, .int v5), (6, .int v6), (7, .int v7), (9, .int v9), (10, .long v10), (12, .long v12)] [] := by
  intro v2 v3 v4 v5 v6 v7 v9 v10 v12 s0 h
  unfold f_X12_shape_226 at h
  refine j_iconst (pc' := 227) (v := (1 : Int32)) K dX12_shape_226 (by decide) rfl ?_
  refine j_goto (tgt := 231) K dX12_shape_227 (by decide) ?_
  refine j_sub [0, 1, 2, 3, 4, 5, 6, 7, 8, 9] rfl ?_
  exact b_X12_shape_231 a0 K hrw HR k125 hk125 v2 v3 v4 v5 v6 v7 v9 v10 v12 (1 : Int32) s0 h
set_option maxRecDepth 100000 in
set_option maxHeartbeats 4000000 in
theorem b_X12_shape_211 {E : jE} (a0 : Nat → Nat) {res : Int32 × MS} (K : jC E cX12_shape 14 RX12 3) (hrw : jrw E) (HR : jRI E cX12_shape 14 (wM (jg E) a0 (res.2)) (res.1)) (k125 : Int32 → Int32 → Int32 → Int32 → Int32 → Int32 → Int32 → Int32 → MS → Option (Int32 × MS)) (hk125 : ∀ (v2 : Int32) (v3 : Int32) (v4 : Int32) (v5 : Int32) (v6 : Int32) (v7 : Int32) (v8 : Int32) (v9 : Int32) (s0 : MS), k125 v2 v3 v4 v5 v6 v7 v8 v9 s0 = some res → J E 14 (wM (jg E) a0 s0) 125 [(0, .ref (a0 0)), (2, .int v2), (3, .int v3), (4, .int v4), (5, .int v5), (6, .int v6), (7, .int v7), (8, .int v8), (9, .int v9)] []) : ∀ (v2 : Int32) (v3 : Int32) (v4 : Int32) (v5 : Int32) (v7 : Int32) (v8 : Int32) (v9 : Int32) (v10 : Int64) (v12 : Int64) (t0 : Int32) (s0 : MS), f_X12_shape_211 k125 v2 v3 v4 v5 v7 v8 v9 v10 v12 t0 s0 = some res → J E 14 (wM (jg E) a0 s0) 211 [(0, .ref (a0 0)), (2, .int v2), (3, .int v3), (4, .int v4), (5, .int v5), (7, .int v7), (8, .int v8), (9, .int v9), (10, .long v10), (12, .long v12)] [.int t0] := by
  intro v2 v3 v4 v5 v7 v8 v9 v10 v12 t0 s0 h
  unfold f_X12_shape_211 at h
  refine j_istore (pc' := 213) (lv' := [(6, .int t0), (0, .ref (a0 0)), (2, .int v2), (3, .int v3), (4, .int v4), (5, .int v5), (7, .int v7), (8, .int v8), (9, .int v9), (10, .long v10), (12, .long v12)]) K dX12_shape_211 (by decide) rfl rfl ?_
  refine j_iload (pc' := 215) K dX12_shape_213 7 rfl rfl ?_
  refine j_if_ne (pc' := 218) (tgt := 226) K dX12_shape_215 (by decide) rfl (fun hc => ?_) (fun hc => ?_)
  · have h := jif hc h
    refine j_sub [1, 2, 3, 4, 5, 0, 6, 8, 9, 10] rfl ?_
    exact b_X12_shape_226 a0 K hrw HR k125 hk125 v2 v3 v4 v5 t0 v7 v9 v10 v12 s0 h
  · have h := jit hc h
    refine j_lload (pc' := 220) K dX12_shape_218 10 rfl rfl ?_
    refine j_lload (pc' := 222) K dX12_shape_220 9 rfl rfl ?_
    refine j_lcmp (pc' := 223) K dX12_shape_222 rfl ?_
    refine j_if_ge (pc' := 226) (tgt := 230) K dX12_shape_223 (by decide) rfl (fun hc => ?_) (fun hc => ?_)
    · have h := jit hc h
      refine j_iconst (pc' := 231) (v := (0 : Int32)) K dX12_shape_230 (by decide) rfl ?_
      refine j_sub [1, 2, 3, 4, 5, 0, 6, 8, 9, 10] rfl ?_
      exact b_X12_shape_231 a0 K hrw HR k125 hk125 v2 v3 v4 v5 t0 v7 v9 v10 v12 (0 : Int32) s0 h
    · have h := jif hc h
      refine j_sub [1, 2, 3, 4, 5, 0, 6, 8, 9, 10] rfl ?_
      exact b_X12_shape_226 a0 K hrw HR k125 hk125 v2 v3 v4 v5 t0 v7 v9 v10 v12 s0 h
set_option maxRecDepth 100000 in
set_option maxHeartbeats 4000000 in
theorem b_X12_shape_209 {E : jE} (a0 : Nat → Nat) {res : Int32 × MS} (K : jC E cX12_shape 14 RX12 3) (hrw : jrw E) (HR : jRI E cX12_shape 14 (wM (jg E) a0 (res.2)) (res.1)) (k125 : Int32 → Int32 → Int32 → Int32 → Int32 → Int32 → Int32 → Int32 → MS → Option (Int32 × MS)) (hk125 : ∀ (v2 : Int32) (v3 : Int32) (v4 : Int32) (v5 : Int32) (v6 : Int32) (v7 : Int32) (v8 : Int32) (v9 : Int32) (s0 : MS), k125 v2 v3 v4 v5 v6 v7 v8 v9 s0 = some res → J E 14 (wM (jg E) a0 s0) 125 [(0, .ref (a0 0)), (2, .int v2), (3, .int v3), (4, .int v4), (5, .int v5), (6, .int v6), (7, .int v7), (8, .int v8), (9, .int v9)] []) : ∀ (v2 : Int32) (v3 : Int32) (v4 : Int32) (v5 : Int32) (v6 : Int32) (v7 : Int32) (v8 : Int32) (v9 : Int32) (v10 : Int64) (v12 : Int64) (s0 : MS), f_X12_shape_209 k125 v2 v3 v4 v5 v6 v7 v8 v9 v10 v12 s0 = some res → J E 14 (wM (jg E) a0 s0) 209 [(0, .ref (a0 0)), (2, .int v2), (3, .int v3), (4, .int v4), (5, .int v5), (6, .int v6), (7, .int v7), (8, .int v8), (9, .int v9), (10, .long v10), (12, .long v12)] [] := by
  intro v2 v3 v4 v5 v6 v7 v8 v9 v10 v12 s0 h
  unfold f_X12_shape_209 at h
  refine j_iload (pc' := 211) K dX12_shape_209 5 rfl rfl ?_
  refine j_sub [0, 1, 2, 3, 4, 6, 7, 8, 9, 10] rfl ?_
  exact b_X12_shape_211 a0 K hrw HR k125 hk125 v2 v3 v4 v5 v7 v8 v9 v10 v12 v6 s0 h
set_option maxRecDepth 100000 in
set_option maxHeartbeats 4000000 in
theorem b_X12_shape_182 {E : jE} (a0 : Nat → Nat) {res : Int32 × MS} (K : jC E cX12_shape 14 RX12 3) (hrw : jrw E) (HR : jRI E cX12_shape 14 (wM (jg E) a0 (res.2)) (res.1)) (k125 : Int32 → Int32 → Int32 → Int32 → Int32 → Int32 → Int32 → Int32 → MS → Option (Int32 × MS)) (hk125 : ∀ (v2 : Int32) (v3 : Int32) (v4 : Int32) (v5 : Int32) (v6 : Int32) (v7 : Int32) (v8 : Int32) (v9 : Int32) (s0 : MS), k125 v2 v3 v4 v5 v6 v7 v8 v9 s0 = some res → J E 14 (wM (jg E) a0 s0) 125 [(0, .ref (a0 0)), (2, .int v2), (3, .int v3), (4, .int v4), (5, .int v5), (6, .int v6), (7, .int v7), (8, .int v8), (9, .int v9)] []) : ∀ (v2 : Int32) (v3 : Int32) (v4 : Int32) (v6 : Int32) (v7 : Int32) (v8 : Int32) (v9 : Int32) (v10 : Int64) (v12 : Int64) (t0 : Int32) (s0 : MS), f_X12_shape_182 k125 v2 v3 v4 v6 v7 v8 v9 v10 v12 t0 s0 = some res → J E 14 (wM (jg E) a0 s0) 182 [(0, .ref (a0 0)), (2, .int v2), (3, .int v3), (4, .int v4), (6, .int v6), (7, .int v7), (8, .int v8), (9, .int v9), (10, .long v10), (12, .long v12)] [.int t0] := by
  intro v2 v3 v4 v6 v7 v8 v9 v10 v12 t0 s0 h
  unfold f_X12_shape_182 at h
  refine j_istore (pc' := 184) (lv' := [(5, .int t0), (0, .ref (a0 0)), (2, .int v2), (3, .int v3), (4, .int v4), (6, .int v6), (7, .int v7), (8, .int v8), (9, .int v9), (10, .long v10), (12, .long v12)]) K dX12_shape_182 (by decide) rfl rfl ?_
  refine j_iload (pc' := 186) K dX12_shape_184 5 rfl rfl ?_
  refine j_bipush (pc' := 188) (v := (-4 : Int32)) K dX12_shape_186 (by decide) rfl ?_
  refine j_icmp_ne (pc' := 191) (tgt := 209) K dX12_shape_188 (by decide) rfl (fun hc => ?_) (fun hc => ?_)
  · have h := jif hc h
    refine j_sub [1, 2, 3, 4, 0, 5, 6, 7, 8, 9, 10] rfl ?_
    exact b_X12_shape_209 a0 K hrw HR k125 hk125 v2 v3 v4 t0 v6 v7 v8 v9 v10 v12 s0 h
  · have h := jit hc h
    refine j_iload (pc' := 193) K dX12_shape_191 7 rfl rfl ?_
    refine j_if_eq (pc' := 196) (tgt := 209) K dX12_shape_193 (by decide) rfl (fun hc => ?_) (fun hc => ?_)
    · have h := jit hc h
      refine j_sub [1, 2, 3, 4, 0, 5, 6, 7, 8, 9, 10] rfl ?_
      exact b_X12_shape_209 a0 K hrw HR k125 hk125 v2 v3 v4 t0 v6 v7 v8 v9 v10 v12 s0 h
    · have h := jif hc h
      refine j_lload (pc' := 198) K dX12_shape_196 10 rfl rfl ?_
      refine j_lload (pc' := 200) K dX12_shape_198 9 rfl rfl ?_
      refine j_lcmp (pc' := 201) K dX12_shape_200 rfl ?_
      refine j_if_le (pc' := 204) (tgt := 209) K dX12_shape_201 (by decide) rfl (fun hc => ?_) (fun hc => ?_)
      · have h := jit hc h
        refine j_sub [1, 2, 3, 4, 0, 5, 6, 7, 8, 9, 10] rfl ?_
        exact b_X12_shape_209 a0 K hrw HR k125 hk125 v2 v3 v4 t0 v6 v7 v8 v9 v10 v12 s0 h
      · have h := jif hc h
        refine j_iload (pc' := 206) K dX12_shape_204 8 rfl rfl ?_
        refine j_goto (tgt := 211) K dX12_shape_206 (by decide) ?_
        refine j_sub [1, 2, 3, 4, 0, 6, 7, 8, 9, 10] rfl ?_
        exact b_X12_shape_211 a0 K hrw HR k125 hk125 v2 v3 v4 t0 v7 v8 v9 v10 v12 v9 s0 h
set_option maxRecDepth 100000 in
set_option maxHeartbeats 4000000 in
theorem b_X12_shape_125 {E : jE} (a0 : Nat → Nat) {res : Int32 × MS} (K : jC E cX12_shape 14 RX12 3) (hrw : jrw E) (HR : jRI E cX12_shape 14 (wM (jg E) a0 (res.2)) (res.1)) : ∀ (n : Nat) (v2 : Int32) (v3 : Int32) (v4 : Int32) (v5 : Int32) (v6 : Int32) (v7 : Int32) (v8 : Int32) (v9 : Int32) (s0 : MS), f_X12_shape_125 n v2 v3 v4 v5 v6 v7 v8 v9 s0 = some res → J E 14 (wM (jg E) a0 s0) 125 [(0, .ref (a0 0)), (2, .int v2), (3, .int v3), (4, .int v4), (5, .int v5), (6, .int v6), (7, .int v7), (8, .int v8), (9, .int v9)] [] := by
  intro n
  induction n with
  | zero => intro _ _ _ _ _ _ _ _ _ h; cases h
  | succ n ih =>
    intro v2 v3 v4 v5 v6 v7 v8 v9 s0 h
    rw [f_X12_shape_125] at h
    refine j_iload (pc' := 127) K dX12_shape_125 8 rfl rfl ?_
    refine j_iload_n (pc' := 128) K dX12_shape_127 rfl 1 rfl rfl ?_
    refine j_icmp_ge (pc' := 131) (tgt := 289) K dX12_shape_128 (by decide) rfl (fun hc => ?_) (fun hc => ?_)
    · have h := jit hc h
      refine j_sub [2, 4, 5, 6] rfl ?_
      exact b_X12_shape_289 a0 K hrw HR v3 v5 v6 v7 s0 h
    · have h := jif hc h
      refine j_aload_n (pc' := 132) K dX12_shape_131 rfl 0 rfl rfl ?_
      refine j_get (pc' := 135) K dX12_shape_132 inX12 0 rfl rfl 8 (by decide) u_4_43 rfl rfl rfl ?_
      refine j_iload (pc' := 137) K dX12_shape_135 3 rfl rfl ?_
      refine j_iload (pc' := 139) K dX12_shape_137 8 rfl rfl ?_
      refine j_iadd (pc' := 140) K dX12_shape_139 rfl ?_
      obtain ⟨hg, h⟩ := jgd_some h
      refine j_lald (pc' := 141) K dX12_shape_140 5 rfl hg rfl ?_
      refine j_lstore (pc' := 143) (lv' := [(10, .long ((M_cell s0) (Int32.toNatClampNeg (v4 + v9)))), (0, .ref (a0 0)), (2, .int v2), (3, .int v3), (4, .int v4), (5, .int v5), (6, .int v6), (7, .int v7), (8, .int v8), (9, .int v9)]) K dX12_shape_141 (by decide) rfl rfl ?_
      refine j_aload_n (pc' := 144) K dX12_shape_143 rfl 1 rfl rfl ?_
      refine j_get (pc' := 147) K dX12_shape_144 inX12 0 rfl rfl 8 (by decide) u_4_43 rfl rfl rfl ?_
      refine j_iload (pc' := 149) K dX12_shape_147 4 rfl rfl ?_
      refine j_iload (pc' := 151) K dX12_shape_149 9 rfl rfl ?_
      refine j_iadd (pc' := 152) K dX12_shape_151 rfl ?_
      refine j_iconst (pc' := 153) (v := (1 : Int32)) K dX12_shape_152 (by decide) rfl ?_
      refine j_iadd (pc' := 154) K dX12_shape_153 rfl ?_
      obtain ⟨hg, h⟩ := jgd_some h
      refine j_lald (pc' := 155) K dX12_shape_154 5 rfl hg rfl ?_
      refine j_lstore (pc' := 157) (lv' := [(12, .long ((M_cell s0) (Int32.toNatClampNeg ((v4 + v9) + (1 : Int32))))), (10, .long ((M_cell s0) (Int32.toNatClampNeg (v4 + v9)))), (0, .ref (a0 0)), (2, .int v2), (3, .int v3), (4, .int v4), (5, .int v5), (6, .int v6), (7, .int v7), (8, .int v8), (9, .int v9)]) K dX12_shape_155 (by decide) rfl rfl ?_
      refine j_lload (pc' := 159) K dX12_shape_157 0 rfl rfl ?_
      refine j_aload_n (pc' := 160) K dX12_shape_159 rfl 2 rfl rfl ?_
      refine j_get (pc' := 163) K dX12_shape_160 inX12 0 rfl rfl 8 (by decide) u_4_43 rfl rfl rfl ?_
      refine j_iload (pc' := 165) K dX12_shape_163 5 rfl rfl ?_
      refine j_iload (pc' := 167) K dX12_shape_165 6 rfl rfl ?_
      refine j_iadd (pc' := 168) K dX12_shape_167 rfl ?_
      obtain ⟨hg, h⟩ := jgd_some h
      refine j_lald (pc' := 169) K dX12_shape_168 5 rfl hg rfl ?_
      refine j_lcmp (pc' := 170) K dX12_shape_169 rfl ?_
      refine j_if_le (pc' := 173) (tgt := 180) K dX12_shape_170 (by decide) rfl (fun hc => ?_) (fun hc => ?_)
      · have h := jit hc h
        refine j_iload (pc' := 182) K dX12_shape_180 6 rfl rfl ?_
        refine j_sub [2, 3, 4, 5, 7, 8, 9, 10, 1, 0] rfl ?_
        exact b_X12_shape_182 a0 K hrw HR (f_X12_shape_125 n) (ih) v2 v3 v4 v6 v7 v8 v9 ((M_cell s0) (Int32.toNatClampNeg (v4 + v9))) ((M_cell s0) (Int32.toNatClampNeg ((v4 + v9) + (1 : Int32)))) v5 s0 h
      · have h := jif hc h
        refine j_iload (pc' := 175) K dX12_shape_173 10 rfl rfl ?_
        refine j_iconst (pc' := 176) (v := (1 : Int32)) K dX12_shape_175 (by decide) rfl ?_
        refine j_iadd (pc' := 177) K dX12_shape_176 rfl ?_
        refine j_goto (tgt := 182) K dX12_shape_177 (by decide) ?_
        refine j_sub [2, 3, 4, 5, 7, 8, 9, 10, 1, 0] rfl ?_
        exact b_X12_shape_182 a0 K hrw HR (f_X12_shape_125 n) (ih) v2 v3 v4 v6 v7 v8 v9 ((M_cell s0) (Int32.toNatClampNeg (v4 + v9))) ((M_cell s0) (Int32.toNatClampNeg ((v4 + v9) + (1 : Int32)))) (v9 + (1 : Int32)) s0 h
set_option maxRecDepth 100000 in
set_option maxHeartbeats 4000000 in
theorem b_X12_shape_100 {E : jE} (a0 : Nat → Nat) {res : Int32 × MS} (K : jC E cX12_shape 14 RX12 3) (hrw : jrw E) (HR : jRI E cX12_shape 14 (wM (jg E) a0 (res.2)) (res.1)) : ∀ (v2 : Int32) (v3 : Int32) (s0 : MS), f_X12_shape_100 v2 v3 s0 = some res → J E 14 (wM (jg E) a0 s0) 100 [(0, .ref (a0 0)), (2, .int v2), (3, .int v3)] [] := by
  intro v2 v3 s0 h
  unfold f_X12_shape_100 at h
  refine j_iconst (pc' := 101) (v := (0 : Int32)) K dX12_shape_100 (by decide) rfl ?_
  refine j_iload_n (pc' := 102) K dX12_shape_101 rfl 1 rfl rfl ?_
  refine j_iconst (pc' := 103) (v := (0 : Int32)) K dX12_shape_102 (by decide) rfl ?_
  obtain ⟨r103, hr103, h⟩ := jbd_some h
  refine j_ro (pc' := 106) K (fun H hP => jrun_S K dX12_shape_103 (M_X12_at (jl E) (jg E) (0 : Int32) v2 (0 : Int32) hr103) u_4_154 u_4_152 u_4_153 u_1_13 ⟨ok_X12_at, by decide, by decide⟩ rfl (Nat.le_of_ble_eq_true rfl) H) [] rfl rfl ?_
  refine j_istore (pc' := 108) (lv' := [(4, .int r103), (0, .ref (a0 0)), (2, .int v2), (3, .int v3)]) K dX12_shape_106 (by decide) rfl rfl ?_
  refine j_iconst (pc' := 109) (v := (0 : Int32)) K dX12_shape_108 (by decide) rfl ?_
  refine j_istore (pc' := 111) (lv' := [(5, .int (0 : Int32)), (4, .int r103), (0, .ref (a0 0)), (2, .int v2), (3, .int v3)]) K dX12_shape_109 (by decide) rfl rfl ?_
  refine j_bipush (pc' := 113) (v := (-4 : Int32)) K dX12_shape_111 (by decide) rfl ?_
  refine j_istore (pc' := 115) (lv' := [(6, .int (-4 : Int32)), (5, .int (0 : Int32)), (4, .int r103), (0, .ref (a0 0)), (2, .int v2), (3, .int v3)]) K dX12_shape_113 (by decide) rfl rfl ?_
  refine j_bipush (pc' := 117) (v := (-4 : Int32)) K dX12_shape_115 (by decide) rfl ?_
  refine j_istore (pc' := 119) (lv' := [(7, .int (-4 : Int32)), (6, .int (-4 : Int32)), (5, .int (0 : Int32)), (4, .int r103), (0, .ref (a0 0)), (2, .int v2), (3, .int v3)]) K dX12_shape_117 (by decide) rfl rfl ?_
  refine j_iconst (pc' := 120) (v := (0 : Int32)) K dX12_shape_119 (by decide) rfl ?_
  refine j_istore (pc' := 122) (lv' := [(8, .int (0 : Int32)), (7, .int (-4 : Int32)), (6, .int (-4 : Int32)), (5, .int (0 : Int32)), (4, .int r103), (0, .ref (a0 0)), (2, .int v2), (3, .int v3)]) K dX12_shape_120 (by decide) rfl rfl ?_
  refine j_iconst (pc' := 123) (v := (0 : Int32)) K dX12_shape_122 (by decide) rfl ?_
  refine j_istore (pc' := 125) (lv' := [(9, .int (0 : Int32)), (8, .int (0 : Int32)), (7, .int (-4 : Int32)), (6, .int (-4 : Int32)), (5, .int (0 : Int32)), (4, .int r103), (0, .ref (a0 0)), (2, .int v2), (3, .int v3)]) K dX12_shape_123 (by decide) rfl rfl ?_
  refine j_sub [6, 7, 8, 5, 4, 3, 2, 1, 0] rfl ?_
  exact b_X12_shape_125 a0 K hrw HR jFU v2 v3 r103 (0 : Int32) (-4 : Int32) (-4 : Int32) (0 : Int32) (0 : Int32) s0 h
set_option maxRecDepth 100000 in
set_option maxHeartbeats 4000000 in
theorem b_X12_shape_94 {E : jE} (a0 : Nat → Nat) {res : Int32 × MS} (K : jC E cX12_shape 14 RX12 3) (hrw : jrw E) (HR : jRI E cX12_shape 14 (wM (jg E) a0 (res.2)) (res.1)) (k43 : Int32 → Int32 → Int32 → MS → Option (Int32 × MS)) (hk43 : ∀ (v2 : Int32) (v3 : Int32) (v4 : Int32) (s0 : MS), k43 v2 v3 v4 s0 = some res → J E 14 (wM (jg E) a0 s0) 43 [(0, .ref (a0 0)), (2, .int v2), (3, .int v3), (4, .int v4)] []) : ∀ (v2 : Int32) (v3 : Int32) (v4 : Int32) (s0 : MS), f_X12_shape_94 k43 v2 v3 v4 s0 = some res → J E 14 (wM (jg E) a0 s0) 94 [(0, .ref (a0 0)), (2, .int v2), (3, .int v3), (4, .int v4)] [] := by
  intro v2 v3 v4 s0 h
  unfold f_X12_shape_94 at h
  refine j_iinc (pc' := 97) (j := 3) (v := (v4 + (1 : Int32))) (lv' := [(4, .int (v4 + (1 : Int32))), (0, .ref (a0 0)), (2, .int v2), (3, .int v3)]) K dX12_shape_94 rfl rfl (by decide) rfl rfl ?_
  refine j_goto (tgt := 43) K dX12_shape_97 (by decide) ?_
  refine j_sub [1, 2, 3, 0] rfl ?_
  exact hk43 v2 v3 (v4 + (1 : Int32)) s0 h
set_option maxRecDepth 100000 in
set_option maxHeartbeats 4000000 in
theorem b_X12_shape_43 {E : jE} (a0 : Nat → Nat) {res : Int32 × MS} (K : jC E cX12_shape 14 RX12 3) (hrw : jrw E) (HR : jRI E cX12_shape 14 (wM (jg E) a0 (res.2)) (res.1)) : ∀ (n : Nat) (v2 : Int32) (v3 : Int32) (v4 : Int32) (s0 : MS), f_X12_shape_43 n v2 v3 v4 s0 = some res → J E 14 (wM (jg E) a0 s0) 43 [(0, .ref (a0 0)), (2, .int v2), (3, .int v3), (4, .int v4)] [] := by
  intro n
  induction n with
  | zero => intro _ _ _ _ h; cases h
  | succ n ih =>
    intro v2 v3 v4 s0 h
    rw [f_X12_shape_43] at h
    refine j_iload (pc' := 45) K dX12_shape_43 3 rfl rfl ?_
    refine j_iload_n (pc' := 46) K dX12_shape_45 rfl 1 rfl rfl ?_
    refine j_icmp_gt (pc' := 49) (tgt := 100) K dX12_shape_46 (by decide) rfl (fun hc => ?_) (fun hc => ?_)
    · have h := jit hc h
      refine j_sub [0, 1, 2] rfl ?_
      exact b_X12_shape_100 a0 K hrw HR v2 v3 s0 h
    · have h := jif hc h
      refine j_aload_n (pc' := 50) K dX12_shape_49 rfl 0 rfl rfl ?_
      refine j_get (pc' := 53) K dX12_shape_50 inX12 0 rfl rfl 9 (by decide) u_4_44 rfl rfl rfl ?_
      refine j_iconst (pc' := 54) (v := (0 : Int32)) K dX12_shape_53 (by decide) rfl ?_
      refine j_iload_n (pc' := 55) K dX12_shape_54 rfl 1 rfl rfl ?_
      refine j_iload (pc' := 57) K dX12_shape_55 3 rfl rfl ?_
      obtain ⟨r57, hr57, h⟩ := jbd_some h
      refine j_ro (pc' := 60) K (fun H hP => jrun_S K dX12_shape_57 (M_X12_at (jl E) (jg E) (0 : Int32) v2 v4 hr57) u_4_154 u_4_152 u_4_153 u_1_13 ⟨ok_X12_at, by decide, by decide⟩ rfl (Nat.le_of_ble_eq_true rfl) H) [] rfl rfl ?_
      obtain ⟨hg, h⟩ := jgd_some h
      refine j_zald (pc' := 61) K dX12_shape_60 6 rfl hg rfl ?_
      refine j_if_ne (pc' := 64) (tgt := 91) K dX12_shape_61 (by decide) rfl (fun hc => ?_) (fun hc => ?_)
      · have h := jif hc h
        refine j_bipush (pc' := 93) (v := (-2 : Int32)) K dX12_shape_91 (by decide) rfl ?_
        obtain rfl := Option.some.inj h
        exact HR _ _ dX12_shape_93
      · have h := jit hc h
        refine j_iload_n (pc' := 65) K dX12_shape_64 rfl 2 rfl rfl ?_
        refine j_iconst (pc' := 66) (v := (2 : Int32)) K dX12_shape_65 (by decide) rfl ?_
        refine j_icmp_ne (pc' := 69) (tgt := 94) K dX12_shape_66 (by decide) rfl (fun hc => ?_) (fun hc => ?_)
        · have h := jif hc h
          refine j_sub [0, 1, 2, 3] rfl ?_
          exact b_X12_shape_94 a0 K hrw HR (f_X12_shape_43 n) (ih) v2 v3 v4 s0 h
        · have h := jit hc h
          refine j_aload_n (pc' := 70) K dX12_shape_69 rfl 0 rfl rfl ?_
          refine j_get (pc' := 73) K dX12_shape_70 inX12 0 rfl rfl 8 (by decide) u_4_43 rfl rfl rfl ?_
          refine j_iconst (pc' := 74) (v := (0 : Int32)) K dX12_shape_73 (by decide) rfl ?_
          refine j_iload_n (pc' := 75) K dX12_shape_74 rfl 1 rfl rfl ?_
          refine j_iload (pc' := 77) K dX12_shape_75 3 rfl rfl ?_
          obtain ⟨r77, hr77, h⟩ := jbd_some h
          refine j_ro (pc' := 80) K (fun H hP => jrun_S K dX12_shape_77 (M_X12_at (jl E) (jg E) (0 : Int32) v2 v4 hr77) u_4_154 u_4_152 u_4_153 u_1_13 ⟨ok_X12_at, by decide, by decide⟩ rfl (Nat.le_of_ble_eq_true rfl) H) [] rfl rfl ?_
          obtain ⟨hg, h⟩ := jgd_some h
          refine j_lald (pc' := 81) K dX12_shape_80 5 rfl hg rfl ?_
          obtain ⟨r81, hr81, h⟩ := jbd_some h
          refine j_ro (pc' := 84) K (fun H hP => jrun_S K dX12_shape_81 (M_X12_size (jl E) (jg E) ((M_cell s0) (Int32.toNatClampNeg r77)) hr81) u_4_164 u_4_162 u_4_163 u_1_13 ⟨ok_X12_size, by decide, by decide⟩ rfl (Nat.le_of_ble_eq_true rfl) H) [] rfl rfl ?_
          refine j_ldc2 (pc' := 87) K dX12_shape_84 u_4_175 rfl ?_
          refine j_lcmp (pc' := 88) K dX12_shape_87 rfl ?_
          refine j_if_le (pc' := 91) (tgt := 94) K dX12_shape_88 (by decide) rfl (fun hc => ?_) (fun hc => ?_)
          · have h := jit hc h
            refine j_sub [0, 1, 2, 3] rfl ?_
            exact b_X12_shape_94 a0 K hrw HR (f_X12_shape_43 n) (ih) v2 v3 v4 s0 h
          · have h := jif hc h
            refine j_bipush (pc' := 93) (v := (-2 : Int32)) K dX12_shape_91 (by decide) rfl ?_
            obtain rfl := Option.some.inj h
            exact HR _ _ dX12_shape_93
set_option maxRecDepth 100000 in
set_option maxHeartbeats 4000000 in
theorem b_X12_shape {E : jE} (a0 : Nat → Nat) {res : Int32 × MS} (K : jC E cX12_shape 14 RX12 3) (hrw : jrw E) (HR : jRI E cX12_shape 14 (wM (jg E) a0 (res.2)) (res.1)) : ∀ (v1 : Int32) (v2 : Int32) (v3 : Int32) (s0 : MS), f_X12_shape v1 v2 v3 s0 = some res → J E 14 (wM (jg E) a0 s0) 0 [(0, .ref (a0 0)), (1, .int v1), (2, .int v2), (3, .int v3)] [] := by
  intro v1 v2 v3 s0 h
  unfold f_X12_shape at h
  refine j_iload_n (pc' := 1) K dX12_shape_0 rfl 1 rfl rfl ?_
  obtain ⟨r1, hr1, h⟩ := jbd_some h
  refine j_ro (pc' := 4) K (fun H hP => jrun_S K dX12_shape_1 (M_X12_isLaw (jl E) (jg E) v1 hr1) u_4_140 u_4_138 u_4_139 u_1_13 ⟨ok_X12_isLaw, by decide, by decide⟩ rfl (Nat.le_of_ble_eq_true rfl) H) [] rfl rfl ?_
  refine j_if_eq (pc' := 7) (tgt := 31) K dX12_shape_4 (by decide) rfl (fun hc => ?_) (fun hc => ?_)
  · have h := jit hc h
    refine j_iconst (pc' := 32) (v := (-1 : Int32)) K dX12_shape_31 (by decide) rfl ?_
    obtain rfl := Option.some.inj h
    exact HR _ _ dX12_shape_32
  · have h := jif hc h
    refine j_iload_n (pc' := 8) K dX12_shape_7 rfl 2 rfl rfl ?_
    refine j_i2l (pc' := 9) K dX12_shape_8 rfl ?_
    refine j_lconst (pc' := 10) (v := (0 : Int64)) K dX12_shape_9 (by decide) rfl ?_
    refine j_ldc2 (pc' := 13) K dX12_shape_10 u_4_146 rfl ?_
    obtain ⟨r13, hr13, h⟩ := jbd_some h
    refine j_ro (pc' := 16) K (fun H hP => jrun_S K dX12_shape_13 (M_X12_in (jl E) (jg E) (Int32.toInt64 v2) (0 : Int64) (24 : Int64) hr13) u_4_107 u_4_105 u_4_106 u_1_13 ⟨ok_X12_in, by decide, by decide⟩ rfl (Nat.le_of_ble_eq_true rfl) H) [] rfl rfl ?_
    refine j_if_eq (pc' := 19) (tgt := 31) K dX12_shape_16 (by decide) rfl (fun hc => ?_) (fun hc => ?_)
    · have h := jit hc h
      refine j_iconst (pc' := 32) (v := (-1 : Int32)) K dX12_shape_31 (by decide) rfl ?_
      obtain rfl := Option.some.inj h
      exact HR _ _ dX12_shape_32
    · have h := jif hc h
      refine j_iload_n (pc' := 20) K dX12_shape_19 rfl 3 rfl rfl ?_
      refine j_i2l (pc' := 21) K dX12_shape_20 rfl ?_
      refine j_lconst (pc' := 22) (v := (0 : Int64)) K dX12_shape_21 (by decide) rfl ?_
      refine j_ldc2 (pc' := 25) K dX12_shape_22 u_4_180 rfl ?_
      obtain ⟨r25, hr25, h⟩ := jbd_some h
      refine j_ro (pc' := 28) K (fun H hP => jrun_S K dX12_shape_25 (M_X12_in (jl E) (jg E) (Int32.toInt64 v3) (0 : Int64) (2 : Int64) hr25) u_4_107 u_4_105 u_4_106 u_1_13 ⟨ok_X12_in, by decide, by decide⟩ rfl (Nat.le_of_ble_eq_true rfl) H) [] rfl rfl ?_
      refine j_if_ne (pc' := 31) (tgt := 33) K dX12_shape_28 (by decide) rfl (fun hc => ?_) (fun hc => ?_)
      · have h := jif hc h
        refine j_aload_n (pc' := 34) K dX12_shape_33 rfl 0 rfl rfl ?_
        refine j_iconst (pc' := 35) (v := (0 : Int32)) K dX12_shape_34 (by decide) rfl ?_
        refine j_iload_n (pc' := 36) K dX12_shape_35 rfl 1 rfl rfl ?_
        refine j_iload_n (pc' := 37) K dX12_shape_36 rfl 2 rfl rfl ?_
        obtain ⟨r37, hr37, h⟩ := jbd_some h
        refine j_rw (pc' := 40) (ws' := (wM (jg E) a0 r37)) K (fun H hP => jrun_V K dX12_shape_37 (M_X12_findRows (jl E) (jg E) a0 (0 : Int32) v1 v2 s0 hr37) u_4_151 u_4_148 u_4_150 u_p_24 u_1_13 ⟨ok_X12_findRows, by decide, by decide⟩ rfl (Nat.le_of_ble_eq_true rfl) 0 rfl rfl H hP) hrw [0, 1, 2, 3, 4, 5, 6, 7, 8, 9, 10, 11, 12, 13, 14, 15, 16] rfl (cl_56_s ..) rfl (cl_56_m ..) (ad_M ..) rfl ?_
        refine j_iconst (pc' := 41) (v := (0 : Int32)) K dX12_shape_40 (by decide) rfl ?_
        refine j_istore (pc' := 43) (lv' := [(4, .int (0 : Int32)), (0, .ref (a0 0)), (1, .int v1), (2, .int v2), (3, .int v3)]) K dX12_shape_41 (by decide) rfl rfl ?_
        refine j_sub [1, 3, 4, 0] rfl ?_
        exact b_X12_shape_43 a0 K hrw HR jFU v2 v3 (0 : Int32) r37 h
      · have h := jit hc h
        refine j_iconst (pc' := 32) (v := (-1 : Int32)) K dX12_shape_31 (by decide) rfl ?_
        obtain rfl := Option.some.inj h
        exact HR _ _ dX12_shape_32
set_option maxRecDepth 100000 in
set_option maxHeartbeats 4000000 in
theorem M_X12_shape (l : Launch) (G : jG) (a0 : Nat → Nat) (v1 : Int32) (v2 : Int32) (v3 : Int32) (s0 : MS) {r : Int32 × MS} (h : f_X12_shape v1 v2 v3 s0 = some r) : MC l yX12_shape cX12_shape 14 (some .int) 3 G (jad (wM G a0 s0)) True (wM G a0 s0) (wM G a0 (r.2)) [.ref (a0 0), .int v1, .int v2, .int v3] (some (.int (r.1))) := by
  refine mc_int (by decide +kernel) (Nat.le_of_ble_eq_true rfl) fun E hl hg hA hrw K HR => ?_
  subst hl
  subst hg
  have hrw : jrw E := by rw [hrw]; trivial
  exact b_X12_shape a0 K hrw HR v1 v2 v3 s0 h
theorem ok_X12_rest : yX12_rest.cls ≠ "java/lang/invoke/MethodHandle" ∧ yX12_rest.cls ≠ "java/lang/invoke/VarHandle" ∧ (parseMethodDescriptor yX12_rest.desc).map (fun d => d.parameters.length) = some 4 := ⟨by decide, by decide, by decide +kernel⟩
def f_X12_rest_223 (v3 : Int32) (v5 : Int32) (s0 : MS) : Option (Int32 × MS) :=
   jgd (v5 + v3) 122 (
   some (((M_rests s0) (Int32.toNatClampNeg (v5 + v3))), s0))
def f_X12_rest_213 (k80 : Int32 → Int32 → Int32 → Int32 → Int32 → Int32 → MS → Option (Int32 × MS)) (v1 : Int32) (v2 : Int32) (v3 : Int32) (v4 : Int32) (v6 : Int32) (v7 : Int32) (s0 : MS) : Option (Int32 × MS) :=
   k80 v1 v2 v3 v4 v7 (v6 + (1 : Int32)) s0
def f_X12_rest_183 (k80 : Int32 → Int32 → Int32 → Int32 → Int32 → Int32 → MS → Option (Int32 × MS)) (k96 : Int32 → Int32 → Int32 → Int32 → Int32 → Int32 → Int32 → Int32 → MS → Option (Int32 × MS)) (v1 : Int32) (v2 : Int32) (v3 : Int32) (v4 : Int32) (v5 : Int32) (v6 : Int32) (v7 : Int32) (v8 : Int32) (t0 : Int32) (t1 : Int32) (s0 : MS) : Option (Int32 × MS) :=
   jnz v4 (
   jnz v4 (
    jgd (v7 + v8) 122 (
     k96 v1 v2 v3 v4 v5 v6 v7 (v8 + (1 : Int32)) (M_rests_s s0 (upd (M_rests s0) (Int32.toNatClampNeg (v7 + v8)) ((((t0 + t1) - (t0 + t1) / v4 * v4) + v4) - (((t0 + t1) - (t0 + t1) / v4 * v4) + v4) / v4 * v4))))))
def f_X12_rest_141 (k80 : Int32 → Int32 → Int32 → Int32 → Int32 → Int32 → MS → Option (Int32 × MS)) (k96 : Int32 → Int32 → Int32 → Int32 → Int32 → Int32 → Int32 → Int32 → MS → Option (Int32 × MS)) (v1 : Int32) (v2 : Int32) (v3 : Int32) (v4 : Int32) (v5 : Int32) (v6 : Int32) (v7 : Int32) (v8 : Int32) (t0 : Int32) (s0 : MS) : Option (Int32 × MS) :=
   if v6 ≤ v8 then
   f_X12_rest_183 k80 k96 v1 v2 v3 v4 v5 v6 v7 v8 t0 (0 : Int32) s0
  else
   jbd (f_X12_comes v1 (3 : Int32) v6 v8 s0) (fun r159 =>
    jnz v4 (
     jgd (v5 + v8) 122 (
      jnz v4 (
       f_X12_rest_183 k80 k96 v1 v2 v3 v4 v5 v6 v7 v8 t0 (((r159 - r159 / v4 * v4) * ((M_rests s0) (Int32.toNatClampNeg (v5 + v8)))) - ((r159 - r159 / v4 * v4) * ((M_rests s0) (Int32.toNatClampNeg (v5 + v8)))) / v4 * v4) s0))))
def f_X12_rest_96 (k80 : Int32 → Int32 → Int32 → Int32 → Int32 → Int32 → MS → Option (Int32 × MS)) : Nat → Int32 → Int32 → Int32 → Int32 → Int32 → Int32 → Int32 → Int32 → MS → Option (Int32 × MS)
  | 0, _, _, _, _, _, _, _, _, _ => none
  | n + 1, v1, v2, v3, v4, v5, v6, v7, v8, s0 =>
   if v6 < v8 then
   f_X12_rest_213 k80 v1 v2 v3 v4 v6 v7 s0
  else
   if v8 ≤ 0 then
    f_X12_rest_141 k80 (f_X12_rest_96 k80 n) v1 v2 v3 v4 v5 v6 v7 v8 (0 : Int32) s0
   else
    jbd (f_X12_comes v1 (0 : Int32) v6 v8 s0) (fun r115 =>
     jnz v4 (
      jgd ((v5 + v8) - (1 : Int32)) 122 (
       jnz v4 (
        f_X12_rest_141 k80 (f_X12_rest_96 k80 n) v1 v2 v3 v4 v5 v6 v7 v8 (((r115 - r115 / v4 * v4) * ((M_rests s0) (Int32.toNatClampNeg ((v5 + v8) - (1 : Int32))))) - ((r115 - r115 / v4 * v4) * ((M_rests s0) (Int32.toNatClampNeg ((v5 + v8) - (1 : Int32))))) / v4 * v4) s0))))
def f_X12_rest_80 : Nat → Int32 → Int32 → Int32 → Int32 → Int32 → Int32 → MS → Option (Int32 × MS)
  | 0, _, _, _, _, _, _, _ => none
  | n + 1, v1, v2, v3, v4, v5, v6, s0 =>
   if v2 < v6 then
   f_X12_rest_223 v3 v5 s0
  else
   f_X12_rest_96 (f_X12_rest_80 n) jFU v1 v2 v3 v4 v5 v6 ((61 : Int32) - v5) (0 : Int32) s0
def f_X12_rest (v1 : Int32) (v2 : Int32) (v3 : Int32) (v4 : Int32) (s0 : MS) : Option (Int32 × MS) :=
   jbd (f_X12_isLaw v1) (fun r1 =>
   if r1 = 0 then
    some ((-1 : Int32), s0)
   else
    jbd (f_X12_in (Int32.toInt64 v2) (0 : Int64) (60 : Int64)) (fun r13 =>
     if r13 = 0 then
      some ((-1 : Int32), s0)
     else
      jbd (f_X12_in (Int32.toInt64 v3) (0 : Int64) (Int32.toInt64 v2)) (fun r24 =>
       if r24 = 0 then
        some ((-1 : Int32), s0)
       else
        jbd (f_X12_in (Int32.toInt64 v4) (2 : Int64) (10000 : Int64)) (fun r39 =>
         if r39 = 0 then
          some ((-1 : Int32), s0)
         else
          jgd (((7 : Int32) * v1) + (6 : Int32)) 28 (
           jnz v4 (
            jnz v4 (
             jgd (0 : Int32) 122 (
              f_X12_rest_80 jFU v1 v2 v3 v4 (0 : Int32) (1 : Int32) (M_rests_s s0 (upd (M_rests s0) (Int32.toNatClampNeg (0 : Int32)) (((((M_law s0) (Int32.toNatClampNeg (((7 : Int32) * v1) + (6 : Int32)))) - ((M_law s0) (Int32.toNatClampNeg (((7 : Int32) * v1) + (6 : Int32)))) / v4 * v4) + v4) - ((((M_law s0) (Int32.toNatClampNeg (((7 : Int32) * v1) + (6 : Int32)))) - ((M_law s0) (Int32.toNatClampNeg (((7 : Int32) * v1) + (6 : Int32)))) / v4 * v4) + v4) / v4 * v4)))))))))))
set_option maxRecDepth 100000 in
set_option maxHeartbeats 4000000 in
theorem b_X12_rest_223 {E : jE} (a0 : Nat → Nat) {res : Int32 × MS} (K : jC E cX12_rest 10 RX12 2) (hrw : jrw E) (HR : jRI E cX12_rest 10 (wM (jg E) a0 (res.2)) (res.1)) : ∀ (v3 : Int32) (v5 : Int32) (s0 : MS), f_X12_rest_223 v3 v5 s0 = some res → J E 10 (wM (jg E) a0 s0) 223 [(0, .ref (a0 0)), (3, .int v3), (5, .int v5)] [] := by
  intro v3 v5 s0 h
  unfold f_X12_rest_223 at h
  refine j_aload_n (pc' := 224) K dX12_rest_223 rfl 0 rfl rfl ?_
  refine j_get (pc' := 227) K dX12_rest_224 inX12 0 rfl rfl 10 (by decide) u_4_45 rfl rfl rfl ?_
  refine j_iload (pc' := 229) K dX12_rest_227 2 rfl rfl ?_
  refine j_iload_n (pc' := 230) K dX12_rest_229 rfl 1 rfl rfl ?_
  refine j_iadd (pc' := 231) K dX12_rest_230 rfl ?_
  obtain ⟨hg, h⟩ := jgd_some h
  refine j_iald (pc' := 232) K dX12_rest_231 7 rfl hg rfl ?_
  obtain rfl := Option.some.inj h
  exact HR _ _ dX12_rest_232
set_option maxRecDepth 100000 in
set_option maxHeartbeats 4000000 in
theorem b_X12_rest_213 {E : jE} (a0 : Nat → Nat) {res : Int32 × MS} (K : jC E cX12_rest 10 RX12 2) (hrw : jrw E) (HR : jRI E cX12_rest 10 (wM (jg E) a0 (res.2)) (res.1)) (k80 : Int32 → Int32 → Int32 → Int32 → Int32 → Int32 → MS → Option (Int32 × MS)) (hk80 : ∀ (v1 : Int32) (v2 : Int32) (v3 : Int32) (v4 : Int32) (v5 : Int32) (v6 : Int32) (s0 : MS), k80 v1 v2 v3 v4 v5 v6 s0 = some res → J E 10 (wM (jg E) a0 s0) 80 [(0, .ref (a0 0)), (1, .int v1), (2, .int v2), (3, .int v3), (4, .int v4), (5, .int v5), (6, .int v6)] []) : ∀ (v1 : Int32) (v2 : Int32) (v3 : Int32) (v4 : Int32) (v6 : Int32) (v7 : Int32) (s0 : MS), f_X12_rest_213 k80 v1 v2 v3 v4 v6 v7 s0 = some res → J E 10 (wM (jg E) a0 s0) 213 [(0, .ref (a0 0)), (1, .int v1), (2, .int v2), (3, .int v3), (4, .int v4), (6, .int v6), (7, .int v7)] [] := by
  intro v1 v2 v3 v4 v6 v7 s0 h
  unfold f_X12_rest_213 at h
  refine j_iload (pc' := 215) K dX12_rest_213 6 rfl rfl ?_
  refine j_istore (pc' := 217) (lv' := [(5, .int v7), (0, .ref (a0 0)), (1, .int v1), (2, .int v2), (3, .int v3), (4, .int v4), (6, .int v6), (7, .int v7)]) K dX12_rest_215 (by decide) rfl rfl ?_
  refine j_iinc (pc' := 220) (j := 6) (v := (v6 + (1 : Int32))) (lv' := [(6, .int (v6 + (1 : Int32))), (5, .int v7), (0, .ref (a0 0)), (1, .int v1), (2, .int v2), (3, .int v3), (4, .int v4), (7, .int v7)]) K dX12_rest_217 rfl rfl (by decide) rfl rfl ?_
  refine j_goto (tgt := 80) K dX12_rest_220 (by decide) ?_
  refine j_sub [2, 3, 4, 5, 6, 1, 0] rfl ?_
  exact hk80 v1 v2 v3 v4 v7 (v6 + (1 : Int32)) s0 h
set_option maxRecDepth 100000 in
set_option maxHeartbeats 4000000 in
theorem b_X12_rest_183 {E : jE} (a0 : Nat → Nat) {res : Int32 × MS} (K : jC E cX12_rest 10 RX12 2) (hrw : jrw E) (HR : jRI E cX12_rest 10 (wM (jg E) a0 (res.2)) (res.1)) (k80 : Int32 → Int32 → Int32 → Int32 → Int32 → Int32 → MS → Option (Int32 × MS)) (k96 : Int32 → Int32 → Int32 → Int32 → Int32 → Int32 → Int32 → Int32 → MS → Option (Int32 × MS)) (hk80 : ∀ (v1 : Int32) (v2 : Int32) (v3 : Int32) (v4 : Int32) (v5 : Int32) (v6 : Int32) (s0 : MS), k80 v1 v2 v3 v4 v5 v6 s0 = some res → J E 10 (wM (jg E) a0 s0) 80 [(0, .ref (a0 0)), (1, .int v1), (2, .int v2), (3, .int v3), (4, .int v4), (5, .int v5), (6, .int v6)] []) (hk96 : ∀ (v1 : Int32) (v2 : Int32) (v3 : Int32) (v4 : Int32) (v5 : Int32) (v6 : Int32) (v7 : Int32) (v8 : Int32) (s0 : MS), k96 v1 v2 v3 v4 v5 v6 v7 v8 s0 = some res → J E 10 (wM (jg E) a0 s0) 96 [(0, .ref (a0 0)), (1, .int v1), (2, .int v2), (3, .int v3), (4, .int v4), (5, .int v5), (6, .int v6), (7, .int v7), (8, .int v8)] []) : ∀ (v1 : Int32) (v2 : Int32) (v3 : Int32) (v4 : Int32) (v5 : Int32) (v6 : Int32) (v7 : Int32) (v8 : Int32) (t0 : Int32) (t1 : Int32) (s0 : MS), f_X12_rest_183 k80 k96 v1 v2 v3 v4 v5 v6 v7 v8 t0 t1 s0 = some res → J E 10 (wM (jg E) a0 s0) 183 [(0, .ref (a0 0)), (1, .int v1), (2, .int v2), (3, .int v3), (4, .int v4), (5, .int v5), (6, .int v6), (7, .int v7), (8, .int v8)] [.int t1, .int t0] := by
  intro v1 v2 v3 v4 v5 v6 v7 v8 t0 t1 s0 h
  unfold f_X12_rest_183 at h
  refine j_iadd (pc' := 184) K dX12_rest_183 rfl ?_
  refine j_istore (pc' := 186) (lv' := [(9, .int (t0 + t1)), (0, .ref (a0 0)), (1, .int v1), (2, .int v2), (3, .int v3), (4, .int v4), (5, .int v5), (6, .int v6), (7, .int v7), (8, .int v8)]) K dX12_rest_184 (by decide) rfl rfl ?_
  refine j_aload_n (pc' := 187) K dX12_rest_186 rfl 1 rfl rfl ?_
  refine j_get (pc' := 190) K dX12_rest_187 inX12 0 rfl rfl 10 (by decide) u_4_45 rfl rfl rfl ?_
  refine j_iload (pc' := 192) K dX12_rest_190 8 rfl rfl ?_
  refine j_iload (pc' := 194) K dX12_rest_192 9 rfl rfl ?_
  refine j_iadd (pc' := 195) K dX12_rest_194 rfl ?_
  refine j_iload (pc' := 197) K dX12_rest_195 0 rfl rfl ?_
  refine j_iload (pc' := 199) K dX12_rest_197 5 rfl rfl ?_
  obtain ⟨hg, h⟩ := jnz_some h
  refine j_irem (pc' := 200) K dX12_rest_199 hg rfl ?_
  refine j_iload (pc' := 202) K dX12_rest_200 5 rfl rfl ?_
  refine j_iadd (pc' := 203) K dX12_rest_202 rfl ?_
  refine j_iload (pc' := 205) K dX12_rest_203 5 rfl rfl ?_
  obtain ⟨hg, h⟩ := jnz_some h
  refine j_irem (pc' := 206) K dX12_rest_205 hg rfl ?_
  obtain ⟨hg, h⟩ := jgd_some h
  refine j_iast (pc' := 207) (ws' := (wM (jg E) a0 (M_rests_s s0 (upd (M_rests s0) (Int32.toNatClampNeg (v7 + v8)) ((((t0 + t1) - (t0 + t1) / v4 * v4) + v4) - (((t0 + t1) - (t0 + t1) / v4 * v4) + v4) / v4 * v4))))) K dX12_rest_206 hrw 7 rfl hg (st_M_7 ..) rfl ?_
  refine j_iinc (pc' := 210) (j := 9) (v := (v8 + (1 : Int32))) (lv' := [(8, .int (v8 + (1 : Int32))), (9, .int (t0 + t1)), (0, .ref (a0 0)), (1, .int v1), (2, .int v2), (3, .int v3), (4, .int v4), (5, .int v5), (6, .int v6), (7, .int v7)]) K dX12_rest_207 rfl rfl (by decide) rfl rfl ?_
  refine j_goto (tgt := 96) K dX12_rest_210 (by decide) ?_
  refine j_sub [2, 3, 4, 5, 6, 7, 8, 9, 0] rfl ?_
  exact hk96 v1 v2 v3 v4 v5 v6 v7 (v8 + (1 : Int32)) (M_rests_s s0 (upd (M_rests s0) (Int32.toNatClampNeg (v7 + v8)) ((((t0 + t1) - (t0 + t1) / v4 * v4) + v4) - (((t0 + t1) - (t0 + t1) / v4 * v4) + v4) / v4 * v4))) h
set_option maxRecDepth 100000 in
set_option maxHeartbeats 4000000 in
theorem b_X12_rest_141 {E : jE} (a0 : Nat → Nat) {res : Int32 × MS} (K : jC E cX12_rest 10 RX12 2) (hrw : jrw E) (HR : jRI E cX12_rest 10 (wM (jg E) a0 (res.2)) (res.1)) (k80 : Int32 → Int32 → Int32 → Int32 → Int32 → Int32 → MS → Option (Int32 × MS)) (k96 : Int32 → Int32 → Int32 → Int32 → Int32 → Int32 → Int32 → Int32 → MS → Option (Int32 × MS)) (hk80 : ∀ (v1 : Int32) (v2 : Int32) (v3 : Int32) (v4 : Int32) (v5 : Int32) (v6 : Int32) (s0 : MS), k80 v1 v2 v3 v4 v5 v6 s0 = some res → J E 10 (wM (jg E) a0 s0) 80 [(0, .ref (a0 0)), (1, .int v1), (2, .int v2), (3, .int v3), (4, .int v4), (5, .int v5), (6, .int v6)] []) (hk96 : ∀ (v1 : Int32) (v2 : Int32) (v3 : Int32) (v4 : Int32) (v5 : Int32) (v6 : Int32) (v7 : Int32) (v8 : Int32) (s0 : MS), k96 v1 v2 v3 v4 v5 v6 v7 v8 s0 = some res → J E 10 (wM (jg E) a0 s0) 96 [(0, .ref (a0 0)), (1, .int v1), (2, .int v2), (3, .int v3), (4, .int v4), (5, .int v5), (6, .int v6), (7, .int v7), (8, .int v8)] []) : ∀ (v1 : Int32) (v2 : Int32) (v3 : Int32) (v4 : Int32) (v5 : Int32) (v6 : Int32) (v7 : Int32) (v8 : Int32) (t0 : Int32) (s0 : MS), f_X12_rest_141 k80 k96 v1 v2 v3 v4 v5 v6 v7 v8 t0 s0 = some res → J E 10 (wM (jg E) a0 s0) 141 [(0, .ref (a0 0)), (1, .int v1), (2, .int v2), (3, .int v3), (4, .int v4), (5, .int v5), (6, .int v6), (7, .int v7), (8, .int v8)] [.int t0] := by
  intro v1 v2 v3 v4 v5 v6 v7 v8 t0 s0 h
  unfold f_X12_rest_141 at h
  refine j_istore (pc' := 143) (lv' := [(9, .int t0), (0, .ref (a0 0)), (1, .int v1), (2, .int v2), (3, .int v3), (4, .int v4), (5, .int v5), (6, .int v6), (7, .int v7), (8, .int v8)]) K dX12_rest_141 (by decide) rfl rfl ?_
  refine j_iload (pc' := 145) K dX12_rest_143 0 rfl rfl ?_
  refine j_iload (pc' := 147) K dX12_rest_145 9 rfl rfl ?_
  refine j_iload (pc' := 149) K dX12_rest_147 7 rfl rfl ?_
  refine j_icmp_ge (pc' := 152) (tgt := 182) K dX12_rest_149 (by decide) rfl (fun hc => ?_) (fun hc => ?_)
  · have h := jit hc h
    refine j_iconst (pc' := 183) (v := (0 : Int32)) K dX12_rest_182 (by decide) rfl ?_
    refine j_sub [1, 2, 3, 4, 5, 6, 7, 8, 9] rfl ?_
    exact b_X12_rest_183 a0 K hrw HR k80 k96 hk80 hk96 v1 v2 v3 v4 v5 v6 v7 v8 t0 (0 : Int32) s0 h
  · have h := jif hc h
    refine j_aload_n (pc' := 153) K dX12_rest_152 rfl 1 rfl rfl ?_
    refine j_iload_n (pc' := 154) K dX12_rest_153 rfl 2 rfl rfl ?_
    refine j_iconst (pc' := 155) (v := (3 : Int32)) K dX12_rest_154 (by decide) rfl ?_
    refine j_iload (pc' := 157) K dX12_rest_155 7 rfl rfl ?_
    refine j_iload (pc' := 159) K dX12_rest_157 9 rfl rfl ?_
    obtain ⟨r159, hr159, h⟩ := jbd_some h
    refine j_ro (pc' := 162) K (fun H hP => jrun_V K dX12_rest_159 (M_X12_comes (jl E) (jg E) a0 v1 (3 : Int32) v6 v8 s0 hr159) u_4_158 u_4_155 u_4_157 u_p_25 u_1_13 ⟨ok_X12_comes, by decide, by decide⟩ rfl (Nat.le_of_ble_eq_true rfl) 0 rfl rfl H hP) [0, 1, 2, 3, 4, 5, 6, 7, 8, 9, 10, 11, 12, 13, 14, 15, 16] (cl_55_f ..) rfl ?_
    refine j_iload (pc' := 164) K dX12_rest_162 5 rfl rfl ?_
    obtain ⟨hg, h⟩ := jnz_some h
    refine j_irem (pc' := 165) K dX12_rest_164 hg rfl ?_
    refine j_aload_n (pc' := 166) K dX12_rest_165 rfl 1 rfl rfl ?_
    refine j_get (pc' := 169) K dX12_rest_166 inX12 0 rfl rfl 10 (by decide) u_4_45 rfl rfl rfl ?_
    refine j_iload (pc' := 171) K dX12_rest_169 6 rfl rfl ?_
    refine j_iload (pc' := 173) K dX12_rest_171 9 rfl rfl ?_
    refine j_iadd (pc' := 174) K dX12_rest_173 rfl ?_
    obtain ⟨hg, h⟩ := jgd_some h
    refine j_iald (pc' := 175) K dX12_rest_174 7 rfl hg rfl ?_
    refine j_imul (pc' := 176) K dX12_rest_175 rfl ?_
    refine j_iload (pc' := 178) K dX12_rest_176 5 rfl rfl ?_
    obtain ⟨hg, h⟩ := jnz_some h
    refine j_irem (pc' := 179) K dX12_rest_178 hg rfl ?_
    refine j_goto (tgt := 183) K dX12_rest_179 (by decide) ?_
    refine j_sub [1, 2, 3, 4, 5, 6, 7, 8, 9] rfl ?_
    exact b_X12_rest_183 a0 K hrw HR k80 k96 hk80 hk96 v1 v2 v3 v4 v5 v6 v7 v8 t0 (((r159 - r159 / v4 * v4) * ((M_rests s0) (Int32.toNatClampNeg (v5 + v8)))) - ((r159 - r159 / v4 * v4) * ((M_rests s0) (Int32.toNatClampNeg (v5 + v8)))) / v4 * v4) s0 h
set_option maxRecDepth 100000 in
set_option maxHeartbeats 4000000 in
theorem b_X12_rest_96 {E : jE} (a0 : Nat → Nat) {res : Int32 × MS} (K : jC E cX12_rest 10 RX12 2) (hrw : jrw E) (HR : jRI E cX12_rest 10 (wM (jg E) a0 (res.2)) (res.1)) (k80 : Int32 → Int32 → Int32 → Int32 → Int32 → Int32 → MS → Option (Int32 × MS)) (hk80 : ∀ (v1 : Int32) (v2 : Int32) (v3 : Int32) (v4 : Int32) (v5 : Int32) (v6 : Int32) (s0 : MS), k80 v1 v2 v3 v4 v5 v6 s0 = some res → J E 10 (wM (jg E) a0 s0) 80 [(0, .ref (a0 0)), (1, .int v1), (2, .int v2), (3, .int v3), (4, .int v4), (5, .int v5), (6, .int v6)] []) : ∀ (n : Nat) (v1 : Int32) (v2 : Int32) (v3 : Int32) (v4 : Int32) (v5 : Int32) (v6 : Int32) (v7 : Int32) (v8 : Int32) (s0 : MS), f_X12_rest_96 k80 n v1 v2 v3 v4 v5 v6 v7 v8 s0 = some res → J E 10 (wM (jg E) a0 s0) 96 [(0, .ref (a0 0)), (1, .int v1), (2, .int v2), (3, .int v3), (4, .int v4), (5, .int v5), (6, .int v6), (7, .int v7), (8, .int v8)] [] := by
  intro n
  induction n with
  | zero => intro _ _ _ _ _ _ _ _ _ h; cases h
  | succ n ih =>
    intro v1 v2 v3 v4 v5 v6 v7 v8 s0 h
    rw [f_X12_rest_96] at h
    refine j_iload (pc' := 98) K dX12_rest_96 8 rfl rfl ?_
    refine j_iload (pc' := 100) K dX12_rest_98 6 rfl rfl ?_
    refine j_icmp_gt (pc' := 103) (tgt := 213) K dX12_rest_100 (by decide) rfl (fun hc => ?_) (fun hc => ?_)
    · have h := jit hc h
      refine j_sub [0, 1, 2, 3, 4, 6, 7] rfl ?_
      exact b_X12_rest_213 a0 K hrw HR k80 hk80 v1 v2 v3 v4 v6 v7 s0 h
    · have h := jif hc h
      refine j_iload (pc' := 105) K dX12_rest_103 8 rfl rfl ?_
      refine j_if_le (pc' := 108) (tgt := 140) K dX12_rest_105 (by decide) rfl (fun hc => ?_) (fun hc => ?_)
      · have h := jit hc h
        refine j_iconst (pc' := 141) (v := (0 : Int32)) K dX12_rest_140 (by decide) rfl ?_
        refine j_sub [0, 1, 2, 3, 4, 5, 6, 7, 8] rfl ?_
        exact b_X12_rest_141 a0 K hrw HR k80 (f_X12_rest_96 k80 n) hk80 (ih) v1 v2 v3 v4 v5 v6 v7 v8 (0 : Int32) s0 h
      · have h := jif hc h
        refine j_aload_n (pc' := 109) K dX12_rest_108 rfl 0 rfl rfl ?_
        refine j_iload_n (pc' := 110) K dX12_rest_109 rfl 1 rfl rfl ?_
        refine j_iconst (pc' := 111) (v := (0 : Int32)) K dX12_rest_110 (by decide) rfl ?_
        refine j_iload (pc' := 113) K dX12_rest_111 6 rfl rfl ?_
        refine j_iload (pc' := 115) K dX12_rest_113 8 rfl rfl ?_
        obtain ⟨r115, hr115, h⟩ := jbd_some h
        refine j_ro (pc' := 118) K (fun H hP => jrun_V K dX12_rest_115 (M_X12_comes (jl E) (jg E) a0 v1 (0 : Int32) v6 v8 s0 hr115) u_4_158 u_4_155 u_4_157 u_p_25 u_1_13 ⟨ok_X12_comes, by decide, by decide⟩ rfl (Nat.le_of_ble_eq_true rfl) 0 rfl rfl H hP) [0, 1, 2, 3, 4, 5, 6, 7, 8, 9, 10, 11, 12, 13, 14, 15, 16] (cl_55_f ..) rfl ?_
        refine j_iload (pc' := 120) K dX12_rest_118 4 rfl rfl ?_
        obtain ⟨hg, h⟩ := jnz_some h
        refine j_irem (pc' := 121) K dX12_rest_120 hg rfl ?_
        refine j_aload_n (pc' := 122) K dX12_rest_121 rfl 0 rfl rfl ?_
        refine j_get (pc' := 125) K dX12_rest_122 inX12 0 rfl rfl 10 (by decide) u_4_45 rfl rfl rfl ?_
        refine j_iload (pc' := 127) K dX12_rest_125 5 rfl rfl ?_
        refine j_iload (pc' := 129) K dX12_rest_127 8 rfl rfl ?_
        refine j_iadd (pc' := 130) K dX12_rest_129 rfl ?_
        refine j_iconst (pc' := 131) (v := (1 : Int32)) K dX12_rest_130 (by decide) rfl ?_
        refine j_isub (pc' := 132) K dX12_rest_131 rfl ?_
        obtain ⟨hg, h⟩ := jgd_some h
        refine j_iald (pc' := 133) K dX12_rest_132 7 rfl hg rfl ?_
        refine j_imul (pc' := 134) K dX12_rest_133 rfl ?_
        refine j_iload (pc' := 136) K dX12_rest_134 4 rfl rfl ?_
        obtain ⟨hg, h⟩ := jnz_some h
        refine j_irem (pc' := 137) K dX12_rest_136 hg rfl ?_
        refine j_goto (tgt := 141) K dX12_rest_137 (by decide) ?_
        refine j_sub [0, 1, 2, 3, 4, 5, 6, 7, 8] rfl ?_
        exact b_X12_rest_141 a0 K hrw HR k80 (f_X12_rest_96 k80 n) hk80 (ih) v1 v2 v3 v4 v5 v6 v7 v8 (((r115 - r115 / v4 * v4) * ((M_rests s0) (Int32.toNatClampNeg ((v5 + v8) - (1 : Int32))))) - ((r115 - r115 / v4 * v4) * ((M_rests s0) (Int32.toNatClampNeg ((v5 + v8) - (1 : Int32))))) / v4 * v4) s0 h
set_option maxRecDepth 100000 in
set_option maxHeartbeats 4000000 in
theorem b_X12_rest_80 {E : jE} (a0 : Nat → Nat) {res : Int32 × MS} (K : jC E cX12_rest 10 RX12 2) (hrw : jrw E) (HR : jRI E cX12_rest 10 (wM (jg E) a0 (res.2)) (res.1)) : ∀ (n : Nat) (v1 : Int32) (v2 : Int32) (v3 : Int32) (v4 : Int32) (v5 : Int32) (v6 : Int32) (s0 : MS), f_X12_rest_80 n v1 v2 v3 v4 v5 v6 s0 = some res → J E 10 (wM (jg E) a0 s0) 80 [(0, .ref (a0 0)), (1, .int v1), (2, .int v2), (3, .int v3), (4, .int v4), (5, .int v5), (6, .int v6)] [] := by
  intro n
  induction n with
  | zero => intro _ _ _ _ _ _ _ h; cases h
  | succ n ih =>
    intro v1 v2 v3 v4 v5 v6 s0 h
    rw [f_X12_rest_80] at h
    refine j_iload (pc' := 82) K dX12_rest_80 6 rfl rfl ?_
    refine j_iload_n (pc' := 83) K dX12_rest_82 rfl 2 rfl rfl ?_
    refine j_icmp_gt (pc' := 86) (tgt := 223) K dX12_rest_83 (by decide) rfl (fun hc => ?_) (fun hc => ?_)
    · have h := jit hc h
      refine j_sub [0, 3, 5] rfl ?_
      exact b_X12_rest_223 a0 K hrw HR v3 v5 s0 h
    · have h := jif hc h
      refine j_bipush (pc' := 88) (v := (61 : Int32)) K dX12_rest_86 (by decide) rfl ?_
      refine j_iload (pc' := 90) K dX12_rest_88 5 rfl rfl ?_
      refine j_isub (pc' := 91) K dX12_rest_90 rfl ?_
      refine j_istore (pc' := 93) (lv' := [(7, .int ((61 : Int32) - v5)), (0, .ref (a0 0)), (1, .int v1), (2, .int v2), (3, .int v3), (4, .int v4), (5, .int v5), (6, .int v6)]) K dX12_rest_91 (by decide) rfl rfl ?_
      refine j_iconst (pc' := 94) (v := (0 : Int32)) K dX12_rest_93 (by decide) rfl ?_
      refine j_istore (pc' := 96) (lv' := [(8, .int (0 : Int32)), (7, .int ((61 : Int32) - v5)), (0, .ref (a0 0)), (1, .int v1), (2, .int v2), (3, .int v3), (4, .int v4), (5, .int v5), (6, .int v6)]) K dX12_rest_94 (by decide) rfl rfl ?_
      refine j_sub [2, 3, 4, 5, 6, 7, 8, 1, 0] rfl ?_
      exact b_X12_rest_96 a0 K hrw HR (f_X12_rest_80 n) (ih) jFU v1 v2 v3 v4 v5 v6 ((61 : Int32) - v5) (0 : Int32) s0 h
set_option maxRecDepth 100000 in
set_option maxHeartbeats 4000000 in
theorem b_X12_rest {E : jE} (a0 : Nat → Nat) {res : Int32 × MS} (K : jC E cX12_rest 10 RX12 2) (hrw : jrw E) (HR : jRI E cX12_rest 10 (wM (jg E) a0 (res.2)) (res.1)) : ∀ (v1 : Int32) (v2 : Int32) (v3 : Int32) (v4 : Int32) (s0 : MS), f_X12_rest v1 v2 v3 v4 s0 = some res → J E 10 (wM (jg E) a0 s0) 0 [(0, .ref (a0 0)), (1, .int v1), (2, .int v2), (3, .int v3), (4, .int v4)] [] := by
  intro v1 v2 v3 v4 s0 h
  unfold f_X12_rest at h
  refine j_iload_n (pc' := 1) K dX12_rest_0 rfl 1 rfl rfl ?_
  obtain ⟨r1, hr1, h⟩ := jbd_some h
  refine j_ro (pc' := 4) K (fun H hP => jrun_S K dX12_rest_1 (M_X12_isLaw (jl E) (jg E) v1 hr1) u_4_140 u_4_138 u_4_139 u_1_13 ⟨ok_X12_isLaw, by decide, by decide⟩ rfl (Nat.le_of_ble_eq_true rfl) H) [] rfl rfl ?_
  refine j_if_eq (pc' := 7) (tgt := 45) K dX12_rest_4 (by decide) rfl (fun hc => ?_) (fun hc => ?_)
  · have h := jit hc h
    refine j_iconst (pc' := 46) (v := (-1 : Int32)) K dX12_rest_45 (by decide) rfl ?_
    obtain rfl := Option.some.inj h
    exact HR _ _ dX12_rest_46
  · have h := jif hc h
    refine j_iload_n (pc' := 8) K dX12_rest_7 rfl 2 rfl rfl ?_
    refine j_i2l (pc' := 9) K dX12_rest_8 rfl ?_
    refine j_lconst (pc' := 10) (v := (0 : Int64)) K dX12_rest_9 (by decide) rfl ?_
    refine j_ldc2 (pc' := 13) K dX12_rest_10 u_4_185 rfl ?_
    obtain ⟨r13, hr13, h⟩ := jbd_some h
    refine j_ro (pc' := 16) K (fun H hP => jrun_S K dX12_rest_13 (M_X12_in (jl E) (jg E) (Int32.toInt64 v2) (0 : Int64) (60 : Int64) hr13) u_4_107 u_4_105 u_4_106 u_1_13 ⟨ok_X12_in, by decide, by decide⟩ rfl (Nat.le_of_ble_eq_true rfl) H) [] rfl rfl ?_
    refine j_if_eq (pc' := 19) (tgt := 45) K dX12_rest_16 (by decide) rfl (fun hc => ?_) (fun hc => ?_)
    · have h := jit hc h
      refine j_iconst (pc' := 46) (v := (-1 : Int32)) K dX12_rest_45 (by decide) rfl ?_
      obtain rfl := Option.some.inj h
      exact HR _ _ dX12_rest_46
    · have h := jif hc h
      refine j_iload_n (pc' := 20) K dX12_rest_19 rfl 3 rfl rfl ?_
      refine j_i2l (pc' := 21) K dX12_rest_20 rfl ?_
      refine j_lconst (pc' := 22) (v := (0 : Int64)) K dX12_rest_21 (by decide) rfl ?_
      refine j_iload_n (pc' := 23) K dX12_rest_22 rfl 2 rfl rfl ?_
      refine j_i2l (pc' := 24) K dX12_rest_23 rfl ?_
      obtain ⟨r24, hr24, h⟩ := jbd_some h
      refine j_ro (pc' := 27) K (fun H hP => jrun_S K dX12_rest_24 (M_X12_in (jl E) (jg E) (Int32.toInt64 v3) (0 : Int64) (Int32.toInt64 v2) hr24) u_4_107 u_4_105 u_4_106 u_1_13 ⟨ok_X12_in, by decide, by decide⟩ rfl (Nat.le_of_ble_eq_true rfl) H) [] rfl rfl ?_
      refine j_if_eq (pc' := 30) (tgt := 45) K dX12_rest_27 (by decide) rfl (fun hc => ?_) (fun hc => ?_)
      · have h := jit hc h
        refine j_iconst (pc' := 46) (v := (-1 : Int32)) K dX12_rest_45 (by decide) rfl ?_
        obtain rfl := Option.some.inj h
        exact HR _ _ dX12_rest_46
      · have h := jif hc h
        refine j_iload (pc' := 32) K dX12_rest_30 4 rfl rfl ?_
        refine j_i2l (pc' := 33) K dX12_rest_32 rfl ?_
        refine j_ldc2 (pc' := 36) K dX12_rest_33 u_4_180 rfl ?_
        refine j_ldc2 (pc' := 39) K dX12_rest_36 u_4_186 rfl ?_
        obtain ⟨r39, hr39, h⟩ := jbd_some h
        refine j_ro (pc' := 42) K (fun H hP => jrun_S K dX12_rest_39 (M_X12_in (jl E) (jg E) (Int32.toInt64 v4) (2 : Int64) (10000 : Int64) hr39) u_4_107 u_4_105 u_4_106 u_1_13 ⟨ok_X12_in, by decide, by decide⟩ rfl (Nat.le_of_ble_eq_true rfl) H) [] rfl rfl ?_
        refine j_if_ne (pc' := 45) (tgt := 47) K dX12_rest_42 (by decide) rfl (fun hc => ?_) (fun hc => ?_)
        · have h := jif hc h
          refine j_iconst (pc' := 48) (v := (0 : Int32)) K dX12_rest_47 (by decide) rfl ?_
          refine j_istore (pc' := 50) (lv' := [(5, .int (0 : Int32)), (0, .ref (a0 0)), (1, .int v1), (2, .int v2), (3, .int v3), (4, .int v4)]) K dX12_rest_48 (by decide) rfl rfl ?_
          refine j_aload_n (pc' := 51) K dX12_rest_50 rfl 1 rfl rfl ?_
          refine j_get (pc' := 54) K dX12_rest_51 inX12 0 rfl rfl 10 (by decide) u_4_45 rfl rfl rfl ?_
          refine j_iconst (pc' := 55) (v := (0 : Int32)) K dX12_rest_54 (by decide) rfl ?_
          refine j_aload_n (pc' := 56) K dX12_rest_55 rfl 1 rfl rfl ?_
          refine j_get (pc' := 59) K dX12_rest_56 inX12 0 rfl rfl 6 (by decide) u_4_41 rfl rfl rfl ?_
          refine j_bipush (pc' := 61) (v := (7 : Int32)) K dX12_rest_59 (by decide) rfl ?_
          refine j_iload_n (pc' := 62) K dX12_rest_61 rfl 2 rfl rfl ?_
          refine j_imul (pc' := 63) K dX12_rest_62 rfl ?_
          refine j_bipush (pc' := 65) (v := (6 : Int32)) K dX12_rest_63 (by decide) rfl ?_
          refine j_iadd (pc' := 66) K dX12_rest_65 rfl ?_
          obtain ⟨hg, h⟩ := jgd_some h
          refine j_iald (pc' := 67) K dX12_rest_66 3 rfl hg rfl ?_
          refine j_iload (pc' := 69) K dX12_rest_67 5 rfl rfl ?_
          obtain ⟨hg, h⟩ := jnz_some h
          refine j_irem (pc' := 70) K dX12_rest_69 hg rfl ?_
          refine j_iload (pc' := 72) K dX12_rest_70 5 rfl rfl ?_
          refine j_iadd (pc' := 73) K dX12_rest_72 rfl ?_
          refine j_iload (pc' := 75) K dX12_rest_73 5 rfl rfl ?_
          obtain ⟨hg, h⟩ := jnz_some h
          refine j_irem (pc' := 76) K dX12_rest_75 hg rfl ?_
          obtain ⟨hg, h⟩ := jgd_some h
          refine j_iast (pc' := 77) (ws' := (wM (jg E) a0 (M_rests_s s0 (upd (M_rests s0) (Int32.toNatClampNeg (0 : Int32)) (((((M_law s0) (Int32.toNatClampNeg (((7 : Int32) * v1) + (6 : Int32)))) - ((M_law s0) (Int32.toNatClampNeg (((7 : Int32) * v1) + (6 : Int32)))) / v4 * v4) + v4) - ((((M_law s0) (Int32.toNatClampNeg (((7 : Int32) * v1) + (6 : Int32)))) - ((M_law s0) (Int32.toNatClampNeg (((7 : Int32) * v1) + (6 : Int32)))) / v4 * v4) + v4) / v4 * v4))))) K dX12_rest_76 hrw 7 rfl hg (st_M_7 ..) rfl ?_
          refine j_iconst (pc' := 78) (v := (1 : Int32)) K dX12_rest_77 (by decide) rfl ?_
          refine j_istore (pc' := 80) (lv' := [(6, .int (1 : Int32)), (5, .int (0 : Int32)), (0, .ref (a0 0)), (1, .int v1), (2, .int v2), (3, .int v3), (4, .int v4)]) K dX12_rest_78 (by decide) rfl rfl ?_
          refine j_sub [2, 3, 4, 5, 6, 1, 0] rfl ?_
          exact b_X12_rest_80 a0 K hrw HR jFU v1 v2 v3 v4 (0 : Int32) (1 : Int32) (M_rests_s s0 (upd (M_rests s0) (Int32.toNatClampNeg (0 : Int32)) (((((M_law s0) (Int32.toNatClampNeg (((7 : Int32) * v1) + (6 : Int32)))) - ((M_law s0) (Int32.toNatClampNeg (((7 : Int32) * v1) + (6 : Int32)))) / v4 * v4) + v4) - ((((M_law s0) (Int32.toNatClampNeg (((7 : Int32) * v1) + (6 : Int32)))) - ((M_law s0) (Int32.toNatClampNeg (((7 : Int32) * v1) + (6 : Int32)))) / v4 * v4) + v4) / v4 * v4))) h
        · have h := jit hc h
          refine j_iconst (pc' := 46) (v := (-1 : Int32)) K dX12_rest_45 (by decide) rfl ?_
          obtain rfl := Option.some.inj h
          exact HR _ _ dX12_rest_46
set_option maxRecDepth 100000 in
set_option maxHeartbeats 4000000 in
theorem M_X12_rest (l : Launch) (G : jG) (a0 : Nat → Nat) (v1 : Int32) (v2 : Int32) (v3 : Int32) (v4 : Int32) (s0 : MS) {r : Int32 × MS} (h : f_X12_rest v1 v2 v3 v4 s0 = some r) : MC l yX12_rest cX12_rest 10 (some .int) 2 G (jad (wM G a0 s0)) True (wM G a0 s0) (wM G a0 (r.2)) [.ref (a0 0), .int v1, .int v2, .int v3, .int v4] (some (.int (r.1))) := by
  refine mc_int (by decide +kernel) (Nat.le_of_ble_eq_true rfl) fun E hl hg hA hrw K HR => ?_
  subst hl
  subst hg
  have hrw : jrw E := by rw [hrw]; trivial
  exact b_X12_rest a0 K hrw HR v1 v2 v3 v4 s0 h
theorem ok_X12_product : yX12_product.cls ≠ "java/lang/invoke/MethodHandle" ∧ yX12_product.cls ≠ "java/lang/invoke/VarHandle" ∧ (parseMethodDescriptor yX12_product.desc).map (fun d => d.parameters.length) = some 2 := ⟨by decide, by decide, by decide +kernel⟩
def f_X12_product_117 (k10 : Int32 → Int32 → Int64 → Int32 → MS → Option (Int64 × MS)) (v1 : Int32) (v2 : Int32) (v5 : Int32) (t0 : Int64) (t1 : Int64) (s0 : MS) : Option (Int64 × MS) :=
   k10 v1 v2 (t0 + t1) (v5 + (1 : Int32)) s0
def f_X12_product_87 (k10 : Int32 → Int32 → Int64 → Int32 → MS → Option (Int64 × MS)) (v1 : Int32) (v2 : Int32) (v3 : Int64) (v5 : Int32) (v6 : Int32) (v7 : Int32) (t1 : Int32) (s0 : MS) : Option (Int64 × MS) :=
   jzb t1 (
   if (M_isNo (M_isNo_s s0 t1)) = 0 then
    jgd v6 650 (
     jgd v7 650 (
      f_X12_product_117 k10 v1 v2 v5 v3 (((M_cell (M_isNo_s s0 t1)) (Int32.toNatClampNeg v6)) * ((M_cell (M_isNo_s s0 t1)) (Int32.toNatClampNeg v7))) (M_isNo_s s0 t1)))
   else
    f_X12_product_117 k10 v1 v2 v5 v3 (0 : Int64) (M_isNo_s s0 t1))
def f_X12_product_82 (k10 : Int32 → Int32 → Int64 → Int32 → MS → Option (Int64 × MS)) (v1 : Int32) (v2 : Int32) (v3 : Int64) (v5 : Int32) (v6 : Int32) (v7 : Int32) (s0 : MS) : Option (Int64 × MS) :=
   f_X12_product_87 k10 v1 v2 v3 v5 v6 v7 (1 : Int32) s0
def f_X12_product_10 : Nat → Int32 → Int32 → Int64 → Int32 → MS → Option (Int64 × MS)
  | 0, _, _, _, _, _ => none
  | n + 1, v1, v2, v3, v5, s0 =>
   if v1 < v5 then
   some (v3, s0)
  else
   jbd (f_X12_at (0 : Int32) v1 v5) (fun r20 =>
    jbd (f_X12_at (1 : Int32) v5 v2) (fun r29 =>
     if (M_isNo s0) = 0 then
      jgd r20 650 (
       if ((M_isGreat s0) (Int32.toNatClampNeg r20)) = 0 then
        jgd r29 650 (
         if ((M_isGreat s0) (Int32.toNatClampNeg r29)) = 0 then
          jgd r20 650 (
           jgd r29 650 (
            jbd (f_X12_isTooMuch ((M_cell s0) (Int32.toNatClampNeg r20)) ((M_cell s0) (Int32.toNatClampNeg r29))) (fun r76 =>
             if r76 = 0 then
              f_X12_product_87 (f_X12_product_10 n) v1 v2 v3 v5 r20 r29 (0 : Int32) s0
             else
              f_X12_product_82 (f_X12_product_10 n) v1 v2 v3 v5 r20 r29 s0)))
         else
          f_X12_product_82 (f_X12_product_10 n) v1 v2 v3 v5 r20 r29 s0)
       else
        f_X12_product_82 (f_X12_product_10 n) v1 v2 v3 v5 r20 r29 s0)
     else
      f_X12_product_82 (f_X12_product_10 n) v1 v2 v3 v5 r20 r29 s0))
def f_X12_product (v1 : Int32) (v2 : Int32) (s0 : MS) : Option (Int64 × MS) :=
   jzb (0 : Int32) (
   f_X12_product_10 jFU v1 v2 (0 : Int64) v2 (M_isNo_s s0 (0 : Int32)))
set_option maxRecDepth 100000 in
set_option maxHeartbeats 4000000 in
theorem b_X12_product_117 {E : jE} (a0 : Nat → Nat) {res : Int64 × MS} (K : jC E cX12_product 8 RX12 2) (hrw : jrw E) (HR : jRL E cX12_product 8 (wM (jg E) a0 (res.2)) (res.1)) (k10 : Int32 → Int32 → Int64 → Int32 → MS → Option (Int64 × MS)) (hk10 : ∀ (v1 : Int32) (v2 : Int32) (v3 : Int64) (v5 : Int32) (s0 : MS), k10 v1 v2 v3 v5 s0 = some res → J E 8 (wM (jg E) a0 s0) 10 [(0, .ref (a0 0)), (1, .int v1), (2, .int v2), (3, .long v3), (5, .int v5)] []) : ∀ (v1 : Int32) (v2 : Int32) (v5 : Int32) (t0 : Int64) (t1 : Int64) (s0 : MS), f_X12_product_117 k10 v1 v2 v5 t0 t1 s0 = some res → J E 8 (wM (jg E) a0 s0) 117 [(0, .ref (a0 0)), (1, .int v1), (2, .int v2), (5, .int v5)] [.long t1, .long t0] := by
  intro v1 v2 v5 t0 t1 s0 h
  unfold f_X12_product_117 at h
  refine j_ladd (pc' := 118) K dX12_product_117 rfl ?_
  refine j_lstore_n (pc' := 119) (lv' := [(3, .long (t0 + t1)), (0, .ref (a0 0)), (1, .int v1), (2, .int v2), (5, .int v5)]) K dX12_product_118 rfl (by decide) rfl rfl ?_
  refine j_iinc (pc' := 122) (j := 4) (v := (v5 + (1 : Int32))) (lv' := [(5, .int (v5 + (1 : Int32))), (3, .long (t0 + t1)), (0, .ref (a0 0)), (1, .int v1), (2, .int v2)]) K dX12_product_119 rfl rfl (by decide) rfl rfl ?_
  refine j_goto (tgt := 10) K dX12_product_122 (by decide) ?_
  refine j_sub [2, 3, 4, 1, 0] rfl ?_
  exact hk10 v1 v2 (t0 + t1) (v5 + (1 : Int32)) s0 h
set_option maxRecDepth 100000 in
set_option maxHeartbeats 4000000 in
theorem b_X12_product_87 {E : jE} (a0 : Nat → Nat) {res : Int64 × MS} (K : jC E cX12_product 8 RX12 2) (hrw : jrw E) (HR : jRL E cX12_product 8 (wM (jg E) a0 (res.2)) (res.1)) (k10 : Int32 → Int32 → Int64 → Int32 → MS → Option (Int64 × MS)) (hk10 : ∀ (v1 : Int32) (v2 : Int32) (v3 : Int64) (v5 : Int32) (s0 : MS), k10 v1 v2 v3 v5 s0 = some res → J E 8 (wM (jg E) a0 s0) 10 [(0, .ref (a0 0)), (1, .int v1), (2, .int v2), (3, .long v3), (5, .int v5)] []) : ∀ (v1 : Int32) (v2 : Int32) (v3 : Int64) (v5 : Int32) (v6 : Int32) (v7 : Int32) (t1 : Int32) (s0 : MS), f_X12_product_87 k10 v1 v2 v3 v5 v6 v7 t1 s0 = some res → J E 8 (wM (jg E) a0 s0) 87 [(0, .ref (a0 0)), (1, .int v1), (2, .int v2), (3, .long v3), (5, .int v5), (6, .int v6), (7, .int v7)] [.int t1, .ref (a0 0)] := by
  intro v1 v2 v3 v5 v6 v7 t1 s0 h
  unfold f_X12_product_87 at h
  obtain ⟨hg, h⟩ := jzb_some h
  refine j_put (pc' := 90) (ws' := (wM (jg E) a0 (M_isNo_s s0 t1))) K dX12_product_87 hrw inX12 tyX12 tyX12_ok nmX12 0 rfl rfl 12 (by decide) u_4_47 rfl rfl (jzb_n hg) (jzb_f hg) (Nat.le_of_ble_eq_true rfl) (st_M_0_12 ..) rfl ?_
  refine j_lload_n (pc' := 91) K dX12_product_90 rfl 3 rfl rfl ?_
  refine j_aload_n (pc' := 92) K dX12_product_91 rfl 0 rfl rfl ?_
  refine j_get (pc' := 95) K dX12_product_92 inX12 0 rfl rfl 12 (by decide) u_4_47 rfl rfl rfl ?_
  refine j_if_eq (pc' := 98) (tgt := 102) K dX12_product_95 (by decide) rfl (fun hc => ?_) (fun hc => ?_)
  · have h := jit hc h
    refine j_aload_n (pc' := 103) K dX12_product_102 rfl 0 rfl rfl ?_
    refine j_get (pc' := 106) K dX12_product_103 inX12 0 rfl rfl 8 (by decide) u_4_43 rfl rfl rfl ?_
    refine j_iload (pc' := 108) K dX12_product_106 5 rfl rfl ?_
    obtain ⟨hg, h⟩ := jgd_some h
    refine j_lald (pc' := 109) K dX12_product_108 5 rfl hg rfl ?_
    refine j_aload_n (pc' := 110) K dX12_product_109 rfl 0 rfl rfl ?_
    refine j_get (pc' := 113) K dX12_product_110 inX12 0 rfl rfl 8 (by decide) u_4_43 rfl rfl rfl ?_
    refine j_iload (pc' := 115) K dX12_product_113 6 rfl rfl ?_
    obtain ⟨hg, h⟩ := jgd_some h
    refine j_lald (pc' := 116) K dX12_product_115 5 rfl hg rfl ?_
    refine j_lmul (pc' := 117) K dX12_product_116 rfl ?_
    refine j_sub [0, 1, 2, 4] rfl ?_
    exact b_X12_product_117 a0 K hrw HR k10 hk10 v1 v2 v5 v3 (((M_cell (M_isNo_s s0 t1)) (Int32.toNatClampNeg v6)) * ((M_cell (M_isNo_s s0 t1)) (Int32.toNatClampNeg v7))) (M_isNo_s s0 t1) h
  · have h := jif hc h
    refine j_lconst (pc' := 99) (v := (0 : Int64)) K dX12_product_98 (by decide) rfl ?_
    refine j_goto (tgt := 117) K dX12_product_99 (by decide) ?_
    refine j_sub [0, 1, 2, 4] rfl ?_
    exact b_X12_product_117 a0 K hrw HR k10 hk10 v1 v2 v5 v3 (0 : Int64) (M_isNo_s s0 t1) h
set_option maxRecDepth 100000 in
set_option maxHeartbeats 4000000 in
theorem b_X12_product_82 {E : jE} (a0 : Nat → Nat) {res : Int64 × MS} (K : jC E cX12_product 8 RX12 2) (hrw : jrw E) (HR : jRL E cX12_product 8 (wM (jg E) a0 (res.2)) (res.1)) (k10 : Int32 → Int32 → Int64 → Int32 → MS → Option (Int64 × MS)) (hk10 : ∀ (v1 : Int32) (v2 : Int32) (v3 : Int64) (v5 : Int32) (s0 : MS), k10 v1 v2 v3 v5 s0 = some res → J E 8 (wM (jg E) a0 s0) 10 [(0, .ref (a0 0)), (1, .int v1), (2, .int v2), (3, .long v3), (5, .int v5)] []) : ∀ (v1 : Int32) (v2 : Int32) (v3 : Int64) (v5 : Int32) (v6 : Int32) (v7 : Int32) (s0 : MS), f_X12_product_82 k10 v1 v2 v3 v5 v6 v7 s0 = some res → J E 8 (wM (jg E) a0 s0) 82 [(0, .ref (a0 0)), (1, .int v1), (2, .int v2), (3, .long v3), (5, .int v5), (6, .int v6), (7, .int v7)] [.ref (a0 0)] := by
  intro v1 v2 v3 v5 v6 v7 s0 h
  unfold f_X12_product_82 at h
  refine j_iconst (pc' := 83) (v := (1 : Int32)) K dX12_product_82 (by decide) rfl ?_
  refine j_goto (tgt := 87) K dX12_product_83 (by decide) ?_
  refine j_sub [0, 1, 2, 3, 4, 5, 6] rfl ?_
  exact b_X12_product_87 a0 K hrw HR k10 hk10 v1 v2 v3 v5 v6 v7 (1 : Int32) s0 h
set_option maxRecDepth 100000 in
set_option maxHeartbeats 4000000 in
theorem b_X12_product_10 {E : jE} (a0 : Nat → Nat) {res : Int64 × MS} (K : jC E cX12_product 8 RX12 2) (hrw : jrw E) (HR : jRL E cX12_product 8 (wM (jg E) a0 (res.2)) (res.1)) : ∀ (n : Nat) (v1 : Int32) (v2 : Int32) (v3 : Int64) (v5 : Int32) (s0 : MS), f_X12_product_10 n v1 v2 v3 v5 s0 = some res → J E 8 (wM (jg E) a0 s0) 10 [(0, .ref (a0 0)), (1, .int v1), (2, .int v2), (3, .long v3), (5, .int v5)] [] := by
  intro n
  induction n with
  | zero => intro _ _ _ _ _ h; cases h
  | succ n ih =>
    intro v1 v2 v3 v5 s0 h
    rw [f_X12_product_10] at h
    refine j_iload (pc' := 12) K dX12_product_10 4 rfl rfl ?_
    refine j_iload_n (pc' := 13) K dX12_product_12 rfl 1 rfl rfl ?_
    refine j_icmp_gt (pc' := 16) (tgt := 125) K dX12_product_13 (by decide) rfl (fun hc => ?_) (fun hc => ?_)
    · have h := jit hc h
      refine j_lload_n (pc' := 126) K dX12_product_125 rfl 3 rfl rfl ?_
      obtain rfl := Option.some.inj h
      exact HR _ _ dX12_product_126
    · have h := jif hc h
      refine j_iconst (pc' := 17) (v := (0 : Int32)) K dX12_product_16 (by decide) rfl ?_
      refine j_iload_n (pc' := 18) K dX12_product_17 rfl 1 rfl rfl ?_
      refine j_iload (pc' := 20) K dX12_product_18 4 rfl rfl ?_
      obtain ⟨r20, hr20, h⟩ := jbd_some h
      refine j_ro (pc' := 23) K (fun H hP => jrun_S K dX12_product_20 (M_X12_at (jl E) (jg E) (0 : Int32) v1 v5 hr20) u_4_154 u_4_152 u_4_153 u_1_13 ⟨ok_X12_at, by decide, by decide⟩ rfl (Nat.le_of_ble_eq_true rfl) H) [] rfl rfl ?_
      refine j_istore (pc' := 25) (lv' := [(6, .int r20), (0, .ref (a0 0)), (1, .int v1), (2, .int v2), (3, .long v3), (5, .int v5)]) K dX12_product_23 (by decide) rfl rfl ?_
      refine j_iconst (pc' := 26) (v := (1 : Int32)) K dX12_product_25 (by decide) rfl ?_
      refine j_iload (pc' := 28) K dX12_product_26 5 rfl rfl ?_
      refine j_iload_n (pc' := 29) K dX12_product_28 rfl 3 rfl rfl ?_
      obtain ⟨r29, hr29, h⟩ := jbd_some h
      refine j_ro (pc' := 32) K (fun H hP => jrun_S K dX12_product_29 (M_X12_at (jl E) (jg E) (1 : Int32) v5 v2 hr29) u_4_154 u_4_152 u_4_153 u_1_13 ⟨ok_X12_at, by decide, by decide⟩ rfl (Nat.le_of_ble_eq_true rfl) H) [] rfl rfl ?_
      refine j_istore (pc' := 34) (lv' := [(7, .int r29), (6, .int r20), (0, .ref (a0 0)), (1, .int v1), (2, .int v2), (3, .long v3), (5, .int v5)]) K dX12_product_32 (by decide) rfl rfl ?_
      refine j_aload_n (pc' := 35) K dX12_product_34 rfl 2 rfl rfl ?_
      refine j_aload_n (pc' := 36) K dX12_product_35 rfl 2 rfl rfl ?_
      refine j_get (pc' := 39) K dX12_product_36 inX12 0 rfl rfl 12 (by decide) u_4_47 rfl rfl rfl ?_
      refine j_if_ne (pc' := 42) (tgt := 82) K dX12_product_39 (by decide) rfl (fun hc => ?_) (fun hc => ?_)
      · have h := jif hc h
        refine j_sub [2, 3, 4, 5, 6, 1, 0] rfl ?_
        exact b_X12_product_82 a0 K hrw HR (f_X12_product_10 n) (ih) v1 v2 v3 v5 r20 r29 s0 h
      · have h := jit hc h
        refine j_aload_n (pc' := 43) K dX12_product_42 rfl 2 rfl rfl ?_
        refine j_get (pc' := 46) K dX12_product_43 inX12 0 rfl rfl 9 (by decide) u_4_44 rfl rfl rfl ?_
        refine j_iload (pc' := 48) K dX12_product_46 1 rfl rfl ?_
        obtain ⟨hg, h⟩ := jgd_some h
        refine j_zald (pc' := 49) K dX12_product_48 6 rfl hg rfl ?_
        refine j_if_ne (pc' := 52) (tgt := 82) K dX12_product_49 (by decide) rfl (fun hc => ?_) (fun hc => ?_)
        · have h := jif hc h
          refine j_sub [2, 3, 4, 5, 6, 1, 0] rfl ?_
          exact b_X12_product_82 a0 K hrw HR (f_X12_product_10 n) (ih) v1 v2 v3 v5 r20 r29 s0 h
        · have h := jit hc h
          refine j_aload_n (pc' := 53) K dX12_product_52 rfl 2 rfl rfl ?_
          refine j_get (pc' := 56) K dX12_product_53 inX12 0 rfl rfl 9 (by decide) u_4_44 rfl rfl rfl ?_
          refine j_iload (pc' := 58) K dX12_product_56 0 rfl rfl ?_
          obtain ⟨hg, h⟩ := jgd_some h
          refine j_zald (pc' := 59) K dX12_product_58 6 rfl hg rfl ?_
          refine j_if_ne (pc' := 62) (tgt := 82) K dX12_product_59 (by decide) rfl (fun hc => ?_) (fun hc => ?_)
          · have h := jif hc h
            refine j_sub [2, 3, 4, 5, 6, 1, 0] rfl ?_
            exact b_X12_product_82 a0 K hrw HR (f_X12_product_10 n) (ih) v1 v2 v3 v5 r20 r29 s0 h
          · have h := jit hc h
            refine j_aload_n (pc' := 63) K dX12_product_62 rfl 2 rfl rfl ?_
            refine j_get (pc' := 66) K dX12_product_63 inX12 0 rfl rfl 8 (by decide) u_4_43 rfl rfl rfl ?_
            refine j_iload (pc' := 68) K dX12_product_66 1 rfl rfl ?_
            obtain ⟨hg, h⟩ := jgd_some h
            refine j_lald (pc' := 69) K dX12_product_68 5 rfl hg rfl ?_
            refine j_aload_n (pc' := 70) K dX12_product_69 rfl 2 rfl rfl ?_
            refine j_get (pc' := 73) K dX12_product_70 inX12 0 rfl rfl 8 (by decide) u_4_43 rfl rfl rfl ?_
            refine j_iload (pc' := 75) K dX12_product_73 0 rfl rfl ?_
            obtain ⟨hg, h⟩ := jgd_some h
            refine j_lald (pc' := 76) K dX12_product_75 5 rfl hg rfl ?_
            obtain ⟨r76, hr76, h⟩ := jbd_some h
            refine j_ro (pc' := 79) K (fun H hP => jrun_S K dX12_product_76 (M_X12_isTooMuch (jl E) (jg E) ((M_cell s0) (Int32.toNatClampNeg r20)) ((M_cell s0) (Int32.toNatClampNeg r29)) hr76) u_4_161 u_4_159 u_4_160 u_1_13 ⟨ok_X12_isTooMuch, by decide, by decide⟩ rfl (Nat.le_of_ble_eq_true rfl) H) [] rfl rfl ?_
            refine j_if_eq (pc' := 82) (tgt := 86) K dX12_product_79 (by decide) rfl (fun hc => ?_) (fun hc => ?_)
            · have h := jit hc h
              refine j_iconst (pc' := 87) (v := (0 : Int32)) K dX12_product_86 (by decide) rfl ?_
              refine j_sub [2, 3, 4, 5, 6, 1, 0] rfl ?_
              exact b_X12_product_87 a0 K hrw HR (f_X12_product_10 n) (ih) v1 v2 v3 v5 r20 r29 (0 : Int32) s0 h
            · have h := jif hc h
              refine j_sub [2, 3, 4, 5, 6, 1, 0] rfl ?_
              exact b_X12_product_82 a0 K hrw HR (f_X12_product_10 n) (ih) v1 v2 v3 v5 r20 r29 s0 h
set_option maxRecDepth 100000 in
set_option maxHeartbeats 4000000 in
theorem b_X12_product {E : jE} (a0 : Nat → Nat) {res : Int64 × MS} (K : jC E cX12_product 8 RX12 2) (hrw : jrw E) (HR : jRL E cX12_product 8 (wM (jg E) a0 (res.2)) (res.1)) : ∀ (v1 : Int32) (v2 : Int32) (s0 : MS), f_X12_product v1 v2 s0 = some res → J E 8 (wM (jg E) a0 s0) 0 [(0, .ref (a0 0)), (1, .int v1), (2, .int v2)] [] := by
  intro v1 v2 s0 h
  unfold f_X12_product at h
  refine j_aload_n (pc' := 1) K dX12_product_0 rfl 0 rfl rfl ?_
  refine j_iconst (pc' := 2) (v := (0 : Int32)) K dX12_product_1 (by decide) rfl ?_
  obtain ⟨hg, h⟩ := jzb_some h
  refine j_put (pc' := 5) (ws' := (wM (jg E) a0 (M_isNo_s s0 (0 : Int32)))) K dX12_product_2 hrw inX12 tyX12 tyX12_ok nmX12 0 rfl rfl 12 (by decide) u_4_47 rfl rfl (jzb_n hg) (jzb_f hg) (Nat.le_of_ble_eq_true rfl) (st_M_0_12 ..) rfl ?_
  refine j_lconst (pc' := 6) (v := (0 : Int64)) K dX12_product_5 (by decide) rfl ?_
  refine j_lstore_n (pc' := 7) (lv' := [(3, .long (0 : Int64)), (0, .ref (a0 0)), (1, .int v1), (2, .int v2)]) K dX12_product_6 rfl (by decide) rfl rfl ?_
  refine j_iload_n (pc' := 8) K dX12_product_7 rfl 3 rfl rfl ?_
  refine j_istore (pc' := 10) (lv' := [(5, .int v2), (3, .long (0 : Int64)), (0, .ref (a0 0)), (1, .int v1), (2, .int v2)]) K dX12_product_8 (by decide) rfl rfl ?_
  refine j_sub [2, 3, 4, 1, 0] rfl ?_
  exact b_X12_product_10 a0 K hrw HR jFU v1 v2 (0 : Int64) v2 (M_isNo_s s0 (0 : Int32)) h
set_option maxRecDepth 100000 in
set_option maxHeartbeats 4000000 in
theorem M_X12_product (l : Launch) (G : jG) (a0 : Nat → Nat) (v1 : Int32) (v2 : Int32) (s0 : MS) {r : Int64 × MS} (h : f_X12_product v1 v2 s0 = some r) : MC l yX12_product cX12_product 8 (some .long) 2 G (jad (wM G a0 s0)) True (wM G a0 s0) (wM G a0 (r.2)) [.ref (a0 0), .int v1, .int v2] (some (.long (r.1))) := by
  refine mc_long (by decide +kernel) (Nat.le_of_ble_eq_true rfl) fun E hl hg hA hrw K HR => ?_
  subst hl
  subst hg
  have hrw : jrw E := by rw [hrw]; trivial
  exact b_X12_product a0 K hrw HR v1 v2 s0 h
theorem ok_X12_times : yX12_times.cls ≠ "java/lang/invoke/MethodHandle" ∧ yX12_times.cls ≠ "java/lang/invoke/VarHandle" ∧ (parseMethodDescriptor yX12_times.desc).map (fun d => d.parameters.length) = some 4 := ⟨by decide, by decide, by decide +kernel⟩
def f_X12_times (v1 : Int32) (v2 : Int32) (v3 : Int32) (v4 : Int32) (s0 : MS) : Option (Int64 × MS) :=
   jbd (f_X12_isLaw v1) (fun r1 =>
   if r1 = 0 then
    some ((-1000000000000000001 : Int64), s0)
   else
    jbd (f_X12_isLaw v2) (fun r8 =>
     if r8 = 0 then
      some ((-1000000000000000001 : Int64), s0)
     else
      jbd (f_X12_in (Int32.toInt64 v3) (0 : Int64) (24 : Int64)) (fun r20 =>
       if r20 = 0 then
        some ((-1000000000000000001 : Int64), s0)
       else
        jbd (f_X12_in (Int32.toInt64 v4) (0 : Int64) (Int32.toInt64 v3)) (fun r32 =>
         if r32 = 0 then
          some ((-1000000000000000001 : Int64), s0)
         else
          jbd (f_X12_findRows (0 : Int32) v1 v3 s0) (fun r46 =>
           jbd (f_X12_findRows (1 : Int32) v2 v3 r46) (fun r53 =>
            jbd (f_X12_product v3 v4 r53) (fun r60 =>
             if (M_isNo (r60.2)) = 0 then
              some ((r60.1), (r60.2))
             else
              some ((-1000000000000000002 : Int64), (r60.2)))))))))
set_option maxRecDepth 100000 in
set_option maxHeartbeats 4000000 in
theorem b_X12_times {E : jE} (a0 : Nat → Nat) {res : Int64 × MS} (K : jC E cX12_times 7 RX12 3) (hrw : jrw E) (HR : jRL E cX12_times 7 (wM (jg E) a0 (res.2)) (res.1)) : ∀ (v1 : Int32) (v2 : Int32) (v3 : Int32) (v4 : Int32) (s0 : MS), f_X12_times v1 v2 v3 v4 s0 = some res → J E 7 (wM (jg E) a0 s0) 0 [(0, .ref (a0 0)), (1, .int v1), (2, .int v2), (3, .int v3), (4, .int v4)] [] := by
  intro v1 v2 v3 v4 s0 h
  unfold f_X12_times at h
  refine j_iload_n (pc' := 1) K dX12_times_0 rfl 1 rfl rfl ?_
  obtain ⟨r1, hr1, h⟩ := jbd_some h
  refine j_ro (pc' := 4) K (fun H hP => jrun_S K dX12_times_1 (M_X12_isLaw (jl E) (jg E) v1 hr1) u_4_140 u_4_138 u_4_139 u_1_13 ⟨ok_X12_isLaw, by decide, by decide⟩ rfl (Nat.le_of_ble_eq_true rfl) H) [] rfl rfl ?_
  refine j_if_eq (pc' := 7) (tgt := 38) K dX12_times_4 (by decide) rfl (fun hc => ?_) (fun hc => ?_)
  · have h := jit hc h
    refine j_ldc2 (pc' := 41) K dX12_times_38 u_4_147 rfl ?_
    obtain rfl := Option.some.inj h
    exact HR _ _ dX12_times_41
  · have h := jif hc h
    refine j_iload_n (pc' := 8) K dX12_times_7 rfl 2 rfl rfl ?_
    obtain ⟨r8, hr8, h⟩ := jbd_some h
    refine j_ro (pc' := 11) K (fun H hP => jrun_S K dX12_times_8 (M_X12_isLaw (jl E) (jg E) v2 hr8) u_4_140 u_4_138 u_4_139 u_1_13 ⟨ok_X12_isLaw, by decide, by decide⟩ rfl (Nat.le_of_ble_eq_true rfl) H) [] rfl rfl ?_
    refine j_if_eq (pc' := 14) (tgt := 38) K dX12_times_11 (by decide) rfl (fun hc => ?_) (fun hc => ?_)
    · have h := jit hc h
      refine j_ldc2 (pc' := 41) K dX12_times_38 u_4_147 rfl ?_
      obtain rfl := Option.some.inj h
      exact HR _ _ dX12_times_41
    · have h := jif hc h
      refine j_iload_n (pc' := 15) K dX12_times_14 rfl 3 rfl rfl ?_
      refine j_i2l (pc' := 16) K dX12_times_15 rfl ?_
      refine j_lconst (pc' := 17) (v := (0 : Int64)) K dX12_times_16 (by decide) rfl ?_
      refine j_ldc2 (pc' := 20) K dX12_times_17 u_4_146 rfl ?_
      obtain ⟨r20, hr20, h⟩ := jbd_some h
      refine j_ro (pc' := 23) K (fun H hP => jrun_S K dX12_times_20 (M_X12_in (jl E) (jg E) (Int32.toInt64 v3) (0 : Int64) (24 : Int64) hr20) u_4_107 u_4_105 u_4_106 u_1_13 ⟨ok_X12_in, by decide, by decide⟩ rfl (Nat.le_of_ble_eq_true rfl) H) [] rfl rfl ?_
      refine j_if_eq (pc' := 26) (tgt := 38) K dX12_times_23 (by decide) rfl (fun hc => ?_) (fun hc => ?_)
      · have h := jit hc h
        refine j_ldc2 (pc' := 41) K dX12_times_38 u_4_147 rfl ?_
        obtain rfl := Option.some.inj h
        exact HR _ _ dX12_times_41
      · have h := jif hc h
        refine j_iload (pc' := 28) K dX12_times_26 4 rfl rfl ?_
        refine j_i2l (pc' := 29) K dX12_times_28 rfl ?_
        refine j_lconst (pc' := 30) (v := (0 : Int64)) K dX12_times_29 (by decide) rfl ?_
        refine j_iload_n (pc' := 31) K dX12_times_30 rfl 3 rfl rfl ?_
        refine j_i2l (pc' := 32) K dX12_times_31 rfl ?_
        obtain ⟨r32, hr32, h⟩ := jbd_some h
        refine j_ro (pc' := 35) K (fun H hP => jrun_S K dX12_times_32 (M_X12_in (jl E) (jg E) (Int32.toInt64 v4) (0 : Int64) (Int32.toInt64 v3) hr32) u_4_107 u_4_105 u_4_106 u_1_13 ⟨ok_X12_in, by decide, by decide⟩ rfl (Nat.le_of_ble_eq_true rfl) H) [] rfl rfl ?_
        refine j_if_ne (pc' := 38) (tgt := 42) K dX12_times_35 (by decide) rfl (fun hc => ?_) (fun hc => ?_)
        · have h := jif hc h
          refine j_aload_n (pc' := 43) K dX12_times_42 rfl 0 rfl rfl ?_
          refine j_iconst (pc' := 44) (v := (0 : Int32)) K dX12_times_43 (by decide) rfl ?_
          refine j_iload_n (pc' := 45) K dX12_times_44 rfl 1 rfl rfl ?_
          refine j_iload_n (pc' := 46) K dX12_times_45 rfl 3 rfl rfl ?_
          obtain ⟨r46, hr46, h⟩ := jbd_some h
          refine j_rw (pc' := 49) (ws' := (wM (jg E) a0 r46)) K (fun H hP => jrun_V K dX12_times_46 (M_X12_findRows (jl E) (jg E) a0 (0 : Int32) v1 v3 s0 hr46) u_4_151 u_4_148 u_4_150 u_p_24 u_1_13 ⟨ok_X12_findRows, by decide, by decide⟩ rfl (Nat.le_of_ble_eq_true rfl) 0 rfl rfl H hP) hrw [0, 1, 2, 3, 4, 5, 6, 7, 8, 9, 10, 11, 12, 13, 14, 15, 16] rfl (cl_56_s ..) rfl (cl_56_m ..) (ad_M ..) rfl ?_
          refine j_aload_n (pc' := 50) K dX12_times_49 rfl 0 rfl rfl ?_
          refine j_iconst (pc' := 51) (v := (1 : Int32)) K dX12_times_50 (by decide) rfl ?_
          refine j_iload_n (pc' := 52) K dX12_times_51 rfl 2 rfl rfl ?_
          refine j_iload_n (pc' := 53) K dX12_times_52 rfl 3 rfl rfl ?_
          obtain ⟨r53, hr53, h⟩ := jbd_some h
          refine j_rw (pc' := 56) (ws' := (wM (jg E) a0 r53)) K (fun H hP => jrun_V K dX12_times_53 (M_X12_findRows (jl E) (jg E) a0 (1 : Int32) v2 v3 r46 hr53) u_4_151 u_4_148 u_4_150 u_p_24 u_1_13 ⟨ok_X12_findRows, by decide, by decide⟩ rfl (Nat.le_of_ble_eq_true rfl) 0 rfl rfl H hP) hrw [0, 1, 2, 3, 4, 5, 6, 7, 8, 9, 10, 11, 12, 13, 14, 15, 16] rfl (cl_56_s ..) rfl (cl_56_m ..) (ad_M ..) rfl ?_
          refine j_aload_n (pc' := 57) K dX12_times_56 rfl 0 rfl rfl ?_
          refine j_iload_n (pc' := 58) K dX12_times_57 rfl 3 rfl rfl ?_
          refine j_iload (pc' := 60) K dX12_times_58 4 rfl rfl ?_
          obtain ⟨r60, hr60, h⟩ := jbd_some h
          refine j_rw (pc' := 63) (ws' := (wM (jg E) a0 (r60.2))) K (fun H hP => jrun_V K dX12_times_60 (M_X12_product (jl E) (jg E) a0 v3 v4 r53 hr60) u_4_194 u_4_191 u_4_193 u_p_26 u_1_13 ⟨ok_X12_product, by decide, by decide⟩ rfl (Nat.le_of_ble_eq_true rfl) 0 rfl rfl H hP) hrw [0, 1, 2, 3, 4, 5, 6, 7, 8, 9, 10, 11, 12, 13, 14, 15, 16] rfl (cl_56_s ..) rfl (cl_56_m ..) (ad_M ..) rfl ?_
          refine j_lstore (pc' := 65) (lv' := [(5, .long (r60.1)), (0, .ref (a0 0)), (1, .int v1), (2, .int v2), (3, .int v3), (4, .int v4)]) K dX12_times_63 (by decide) rfl rfl ?_
          refine j_aload_n (pc' := 66) K dX12_times_65 rfl 1 rfl rfl ?_
          refine j_get (pc' := 69) K dX12_times_66 inX12 0 rfl rfl 12 (by decide) u_4_47 rfl rfl rfl ?_
          refine j_if_eq (pc' := 72) (tgt := 78) K dX12_times_69 (by decide) rfl (fun hc => ?_) (fun hc => ?_)
          · have h := jit hc h
            refine j_lload (pc' := 80) K dX12_times_78 0 rfl rfl ?_
            obtain rfl := Option.some.inj h
            exact HR _ _ dX12_times_80
          · have h := jif hc h
            refine j_ldc2 (pc' := 75) K dX12_times_72 u_4_170 rfl ?_
            refine j_goto (tgt := 80) K dX12_times_75 (by decide) ?_
            obtain rfl := Option.some.inj h
            exact HR _ _ dX12_times_80
        · have h := jit hc h
          refine j_ldc2 (pc' := 41) K dX12_times_38 u_4_147 rfl ?_
          obtain rfl := Option.some.inj h
          exact HR _ _ dX12_times_41
set_option maxRecDepth 100000 in
set_option maxHeartbeats 4000000 in
theorem M_X12_times (l : Launch) (G : jG) (a0 : Nat → Nat) (v1 : Int32) (v2 : Int32) (v3 : Int32) (v4 : Int32) (s0 : MS) {r : Int64 × MS} (h : f_X12_times v1 v2 v3 v4 s0 = some r) : MC l yX12_times cX12_times 7 (some .long) 3 G (jad (wM G a0 s0)) True (wM G a0 s0) (wM G a0 (r.2)) [.ref (a0 0), .int v1, .int v2, .int v3, .int v4] (some (.long (r.1))) := by
  refine mc_long (by decide +kernel) (Nat.le_of_ble_eq_true rfl) fun E hl hg hA hrw K HR => ?_
  subst hl
  subst hg
  have hrw : jrw E := by rw [hrw]; trivial
  exact b_X12_times a0 K hrw HR v1 v2 v3 v4 s0 h
theorem ok_X12_undoes : yX12_undoes.cls ≠ "java/lang/invoke/MethodHandle" ∧ yX12_undoes.cls ≠ "java/lang/invoke/VarHandle" ∧ (parseMethodDescriptor yX12_undoes.desc).map (fun d => d.parameters.length) = some 3 := ⟨by decide, by decide, by decide +kernel⟩
def f_X12_undoes_117 (k45 : Int32 → Int32 → MS → Option (Int32 × MS)) (v3 : Int32) (v4 : Int32) (s0 : MS) : Option (Int32 × MS) :=
   k45 v3 (v4 + (1 : Int32)) s0
def f_X12_undoes_96 (v4 : Int32) (s0 : MS) : Option (Int32 × MS) :=
   if (M_isNo s0) = 0 then
   some (v4, s0)
  else
   some ((-2 : Int32), s0)
def f_X12_undoes_92 (k45 : Int32 → Int32 → MS → Option (Int32 × MS)) (k54 : Int32 → Int32 → Int32 → MS → Option (Int32 × MS)) (v3 : Int32) (v4 : Int32) (v5 : Int32) (t0 : Int64) (t1 : Int64) (s0 : MS) : Option (Int32 × MS) :=
   if (lg_cmp t0 t1) = 0 then
   k54 v3 v4 (v5 + (1 : Int32)) s0
  else
   f_X12_undoes_96 v4 s0
def f_X12_undoes_54 (k45 : Int32 → Int32 → MS → Option (Int32 × MS)) : Nat → Int32 → Int32 → Int32 → MS → Option (Int32 × MS)
  | 0, _, _, _, _ => none
  | n + 1, v3, v4, v5, s0 =>
   if v4 < v5 then
   f_X12_undoes_117 k45 v3 v4 s0
  else
   jbd (f_X12_product v4 v5 s0) (fun r66 =>
    if (M_isNo (r66.2)) = 0 then
     if v5 = v4 then
      f_X12_undoes_92 k45 (f_X12_undoes_54 k45 n) v3 v4 v5 (r66.1) (1 : Int64) (r66.2)
     else
      f_X12_undoes_92 k45 (f_X12_undoes_54 k45 n) v3 v4 v5 (r66.1) (0 : Int64) (r66.2)
    else
     f_X12_undoes_96 v4 (r66.2))
def f_X12_undoes_45 : Nat → Int32 → Int32 → MS → Option (Int32 × MS)
  | 0, _, _, _ => none
  | n + 1, v3, v4, s0 =>
   if v3 < v4 then
   some ((-4 : Int32), s0)
  else
   f_X12_undoes_54 (f_X12_undoes_45 n) jFU v3 v4 (0 : Int32) s0
def f_X12_undoes (v1 : Int32) (v2 : Int32) (v3 : Int32) (s0 : MS) : Option (Int32 × MS) :=
   jbd (f_X12_isLaw v1) (fun r1 =>
   if r1 = 0 then
    some ((-1 : Int32), s0)
   else
    jbd (f_X12_isLaw v2) (fun r8 =>
     if r8 = 0 then
      some ((-1 : Int32), s0)
     else
      jbd (f_X12_in (Int32.toInt64 v3) (0 : Int64) (24 : Int64)) (fun r20 =>
       if r20 = 0 then
        some ((-1 : Int32), s0)
       else
        jbd (f_X12_findRows (0 : Int32) v1 v3 s0) (fun r32 =>
         jbd (f_X12_findRows (1 : Int32) v2 v3 r32) (fun r39 =>
          f_X12_undoes_45 jFU v3 (0 : Int32) r39)))))
set_option maxRecDepth 100000 in
set_option maxHeartbeats 4000000 in
theorem b_X12_undoes_117 {E : jE} (a0 : Nat → Nat) {res : Int32 × MS} (K : jC E cX12_undoes 8 RX12 3) (hrw : jrw E) (HR : jRI E cX12_undoes 8 (wM (jg E) a0 (res.2)) (res.1)) (k45 : Int32 → Int32 → MS → Option (Int32 × MS)) (hk45 : ∀ (v3 : Int32) (v4 : Int32) (s0 : MS), k45 v3 v4 s0 = some res → J E 8 (wM (jg E) a0 s0) 45 [(0, .ref (a0 0)), (3, .int v3), (4, .int v4)] []) : ∀ (v3 : Int32) (v4 : Int32) (s0 : MS), f_X12_undoes_117 k45 v3 v4 s0 = some res → J E 8 (wM (jg E) a0 s0) 117 [(0, .ref (a0 0)), (3, .int v3), (4, .int v4)] [] := by
  intro v3 v4 s0 h
  unfold f_X12_undoes_117 at h
  refine j_iinc (pc' := 120) (j := 2) (v := (v4 + (1 : Int32))) (lv' := [(4, .int (v4 + (1 : Int32))), (0, .ref (a0 0)), (3, .int v3)]) K dX12_undoes_117 rfl rfl (by decide) rfl rfl ?_
  refine j_goto (tgt := 45) K dX12_undoes_120 (by decide) ?_
  refine j_sub [1, 2, 0] rfl ?_
  exact hk45 v3 (v4 + (1 : Int32)) s0 h
set_option maxRecDepth 100000 in
set_option maxHeartbeats 4000000 in
theorem b_X12_undoes_96 {E : jE} (a0 : Nat → Nat) {res : Int32 × MS} (K : jC E cX12_undoes 8 RX12 3) (hrw : jrw E) (HR : jRI E cX12_undoes 8 (wM (jg E) a0 (res.2)) (res.1)) : ∀ (v4 : Int32) (s0 : MS), f_X12_undoes_96 v4 s0 = some res → J E 8 (wM (jg E) a0 s0) 96 [(0, .ref (a0 0)), (4, .int v4)] [] := by
  intro v4 s0 h
  unfold f_X12_undoes_96 at h
  refine j_aload_n (pc' := 97) K dX12_undoes_96 rfl 0 rfl rfl ?_
  refine j_get (pc' := 100) K dX12_undoes_97 inX12 0 rfl rfl 12 (by decide) u_4_47 rfl rfl rfl ?_
  refine j_if_eq (pc' := 103) (tgt := 108) K dX12_undoes_100 (by decide) rfl (fun hc => ?_) (fun hc => ?_)
  · have h := jit hc h
    refine j_iload (pc' := 110) K dX12_undoes_108 1 rfl rfl ?_
    obtain rfl := Option.some.inj h
    exact HR _ _ dX12_undoes_110
  · have h := jif hc h
    refine j_bipush (pc' := 105) (v := (-2 : Int32)) K dX12_undoes_103 (by decide) rfl ?_
    refine j_goto (tgt := 110) K dX12_undoes_105 (by decide) ?_
    obtain rfl := Option.some.inj h
    exact HR _ _ dX12_undoes_110
set_option maxRecDepth 100000 in
set_option maxHeartbeats 4000000 in
theorem b_X12_undoes_92 {E : jE} (a0 : Nat → Nat) {res : Int32 × MS} (K : jC E cX12_undoes 8 RX12 3) (hrw : jrw E) (HR : jRI E cX12_undoes 8 (wM (jg E) a0 (res.2)) (res.1)) (k45 : Int32 → Int32 → MS → Option (Int32 × MS)) (k54 : Int32 → Int32 → Int32 → MS → Option (Int32 × MS)) (hk45 : ∀ (v3 : Int32) (v4 : Int32) (s0 : MS), k45 v3 v4 s0 = some res → J E 8 (wM (jg E) a0 s0) 45 [(0, .ref (a0 0)), (3, .int v3), (4, .int v4)] []) (hk54 : ∀ (v3 : Int32) (v4 : Int32) (v5 : Int32) (s0 : MS), k54 v3 v4 v5 s0 = some res → J E 8 (wM (jg E) a0 s0) 54 [(0, .ref (a0 0)), (3, .int v3), (4, .int v4), (5, .int v5)] []) : ∀ (v3 : Int32) (v4 : Int32) (v5 : Int32) (t0 : Int64) (t1 : Int64) (s0 : MS), f_X12_undoes_92 k45 k54 v3 v4 v5 t0 t1 s0 = some res → J E 8 (wM (jg E) a0 s0) 92 [(0, .ref (a0 0)), (3, .int v3), (4, .int v4), (5, .int v5)] [.long t1, .long t0] := by
  intro v3 v4 v5 t0 t1 s0 h
  unfold f_X12_undoes_92 at h
  refine j_lcmp (pc' := 93) K dX12_undoes_92 rfl ?_
  refine j_if_eq (pc' := 96) (tgt := 111) K dX12_undoes_93 (by decide) rfl (fun hc => ?_) (fun hc => ?_)
  · have h := jit hc h
    refine j_iinc (pc' := 114) (j := 3) (v := (v5 + (1 : Int32))) (lv' := [(5, .int (v5 + (1 : Int32))), (0, .ref (a0 0)), (3, .int v3), (4, .int v4)]) K dX12_undoes_111 rfl rfl (by decide) rfl rfl ?_
    refine j_goto (tgt := 54) K dX12_undoes_114 (by decide) ?_
    refine j_sub [1, 2, 3, 0] rfl ?_
    exact hk54 v3 v4 (v5 + (1 : Int32)) s0 h
  · have h := jif hc h
    refine j_sub [0, 2] rfl ?_
    exact b_X12_undoes_96 a0 K hrw HR v4 s0 h
set_option maxRecDepth 100000 in
set_option maxHeartbeats 4000000 in
theorem b_X12_undoes_54 {E : jE} (a0 : Nat → Nat) {res : Int32 × MS} (K : jC E cX12_undoes 8 RX12 3) (hrw : jrw E) (HR : jRI E cX12_undoes 8 (wM (jg E) a0 (res.2)) (res.1)) (k45 : Int32 → Int32 → MS → Option (Int32 × MS)) (hk45 : ∀ (v3 : Int32) (v4 : Int32) (s0 : MS), k45 v3 v4 s0 = some res → J E 8 (wM (jg E) a0 s0) 45 [(0, .ref (a0 0)), (3, .int v3), (4, .int v4)] []) : ∀ (n : Nat) (v3 : Int32) (v4 : Int32) (v5 : Int32) (s0 : MS), f_X12_undoes_54 k45 n v3 v4 v5 s0 = some res → J E 8 (wM (jg E) a0 s0) 54 [(0, .ref (a0 0)), (3, .int v3), (4, .int v4), (5, .int v5)] [] := by
  intro n
  induction n with
  | zero => intro _ _ _ _ h; cases h
  | succ n ih =>
    intro v3 v4 v5 s0 h
    rw [f_X12_undoes_54] at h
    refine j_iload (pc' := 56) K dX12_undoes_54 3 rfl rfl ?_
    refine j_iload (pc' := 58) K dX12_undoes_56 2 rfl rfl ?_
    refine j_icmp_gt (pc' := 61) (tgt := 117) K dX12_undoes_58 (by decide) rfl (fun hc => ?_) (fun hc => ?_)
    · have h := jit hc h
      refine j_sub [0, 1, 2] rfl ?_
      exact b_X12_undoes_117 a0 K hrw HR k45 hk45 v3 v4 s0 h
    · have h := jif hc h
      refine j_aload_n (pc' := 62) K dX12_undoes_61 rfl 0 rfl rfl ?_
      refine j_iload (pc' := 64) K dX12_undoes_62 2 rfl rfl ?_
      refine j_iload (pc' := 66) K dX12_undoes_64 3 rfl rfl ?_
      obtain ⟨r66, hr66, h⟩ := jbd_some h
      refine j_rw (pc' := 69) (ws' := (wM (jg E) a0 (r66.2))) K (fun H hP => jrun_V K dX12_undoes_66 (M_X12_product (jl E) (jg E) a0 v4 v5 s0 hr66) u_4_194 u_4_191 u_4_193 u_p_26 u_1_13 ⟨ok_X12_product, by decide, by decide⟩ rfl (Nat.le_of_ble_eq_true rfl) 0 rfl rfl H hP) hrw [0, 1, 2, 3, 4, 5, 6, 7, 8, 9, 10, 11, 12, 13, 14, 15, 16] rfl (cl_56_s ..) rfl (cl_56_m ..) (ad_M ..) rfl ?_
      refine j_lstore (pc' := 71) (lv' := [(6, .long (r66.1)), (0, .ref (a0 0)), (3, .int v3), (4, .int v4), (5, .int v5)]) K dX12_undoes_69 (by decide) rfl rfl ?_
      refine j_aload_n (pc' := 72) K dX12_undoes_71 rfl 1 rfl rfl ?_
      refine j_get (pc' := 75) K dX12_undoes_72 inX12 0 rfl rfl 12 (by decide) u_4_47 rfl rfl rfl ?_
      refine j_if_ne (pc' := 78) (tgt := 96) K dX12_undoes_75 (by decide) rfl (fun hc => ?_) (fun hc => ?_)
      · have h := jif hc h
        refine j_sub [1, 3] rfl ?_
        exact b_X12_undoes_96 a0 K hrw HR v4 (r66.2) h
      · have h := jit hc h
        refine j_lload (pc' := 80) K dX12_undoes_78 0 rfl rfl ?_
        refine j_iload (pc' := 82) K dX12_undoes_80 4 rfl rfl ?_
        refine j_iload (pc' := 84) K dX12_undoes_82 3 rfl rfl ?_
        refine j_icmp_ne (pc' := 87) (tgt := 91) K dX12_undoes_84 (by decide) rfl (fun hc => ?_) (fun hc => ?_)
        · have h := jif hc h
          refine j_lconst (pc' := 92) (v := (0 : Int64)) K dX12_undoes_91 (by decide) rfl ?_
          refine j_sub [1, 2, 3, 4] rfl ?_
          exact b_X12_undoes_92 a0 K hrw HR k45 (f_X12_undoes_54 k45 n) hk45 (ih) v3 v4 v5 (r66.1) (0 : Int64) (r66.2) h
        · have h := jit hc h
          refine j_lconst (pc' := 88) (v := (1 : Int64)) K dX12_undoes_87 (by decide) rfl ?_
          refine j_goto (tgt := 92) K dX12_undoes_88 (by decide) ?_
          refine j_sub [1, 2, 3, 4] rfl ?_
          exact b_X12_undoes_92 a0 K hrw HR k45 (f_X12_undoes_54 k45 n) hk45 (ih) v3 v4 v5 (r66.1) (1 : Int64) (r66.2) h
set_option maxRecDepth 100000 in
set_option maxHeartbeats 4000000 in
theorem b_X12_undoes_45 {E : jE} (a0 : Nat → Nat) {res : Int32 × MS} (K : jC E cX12_undoes 8 RX12 3) (hrw : jrw E) (HR : jRI E cX12_undoes 8 (wM (jg E) a0 (res.2)) (res.1)) : ∀ (n : Nat) (v3 : Int32) (v4 : Int32) (s0 : MS), f_X12_undoes_45 n v3 v4 s0 = some res → J E 8 (wM (jg E) a0 s0) 45 [(0, .ref (a0 0)), (3, .int v3), (4, .int v4)] [] := by
  intro n
  induction n with
  | zero => intro _ _ _ h; cases h
  | succ n ih =>
    intro v3 v4 s0 h
    rw [f_X12_undoes_45] at h
    refine j_iload (pc' := 47) K dX12_undoes_45 2 rfl rfl ?_
    refine j_iload_n (pc' := 48) K dX12_undoes_47 rfl 1 rfl rfl ?_
    refine j_icmp_gt (pc' := 51) (tgt := 123) K dX12_undoes_48 (by decide) rfl (fun hc => ?_) (fun hc => ?_)
    · have h := jit hc h
      refine j_bipush (pc' := 125) (v := (-4 : Int32)) K dX12_undoes_123 (by decide) rfl ?_
      obtain rfl := Option.some.inj h
      exact HR _ _ dX12_undoes_125
    · have h := jif hc h
      refine j_iconst (pc' := 52) (v := (0 : Int32)) K dX12_undoes_51 (by decide) rfl ?_
      refine j_istore (pc' := 54) (lv' := [(5, .int (0 : Int32)), (0, .ref (a0 0)), (3, .int v3), (4, .int v4)]) K dX12_undoes_52 (by decide) rfl rfl ?_
      refine j_sub [1, 2, 3, 0] rfl ?_
      exact b_X12_undoes_54 a0 K hrw HR (f_X12_undoes_45 n) (ih) jFU v3 v4 (0 : Int32) s0 h
set_option maxRecDepth 100000 in
set_option maxHeartbeats 4000000 in
theorem b_X12_undoes {E : jE} (a0 : Nat → Nat) {res : Int32 × MS} (K : jC E cX12_undoes 8 RX12 3) (hrw : jrw E) (HR : jRI E cX12_undoes 8 (wM (jg E) a0 (res.2)) (res.1)) : ∀ (v1 : Int32) (v2 : Int32) (v3 : Int32) (s0 : MS), f_X12_undoes v1 v2 v3 s0 = some res → J E 8 (wM (jg E) a0 s0) 0 [(0, .ref (a0 0)), (1, .int v1), (2, .int v2), (3, .int v3)] [] := by
  intro v1 v2 v3 s0 h
  unfold f_X12_undoes at h
  refine j_iload_n (pc' := 1) K dX12_undoes_0 rfl 1 rfl rfl ?_
  obtain ⟨r1, hr1, h⟩ := jbd_some h
  refine j_ro (pc' := 4) K (fun H hP => jrun_S K dX12_undoes_1 (M_X12_isLaw (jl E) (jg E) v1 hr1) u_4_140 u_4_138 u_4_139 u_1_13 ⟨ok_X12_isLaw, by decide, by decide⟩ rfl (Nat.le_of_ble_eq_true rfl) H) [] rfl rfl ?_
  refine j_if_eq (pc' := 7) (tgt := 26) K dX12_undoes_4 (by decide) rfl (fun hc => ?_) (fun hc => ?_)
  · have h := jit hc h
    refine j_iconst (pc' := 27) (v := (-1 : Int32)) K dX12_undoes_26 (by decide) rfl ?_
    obtain rfl := Option.some.inj h
    exact HR _ _ dX12_undoes_27
  · have h := jif hc h
    refine j_iload_n (pc' := 8) K dX12_undoes_7 rfl 2 rfl rfl ?_
    obtain ⟨r8, hr8, h⟩ := jbd_some h
    refine j_ro (pc' := 11) K (fun H hP => jrun_S K dX12_undoes_8 (M_X12_isLaw (jl E) (jg E) v2 hr8) u_4_140 u_4_138 u_4_139 u_1_13 ⟨ok_X12_isLaw, by decide, by decide⟩ rfl (Nat.le_of_ble_eq_true rfl) H) [] rfl rfl ?_
    refine j_if_eq (pc' := 14) (tgt := 26) K dX12_undoes_11 (by decide) rfl (fun hc => ?_) (fun hc => ?_)
    · have h := jit hc h
      refine j_iconst (pc' := 27) (v := (-1 : Int32)) K dX12_undoes_26 (by decide) rfl ?_
      obtain rfl := Option.some.inj h
      exact HR _ _ dX12_undoes_27
    · have h := jif hc h
      refine j_iload_n (pc' := 15) K dX12_undoes_14 rfl 3 rfl rfl ?_
      refine j_i2l (pc' := 16) K dX12_undoes_15 rfl ?_
      refine j_lconst (pc' := 17) (v := (0 : Int64)) K dX12_undoes_16 (by decide) rfl ?_
      refine j_ldc2 (pc' := 20) K dX12_undoes_17 u_4_146 rfl ?_
      obtain ⟨r20, hr20, h⟩ := jbd_some h
      refine j_ro (pc' := 23) K (fun H hP => jrun_S K dX12_undoes_20 (M_X12_in (jl E) (jg E) (Int32.toInt64 v3) (0 : Int64) (24 : Int64) hr20) u_4_107 u_4_105 u_4_106 u_1_13 ⟨ok_X12_in, by decide, by decide⟩ rfl (Nat.le_of_ble_eq_true rfl) H) [] rfl rfl ?_
      refine j_if_ne (pc' := 26) (tgt := 28) K dX12_undoes_23 (by decide) rfl (fun hc => ?_) (fun hc => ?_)
      · have h := jif hc h
        refine j_aload_n (pc' := 29) K dX12_undoes_28 rfl 0 rfl rfl ?_
        refine j_iconst (pc' := 30) (v := (0 : Int32)) K dX12_undoes_29 (by decide) rfl ?_
        refine j_iload_n (pc' := 31) K dX12_undoes_30 rfl 1 rfl rfl ?_
        refine j_iload_n (pc' := 32) K dX12_undoes_31 rfl 3 rfl rfl ?_
        obtain ⟨r32, hr32, h⟩ := jbd_some h
        refine j_rw (pc' := 35) (ws' := (wM (jg E) a0 r32)) K (fun H hP => jrun_V K dX12_undoes_32 (M_X12_findRows (jl E) (jg E) a0 (0 : Int32) v1 v3 s0 hr32) u_4_151 u_4_148 u_4_150 u_p_24 u_1_13 ⟨ok_X12_findRows, by decide, by decide⟩ rfl (Nat.le_of_ble_eq_true rfl) 0 rfl rfl H hP) hrw [0, 1, 2, 3, 4, 5, 6, 7, 8, 9, 10, 11, 12, 13, 14, 15, 16] rfl (cl_56_s ..) rfl (cl_56_m ..) (ad_M ..) rfl ?_
        refine j_aload_n (pc' := 36) K dX12_undoes_35 rfl 0 rfl rfl ?_
        refine j_iconst (pc' := 37) (v := (1 : Int32)) K dX12_undoes_36 (by decide) rfl ?_
        refine j_iload_n (pc' := 38) K dX12_undoes_37 rfl 2 rfl rfl ?_
        refine j_iload_n (pc' := 39) K dX12_undoes_38 rfl 3 rfl rfl ?_
        obtain ⟨r39, hr39, h⟩ := jbd_some h
        refine j_rw (pc' := 42) (ws' := (wM (jg E) a0 r39)) K (fun H hP => jrun_V K dX12_undoes_39 (M_X12_findRows (jl E) (jg E) a0 (1 : Int32) v2 v3 r32 hr39) u_4_151 u_4_148 u_4_150 u_p_24 u_1_13 ⟨ok_X12_findRows, by decide, by decide⟩ rfl (Nat.le_of_ble_eq_true rfl) 0 rfl rfl H hP) hrw [0, 1, 2, 3, 4, 5, 6, 7, 8, 9, 10, 11, 12, 13, 14, 15, 16] rfl (cl_56_s ..) rfl (cl_56_m ..) (ad_M ..) rfl ?_
        refine j_iconst (pc' := 43) (v := (0 : Int32)) K dX12_undoes_42 (by decide) rfl ?_
        refine j_istore (pc' := 45) (lv' := [(4, .int (0 : Int32)), (0, .ref (a0 0)), (1, .int v1), (2, .int v2), (3, .int v3)]) K dX12_undoes_43 (by decide) rfl rfl ?_
        refine j_sub [1, 4, 0] rfl ?_
        exact b_X12_undoes_45 a0 K hrw HR jFU v3 (0 : Int32) r39 h
      · have h := jit hc h
        refine j_iconst (pc' := 27) (v := (-1 : Int32)) K dX12_undoes_26 (by decide) rfl ?_
        obtain rfl := Option.some.inj h
        exact HR _ _ dX12_undoes_27
set_option maxRecDepth 100000 in
set_option maxHeartbeats 4000000 in
theorem M_X12_undoes (l : Launch) (G : jG) (a0 : Nat → Nat) (v1 : Int32) (v2 : Int32) (v3 : Int32) (s0 : MS) {r : Int32 × MS} (h : f_X12_undoes v1 v2 v3 s0 = some r) : MC l yX12_undoes cX12_undoes 8 (some .int) 3 G (jad (wM G a0 s0)) True (wM G a0 s0) (wM G a0 (r.2)) [.ref (a0 0), .int v1, .int v2, .int v3] (some (.int (r.1))) := by
  refine mc_int (by decide +kernel) (Nat.le_of_ble_eq_true rfl) fun E hl hg hA hrw K HR => ?_
  subst hl
  subst hg
  have hrw : jrw E := by rw [hrw]; trivial
  exact b_X12_undoes a0 K hrw HR v1 v2 v3 s0 h
theorem ok_X12_back : yX12_back.cls ≠ "java/lang/invoke/MethodHandle" ∧ yX12_back.cls ≠ "java/lang/invoke/VarHandle" ∧ (parseMethodDescriptor yX12_back.desc).map (fun d => d.parameters.length) = some 3 := ⟨by decide, by decide, by decide +kernel⟩
def f_X12_back_255 (v2 : Int32) (s0 : MS) : Option (Int64 × MS) :=
   jgd v2 25 (
   some (((M_column s0) (Int32.toNatClampNeg v2)), s0))
def f_X12_back_208 (k119 : Int32 → Int32 → Int32 → MS → Option (Int64 × MS)) (v2 : Int32) (v3 : Int32) (v4 : Int32) (v5 : Int64) (s0 : MS) : Option (Int64 × MS) :=
   jbd (f_X12_at (0 : Int32) v4 v4) (fun r223 =>
   jgd r223 650 (
    jgd v4 25 (
     jgd v4 25 (
      jbd (f_X12_isBeyond ((M_column (M_column_s s0 (vp_updL (M_column s0) (Int32.toNatClampNeg v4) ((-((M_cell s0) (Int32.toNatClampNeg r223))) * v5)))) (Int32.toNatClampNeg v4))) (fun r239 =>
       if r239 = 0 then
        k119 v2 v3 (v4 + (1 : Int32)) (M_column_s s0 (vp_updL (M_column s0) (Int32.toNatClampNeg v4) ((-((M_cell s0) (Int32.toNatClampNeg r223))) * v5)))
       else
        some ((-1000000000000000002 : Int64), (M_column_s s0 (vp_updL (M_column s0) (Int32.toNatClampNeg v4) ((-((M_cell s0) (Int32.toNatClampNeg r223))) * v5)))))))))
def f_X12_back_131 (k119 : Int32 → Int32 → Int32 → MS → Option (Int64 × MS)) : Nat → Int32 → Int32 → Int32 → Int64 → Int32 → MS → Option (Int64 × MS)
  | 0, _, _, _, _, _, _ => none
  | n + 1, v2, v3, v4, v5, v7, s0 =>
   if v4 ≤ v7 then
   f_X12_back_208 k119 v2 v3 v4 v5 s0
  else
   jbd (f_X12_at (0 : Int32) v4 v7) (fun r143 =>
    jgd r143 650 (
     if ((M_isGreat s0) (Int32.toNatClampNeg r143)) = 0 then
      jgd r143 650 (
       jgd v7 25 (
        jbd (f_X12_isTooMuch ((M_cell s0) (Int32.toNatClampNeg r143)) ((M_column s0) (Int32.toNatClampNeg v7))) (fun r172 =>
         if r172 = 0 then
          jgd r143 650 (
           jgd v7 25 (
            (f_X12_back_131 k119 n) v2 v3 v4 (v5 + (((M_cell s0) (Int32.toNatClampNeg r143)) * ((M_column s0) (Int32.toNatClampNeg v7)))) (v7 + (1 : Int32)) s0))
         else
          some ((-1000000000000000002 : Int64), s0))))
     else
      some ((-1000000000000000002 : Int64), s0)))
def f_X12_back_119 : Nat → Int32 → Int32 → Int32 → MS → Option (Int64 × MS)
  | 0, _, _, _, _ => none
  | n + 1, v2, v3, v4, s0 =>
   if v2 < v4 then
   f_X12_back_255 v2 s0
  else
   f_X12_back_131 (f_X12_back_119 n) jFU v2 v3 v4 (0 : Int64) v3 s0
def f_X12_back_97 (v2 : Int32) (v3 : Int32) (s0 : MS) : Option (Int64 × MS) :=
   jbd (f_X12_at (0 : Int32) v3 v3) (fun r109 =>
   jgd r109 650 (
    jgd v3 25 (
     f_X12_back_119 jFU v2 v3 (v3 + (1 : Int32)) (M_column_s s0 (vp_updL (M_column s0) (Int32.toNatClampNeg v3) ((M_cell s0) (Int32.toNatClampNeg r109)))))))
def f_X12_back_44 : Nat → Int32 → Int32 → Int32 → MS → Option (Int64 × MS)
  | 0, _, _, _, _ => none
  | n + 1, v2, v3, v4, s0 =>
   if v2 < v4 then
   f_X12_back_97 v2 v3 s0
  else
   jbd (f_X12_at (0 : Int32) v4 v4) (fun r59 =>
    jgd r59 650 (
     if ((M_isGreat s0) (Int32.toNatClampNeg r59)) = 0 then
      jbd (f_X12_at (0 : Int32) v4 v4) (fun r75 =>
       jgd r75 650 (
        jbd (f_X12_size ((M_cell s0) (Int32.toNatClampNeg r75))) (fun r79 =>
         if (lg_cmp r79 (1 : Int64)) = 0 then
          (f_X12_back_44 n) v2 v3 (v4 + (1 : Int32)) s0
         else
          some ((-1000000000000000002 : Int64), s0))))
     else
      some ((-1000000000000000002 : Int64), s0)))
def f_X12_back (v1 : Int32) (v2 : Int32) (v3 : Int32) (s0 : MS) : Option (Int64 × MS) :=
   jbd (f_X12_isLaw v1) (fun r1 =>
   if r1 = 0 then
    some ((-1000000000000000001 : Int64), s0)
   else
    jbd (f_X12_in (Int32.toInt64 v2) (0 : Int64) (24 : Int64)) (fun r13 =>
     if r13 = 0 then
      some ((-1000000000000000001 : Int64), s0)
     else
      jbd (f_X12_in (Int32.toInt64 v3) (0 : Int64) (Int32.toInt64 v2)) (fun r24 =>
       if r24 = 0 then
        some ((-1000000000000000001 : Int64), s0)
       else
        jbd (f_X12_findRows (0 : Int32) v1 v2 s0) (fun r38 =>
         f_X12_back_44 jFU v2 v3 (0 : Int32) r38))))
set_option maxRecDepth 100000 in
set_option maxHeartbeats 4000000 in
theorem b_X12_back_255 {E : jE} (a0 : Nat → Nat) {res : Int64 × MS} (K : jC E cX12_back 9 RX12 3) (hrw : jrw E) (HR : jRL E cX12_back 9 (wM (jg E) a0 (res.2)) (res.1)) : ∀ (v2 : Int32) (s0 : MS), f_X12_back_255 v2 s0 = some res → J E 9 (wM (jg E) a0 s0) 255 [(0, .ref (a0 0)), (2, .int v2)] [] := by
  intro v2 s0 h
  unfold f_X12_back_255 at h
  refine j_aload_n (pc' := 256) K dX12_back_255 rfl 0 rfl rfl ?_
  refine j_get (pc' := 259) K dX12_back_256 inX12 0 rfl rfl 11 (by decide) u_4_46 rfl rfl rfl ?_
  refine j_iload_n (pc' := 260) K dX12_back_259 rfl 1 rfl rfl ?_
  obtain ⟨hg, h⟩ := jgd_some h
  refine j_lald (pc' := 261) K dX12_back_260 8 rfl hg rfl ?_
  obtain rfl := Option.some.inj h
  exact HR _ _ dX12_back_261
set_option maxRecDepth 100000 in
set_option maxHeartbeats 4000000 in
theorem b_X12_back_208 {E : jE} (a0 : Nat → Nat) {res : Int64 × MS} (K : jC E cX12_back 9 RX12 3) (hrw : jrw E) (HR : jRL E cX12_back 9 (wM (jg E) a0 (res.2)) (res.1)) (k119 : Int32 → Int32 → Int32 → MS → Option (Int64 × MS)) (hk119 : ∀ (v2 : Int32) (v3 : Int32) (v4 : Int32) (s0 : MS), k119 v2 v3 v4 s0 = some res → J E 9 (wM (jg E) a0 s0) 119 [(0, .ref (a0 0)), (2, .int v2), (3, .int v3), (4, .int v4)] []) : ∀ (v2 : Int32) (v3 : Int32) (v4 : Int32) (v5 : Int64) (s0 : MS), f_X12_back_208 k119 v2 v3 v4 v5 s0 = some res → J E 9 (wM (jg E) a0 s0) 208 [(0, .ref (a0 0)), (2, .int v2), (3, .int v3), (4, .int v4), (5, .long v5)] [] := by
  intro v2 v3 v4 v5 s0 h
  unfold f_X12_back_208 at h
  refine j_aload_n (pc' := 209) K dX12_back_208 rfl 0 rfl rfl ?_
  refine j_get (pc' := 212) K dX12_back_209 inX12 0 rfl rfl 11 (by decide) u_4_46 rfl rfl rfl ?_
  refine j_iload (pc' := 214) K dX12_back_212 3 rfl rfl ?_
  refine j_aload_n (pc' := 215) K dX12_back_214 rfl 0 rfl rfl ?_
  refine j_get (pc' := 218) K dX12_back_215 inX12 0 rfl rfl 8 (by decide) u_4_43 rfl rfl rfl ?_
  refine j_iconst (pc' := 219) (v := (0 : Int32)) K dX12_back_218 (by decide) rfl ?_
  refine j_iload (pc' := 221) K dX12_back_219 3 rfl rfl ?_
  refine j_iload (pc' := 223) K dX12_back_221 3 rfl rfl ?_
  obtain ⟨r223, hr223, h⟩ := jbd_some h
  refine j_ro (pc' := 226) K (fun H hP => jrun_S K dX12_back_223 (M_X12_at (jl E) (jg E) (0 : Int32) v4 v4 hr223) u_4_154 u_4_152 u_4_153 u_1_13 ⟨ok_X12_at, by decide, by decide⟩ rfl (Nat.le_of_ble_eq_true rfl) H) [] rfl rfl ?_
  obtain ⟨hg, h⟩ := jgd_some h
  refine j_lald (pc' := 227) K dX12_back_226 5 rfl hg rfl ?_
  refine j_lneg (pc' := 228) K dX12_back_227 rfl ?_
  refine j_lload (pc' := 230) K dX12_back_228 4 rfl rfl ?_
  refine j_lmul (pc' := 231) K dX12_back_230 rfl ?_
  obtain ⟨hg, h⟩ := jgd_some h
  refine j_last (pc' := 232) (ws' := (wM (jg E) a0 (M_column_s s0 (vp_updL (M_column s0) (Int32.toNatClampNeg v4) ((-((M_cell s0) (Int32.toNatClampNeg r223))) * v5))))) K dX12_back_231 hrw 8 rfl hg (st_M_8 ..) rfl ?_
  refine j_aload_n (pc' := 233) K dX12_back_232 rfl 0 rfl rfl ?_
  refine j_get (pc' := 236) K dX12_back_233 inX12 0 rfl rfl 11 (by decide) u_4_46 rfl rfl rfl ?_
  refine j_iload (pc' := 238) K dX12_back_236 3 rfl rfl ?_
  obtain ⟨hg, h⟩ := jgd_some h
  refine j_lald (pc' := 239) K dX12_back_238 8 rfl hg rfl ?_
  obtain ⟨r239, hr239, h⟩ := jbd_some h
  refine j_ro (pc' := 242) K (fun H hP => jrun_S K dX12_back_239 (M_X12_isBeyond (jl E) (jg E) ((M_column (M_column_s s0 (vp_updL (M_column s0) (Int32.toNatClampNeg v4) ((-((M_cell s0) (Int32.toNatClampNeg r223))) * v5)))) (Int32.toNatClampNeg v4)) hr239) u_4_168 u_4_166 u_4_167 u_1_13 ⟨ok_X12_isBeyond, by decide, by decide⟩ rfl (Nat.le_of_ble_eq_true rfl) H) [] rfl rfl ?_
  refine j_if_eq (pc' := 245) (tgt := 249) K dX12_back_242 (by decide) rfl (fun hc => ?_) (fun hc => ?_)
  · have h := jit hc h
    refine j_iinc (pc' := 252) (j := 3) (v := (v4 + (1 : Int32))) (lv' := [(4, .int (v4 + (1 : Int32))), (0, .ref (a0 0)), (2, .int v2), (3, .int v3), (5, .long v5)]) K dX12_back_249 rfl rfl (by decide) rfl rfl ?_
    refine j_goto (tgt := 119) K dX12_back_252 (by decide) ?_
    refine j_sub [1, 2, 3, 0] rfl ?_
    exact hk119 v2 v3 (v4 + (1 : Int32)) (M_column_s s0 (vp_updL (M_column s0) (Int32.toNatClampNeg v4) ((-((M_cell s0) (Int32.toNatClampNeg r223))) * v5))) h
  · have h := jif hc h
    refine j_ldc2 (pc' := 248) K dX12_back_245 u_4_170 rfl ?_
    obtain rfl := Option.some.inj h
    exact HR _ _ dX12_back_248
set_option maxRecDepth 100000 in
set_option maxHeartbeats 4000000 in
theorem b_X12_back_131 {E : jE} (a0 : Nat → Nat) {res : Int64 × MS} (K : jC E cX12_back 9 RX12 3) (hrw : jrw E) (HR : jRL E cX12_back 9 (wM (jg E) a0 (res.2)) (res.1)) (k119 : Int32 → Int32 → Int32 → MS → Option (Int64 × MS)) (hk119 : ∀ (v2 : Int32) (v3 : Int32) (v4 : Int32) (s0 : MS), k119 v2 v3 v4 s0 = some res → J E 9 (wM (jg E) a0 s0) 119 [(0, .ref (a0 0)), (2, .int v2), (3, .int v3), (4, .int v4)] []) : ∀ (n : Nat) (v2 : Int32) (v3 : Int32) (v4 : Int32) (v5 : Int64) (v7 : Int32) (s0 : MS), f_X12_back_131 k119 n v2 v3 v4 v5 v7 s0 = some res → J E 9 (wM (jg E) a0 s0) 131 [(0, .ref (a0 0)), (2, .int v2), (3, .int v3), (4, .int v4), (5, .long v5), (7, .int v7)] [] := by
  intro n
  induction n with
  | zero => intro _ _ _ _ _ _ h; cases h
  | succ n ih =>
    intro v2 v3 v4 v5 v7 s0 h
    rw [f_X12_back_131] at h
    refine j_iload (pc' := 133) K dX12_back_131 5 rfl rfl ?_
    refine j_iload (pc' := 135) K dX12_back_133 3 rfl rfl ?_
    refine j_icmp_ge (pc' := 138) (tgt := 208) K dX12_back_135 (by decide) rfl (fun hc => ?_) (fun hc => ?_)
    · have h := jit hc h
      refine j_sub [0, 1, 2, 3, 4] rfl ?_
      exact b_X12_back_208 a0 K hrw HR k119 hk119 v2 v3 v4 v5 s0 h
    · have h := jif hc h
      refine j_iconst (pc' := 139) (v := (0 : Int32)) K dX12_back_138 (by decide) rfl ?_
      refine j_iload (pc' := 141) K dX12_back_139 3 rfl rfl ?_
      refine j_iload (pc' := 143) K dX12_back_141 5 rfl rfl ?_
      obtain ⟨r143, hr143, h⟩ := jbd_some h
      refine j_ro (pc' := 146) K (fun H hP => jrun_S K dX12_back_143 (M_X12_at (jl E) (jg E) (0 : Int32) v4 v7 hr143) u_4_154 u_4_152 u_4_153 u_1_13 ⟨ok_X12_at, by decide, by decide⟩ rfl (Nat.le_of_ble_eq_true rfl) H) [] rfl rfl ?_
      refine j_istore (pc' := 148) (lv' := [(8, .int r143), (0, .ref (a0 0)), (2, .int v2), (3, .int v3), (4, .int v4), (5, .long v5), (7, .int v7)]) K dX12_back_146 (by decide) rfl rfl ?_
      refine j_aload_n (pc' := 149) K dX12_back_148 rfl 1 rfl rfl ?_
      refine j_get (pc' := 152) K dX12_back_149 inX12 0 rfl rfl 9 (by decide) u_4_44 rfl rfl rfl ?_
      refine j_iload (pc' := 154) K dX12_back_152 0 rfl rfl ?_
      obtain ⟨hg, h⟩ := jgd_some h
      refine j_zald (pc' := 155) K dX12_back_154 6 rfl hg rfl ?_
      refine j_if_ne (pc' := 158) (tgt := 178) K dX12_back_155 (by decide) rfl (fun hc => ?_) (fun hc => ?_)
      · have h := jif hc h
        refine j_ldc2 (pc' := 181) K dX12_back_178 u_4_170 rfl ?_
        obtain rfl := Option.some.inj h
        exact HR _ _ dX12_back_181
      · have h := jit hc h
        refine j_aload_n (pc' := 159) K dX12_back_158 rfl 1 rfl rfl ?_
        refine j_get (pc' := 162) K dX12_back_159 inX12 0 rfl rfl 8 (by decide) u_4_43 rfl rfl rfl ?_
        refine j_iload (pc' := 164) K dX12_back_162 0 rfl rfl ?_
        obtain ⟨hg, h⟩ := jgd_some h
        refine j_lald (pc' := 165) K dX12_back_164 5 rfl hg rfl ?_
        refine j_aload_n (pc' := 166) K dX12_back_165 rfl 1 rfl rfl ?_
        refine j_get (pc' := 169) K dX12_back_166 inX12 0 rfl rfl 11 (by decide) u_4_46 rfl rfl rfl ?_
        refine j_iload (pc' := 171) K dX12_back_169 6 rfl rfl ?_
        obtain ⟨hg, h⟩ := jgd_some h
        refine j_lald (pc' := 172) K dX12_back_171 8 rfl hg rfl ?_
        obtain ⟨r172, hr172, h⟩ := jbd_some h
        refine j_ro (pc' := 175) K (fun H hP => jrun_S K dX12_back_172 (M_X12_isTooMuch (jl E) (jg E) ((M_cell s0) (Int32.toNatClampNeg r143)) ((M_column s0) (Int32.toNatClampNeg v7)) hr172) u_4_161 u_4_159 u_4_160 u_1_13 ⟨ok_X12_isTooMuch, by decide, by decide⟩ rfl (Nat.le_of_ble_eq_true rfl) H) [] rfl rfl ?_
        refine j_if_eq (pc' := 178) (tgt := 182) K dX12_back_175 (by decide) rfl (fun hc => ?_) (fun hc => ?_)
        · have h := jit hc h
          refine j_lload (pc' := 184) K dX12_back_182 5 rfl rfl ?_
          refine j_aload_n (pc' := 185) K dX12_back_184 rfl 1 rfl rfl ?_
          refine j_get (pc' := 188) K dX12_back_185 inX12 0 rfl rfl 8 (by decide) u_4_43 rfl rfl rfl ?_
          refine j_iload (pc' := 190) K dX12_back_188 0 rfl rfl ?_
          obtain ⟨hg, h⟩ := jgd_some h
          refine j_lald (pc' := 191) K dX12_back_190 5 rfl hg rfl ?_
          refine j_aload_n (pc' := 192) K dX12_back_191 rfl 1 rfl rfl ?_
          refine j_get (pc' := 195) K dX12_back_192 inX12 0 rfl rfl 11 (by decide) u_4_46 rfl rfl rfl ?_
          refine j_iload (pc' := 197) K dX12_back_195 6 rfl rfl ?_
          obtain ⟨hg, h⟩ := jgd_some h
          refine j_lald (pc' := 198) K dX12_back_197 8 rfl hg rfl ?_
          refine j_lmul (pc' := 199) K dX12_back_198 rfl ?_
          refine j_ladd (pc' := 200) K dX12_back_199 rfl ?_
          refine j_lstore (pc' := 202) (lv' := [(5, .long (v5 + (((M_cell s0) (Int32.toNatClampNeg r143)) * ((M_column s0) (Int32.toNatClampNeg v7))))), (8, .int r143), (0, .ref (a0 0)), (2, .int v2), (3, .int v3), (4, .int v4), (7, .int v7)]) K dX12_back_200 (by decide) rfl rfl ?_
          refine j_iinc (pc' := 205) (j := 6) (v := (v7 + (1 : Int32))) (lv' := [(7, .int (v7 + (1 : Int32))), (5, .long (v5 + (((M_cell s0) (Int32.toNatClampNeg r143)) * ((M_column s0) (Int32.toNatClampNeg v7))))), (8, .int r143), (0, .ref (a0 0)), (2, .int v2), (3, .int v3), (4, .int v4)]) K dX12_back_202 rfl rfl (by decide) rfl rfl ?_
          refine j_goto (tgt := 131) K dX12_back_205 (by decide) ?_
          refine j_sub [3, 4, 5, 6, 1, 0] rfl ?_
          exact ih v2 v3 v4 (v5 + (((M_cell s0) (Int32.toNatClampNeg r143)) * ((M_column s0) (Int32.toNatClampNeg v7)))) (v7 + (1 : Int32)) s0 h
        · have h := jif hc h
          refine j_ldc2 (pc' := 181) K dX12_back_178 u_4_170 rfl ?_
          obtain rfl := Option.some.inj h
          exact HR _ _ dX12_back_181
set_option maxRecDepth 100000 in
set_option maxHeartbeats 4000000 in
theorem b_X12_back_119 {E : jE} (a0 : Nat → Nat) {res : Int64 × MS} (K : jC E cX12_back 9 RX12 3) (hrw : jrw E) (HR : jRL E cX12_back 9 (wM (jg E) a0 (res.2)) (res.1)) : ∀ (n : Nat) (v2 : Int32) (v3 : Int32) (v4 : Int32) (s0 : MS), f_X12_back_119 n v2 v3 v4 s0 = some res → J E 9 (wM (jg E) a0 s0) 119 [(0, .ref (a0 0)), (2, .int v2), (3, .int v3), (4, .int v4)] [] := by
  intro n
  induction n with
  | zero => intro _ _ _ _ h; cases h
  | succ n ih =>
    intro v2 v3 v4 s0 h
    rw [f_X12_back_119] at h
    refine j_iload (pc' := 121) K dX12_back_119 3 rfl rfl ?_
    refine j_iload_n (pc' := 122) K dX12_back_121 rfl 1 rfl rfl ?_
    refine j_icmp_gt (pc' := 125) (tgt := 255) K dX12_back_122 (by decide) rfl (fun hc => ?_) (fun hc => ?_)
    · have h := jit hc h
      refine j_sub [0, 1] rfl ?_
      exact b_X12_back_255 a0 K hrw HR v2 s0 h
    · have h := jif hc h
      refine j_lconst (pc' := 126) (v := (0 : Int64)) K dX12_back_125 (by decide) rfl ?_
      refine j_lstore (pc' := 128) (lv' := [(5, .long (0 : Int64)), (0, .ref (a0 0)), (2, .int v2), (3, .int v3), (4, .int v4)]) K dX12_back_126 (by decide) rfl rfl ?_
      refine j_iload_n (pc' := 129) K dX12_back_128 rfl 3 rfl rfl ?_
      refine j_istore (pc' := 131) (lv' := [(7, .int v3), (5, .long (0 : Int64)), (0, .ref (a0 0)), (2, .int v2), (3, .int v3), (4, .int v4)]) K dX12_back_129 (by decide) rfl rfl ?_
      refine j_sub [2, 3, 4, 5, 1, 0] rfl ?_
      exact b_X12_back_131 a0 K hrw HR (f_X12_back_119 n) (ih) jFU v2 v3 v4 (0 : Int64) v3 s0 h
set_option maxRecDepth 100000 in
set_option maxHeartbeats 4000000 in
theorem b_X12_back_97 {E : jE} (a0 : Nat → Nat) {res : Int64 × MS} (K : jC E cX12_back 9 RX12 3) (hrw : jrw E) (HR : jRL E cX12_back 9 (wM (jg E) a0 (res.2)) (res.1)) : ∀ (v2 : Int32) (v3 : Int32) (s0 : MS), f_X12_back_97 v2 v3 s0 = some res → J E 9 (wM (jg E) a0 s0) 97 [(0, .ref (a0 0)), (2, .int v2), (3, .int v3)] [] := by
  intro v2 v3 s0 h
  unfold f_X12_back_97 at h
  refine j_aload_n (pc' := 98) K dX12_back_97 rfl 0 rfl rfl ?_
  refine j_get (pc' := 101) K dX12_back_98 inX12 0 rfl rfl 11 (by decide) u_4_46 rfl rfl rfl ?_
  refine j_iload_n (pc' := 102) K dX12_back_101 rfl 2 rfl rfl ?_
  refine j_aload_n (pc' := 103) K dX12_back_102 rfl 0 rfl rfl ?_
  refine j_get (pc' := 106) K dX12_back_103 inX12 0 rfl rfl 8 (by decide) u_4_43 rfl rfl rfl ?_
  refine j_iconst (pc' := 107) (v := (0 : Int32)) K dX12_back_106 (by decide) rfl ?_
  refine j_iload_n (pc' := 108) K dX12_back_107 rfl 2 rfl rfl ?_
  refine j_iload_n (pc' := 109) K dX12_back_108 rfl 2 rfl rfl ?_
  obtain ⟨r109, hr109, h⟩ := jbd_some h
  refine j_ro (pc' := 112) K (fun H hP => jrun_S K dX12_back_109 (M_X12_at (jl E) (jg E) (0 : Int32) v3 v3 hr109) u_4_154 u_4_152 u_4_153 u_1_13 ⟨ok_X12_at, by decide, by decide⟩ rfl (Nat.le_of_ble_eq_true rfl) H) [] rfl rfl ?_
  obtain ⟨hg, h⟩ := jgd_some h
  refine j_lald (pc' := 113) K dX12_back_112 5 rfl hg rfl ?_
  obtain ⟨hg, h⟩ := jgd_some h
  refine j_last (pc' := 114) (ws' := (wM (jg E) a0 (M_column_s s0 (vp_updL (M_column s0) (Int32.toNatClampNeg v3) ((M_cell s0) (Int32.toNatClampNeg r109)))))) K dX12_back_113 hrw 8 rfl hg (st_M_8 ..) rfl ?_
  refine j_iload_n (pc' := 115) K dX12_back_114 rfl 2 rfl rfl ?_
  refine j_iconst (pc' := 116) (v := (1 : Int32)) K dX12_back_115 (by decide) rfl ?_
  refine j_iadd (pc' := 117) K dX12_back_116 rfl ?_
  refine j_istore (pc' := 119) (lv' := [(4, .int (v3 + (1 : Int32))), (0, .ref (a0 0)), (2, .int v2), (3, .int v3)]) K dX12_back_117 (by decide) rfl rfl ?_
  refine j_sub [1, 2, 3, 0] rfl ?_
  exact b_X12_back_119 a0 K hrw HR jFU v2 v3 (v3 + (1 : Int32)) (M_column_s s0 (vp_updL (M_column s0) (Int32.toNatClampNeg v3) ((M_cell s0) (Int32.toNatClampNeg r109)))) h
set_option maxRecDepth 100000 in
set_option maxHeartbeats 4000000 in
theorem b_X12_back_44 {E : jE} (a0 : Nat → Nat) {res : Int64 × MS} (K : jC E cX12_back 9 RX12 3) (hrw : jrw E) (HR : jRL E cX12_back 9 (wM (jg E) a0 (res.2)) (res.1)) : ∀ (n : Nat) (v2 : Int32) (v3 : Int32) (v4 : Int32) (s0 : MS), f_X12_back_44 n v2 v3 v4 s0 = some res → J E 9 (wM (jg E) a0 s0) 44 [(0, .ref (a0 0)), (2, .int v2), (3, .int v3), (4, .int v4)] [] := by
  intro n
  induction n with
  | zero => intro _ _ _ _ h; cases h
  | succ n ih =>
    intro v2 v3 v4 s0 h
    rw [f_X12_back_44] at h
    refine j_iload (pc' := 46) K dX12_back_44 3 rfl rfl ?_
    refine j_iload_n (pc' := 47) K dX12_back_46 rfl 1 rfl rfl ?_
    refine j_icmp_gt (pc' := 50) (tgt := 97) K dX12_back_47 (by decide) rfl (fun hc => ?_) (fun hc => ?_)
    · have h := jit hc h
      refine j_sub [0, 1, 2] rfl ?_
      exact b_X12_back_97 a0 K hrw HR v2 v3 s0 h
    · have h := jif hc h
      refine j_aload_n (pc' := 51) K dX12_back_50 rfl 0 rfl rfl ?_
      refine j_get (pc' := 54) K dX12_back_51 inX12 0 rfl rfl 9 (by decide) u_4_44 rfl rfl rfl ?_
      refine j_iconst (pc' := 55) (v := (0 : Int32)) K dX12_back_54 (by decide) rfl ?_
      refine j_iload (pc' := 57) K dX12_back_55 3 rfl rfl ?_
      refine j_iload (pc' := 59) K dX12_back_57 3 rfl rfl ?_
      obtain ⟨r59, hr59, h⟩ := jbd_some h
      refine j_ro (pc' := 62) K (fun H hP => jrun_S K dX12_back_59 (M_X12_at (jl E) (jg E) (0 : Int32) v4 v4 hr59) u_4_154 u_4_152 u_4_153 u_1_13 ⟨ok_X12_at, by decide, by decide⟩ rfl (Nat.le_of_ble_eq_true rfl) H) [] rfl rfl ?_
      obtain ⟨hg, h⟩ := jgd_some h
      refine j_zald (pc' := 63) K dX12_back_62 6 rfl hg rfl ?_
      refine j_if_ne (pc' := 66) (tgt := 87) K dX12_back_63 (by decide) rfl (fun hc => ?_) (fun hc => ?_)
      · have h := jif hc h
        refine j_ldc2 (pc' := 90) K dX12_back_87 u_4_170 rfl ?_
        obtain rfl := Option.some.inj h
        exact HR _ _ dX12_back_90
      · have h := jit hc h
        refine j_aload_n (pc' := 67) K dX12_back_66 rfl 0 rfl rfl ?_
        refine j_get (pc' := 70) K dX12_back_67 inX12 0 rfl rfl 8 (by decide) u_4_43 rfl rfl rfl ?_
        refine j_iconst (pc' := 71) (v := (0 : Int32)) K dX12_back_70 (by decide) rfl ?_
        refine j_iload (pc' := 73) K dX12_back_71 3 rfl rfl ?_
        refine j_iload (pc' := 75) K dX12_back_73 3 rfl rfl ?_
        obtain ⟨r75, hr75, h⟩ := jbd_some h
        refine j_ro (pc' := 78) K (fun H hP => jrun_S K dX12_back_75 (M_X12_at (jl E) (jg E) (0 : Int32) v4 v4 hr75) u_4_154 u_4_152 u_4_153 u_1_13 ⟨ok_X12_at, by decide, by decide⟩ rfl (Nat.le_of_ble_eq_true rfl) H) [] rfl rfl ?_
        obtain ⟨hg, h⟩ := jgd_some h
        refine j_lald (pc' := 79) K dX12_back_78 5 rfl hg rfl ?_
        obtain ⟨r79, hr79, h⟩ := jbd_some h
        refine j_ro (pc' := 82) K (fun H hP => jrun_S K dX12_back_79 (M_X12_size (jl E) (jg E) ((M_cell s0) (Int32.toNatClampNeg r75)) hr79) u_4_164 u_4_162 u_4_163 u_1_13 ⟨ok_X12_size, by decide, by decide⟩ rfl (Nat.le_of_ble_eq_true rfl) H) [] rfl rfl ?_
        refine j_lconst (pc' := 83) (v := (1 : Int64)) K dX12_back_82 (by decide) rfl ?_
        refine j_lcmp (pc' := 84) K dX12_back_83 rfl ?_
        refine j_if_eq (pc' := 87) (tgt := 91) K dX12_back_84 (by decide) rfl (fun hc => ?_) (fun hc => ?_)
        · have h := jit hc h
          refine j_iinc (pc' := 94) (j := 3) (v := (v4 + (1 : Int32))) (lv' := [(4, .int (v4 + (1 : Int32))), (0, .ref (a0 0)), (2, .int v2), (3, .int v3)]) K dX12_back_91 rfl rfl (by decide) rfl rfl ?_
          refine j_goto (tgt := 44) K dX12_back_94 (by decide) ?_
          refine j_sub [1, 2, 3, 0] rfl ?_
          exact ih v2 v3 (v4 + (1 : Int32)) s0 h
        · have h := jif hc h
          refine j_ldc2 (pc' := 90) K dX12_back_87 u_4_170 rfl ?_
          obtain rfl := Option.some.inj h
          exact HR _ _ dX12_back_90
set_option maxRecDepth 100000 in
set_option maxHeartbeats 4000000 in
theorem b_X12_back {E : jE} (a0 : Nat → Nat) {res : Int64 × MS} (K : jC E cX12_back 9 RX12 3) (hrw : jrw E) (HR : jRL E cX12_back 9 (wM (jg E) a0 (res.2)) (res.1)) : ∀ (v1 : Int32) (v2 : Int32) (v3 : Int32) (s0 : MS), f_X12_back v1 v2 v3 s0 = some res → J E 9 (wM (jg E) a0 s0) 0 [(0, .ref (a0 0)), (1, .int v1), (2, .int v2), (3, .int v3)] [] := by
  intro v1 v2 v3 s0 h
  unfold f_X12_back at h
  refine j_iload_n (pc' := 1) K dX12_back_0 rfl 1 rfl rfl ?_
  obtain ⟨r1, hr1, h⟩ := jbd_some h
  refine j_ro (pc' := 4) K (fun H hP => jrun_S K dX12_back_1 (M_X12_isLaw (jl E) (jg E) v1 hr1) u_4_140 u_4_138 u_4_139 u_1_13 ⟨ok_X12_isLaw, by decide, by decide⟩ rfl (Nat.le_of_ble_eq_true rfl) H) [] rfl rfl ?_
  refine j_if_eq (pc' := 7) (tgt := 30) K dX12_back_4 (by decide) rfl (fun hc => ?_) (fun hc => ?_)
  · have h := jit hc h
    refine j_ldc2 (pc' := 33) K dX12_back_30 u_4_147 rfl ?_
    obtain rfl := Option.some.inj h
    exact HR _ _ dX12_back_33
  · have h := jif hc h
    refine j_iload_n (pc' := 8) K dX12_back_7 rfl 2 rfl rfl ?_
    refine j_i2l (pc' := 9) K dX12_back_8 rfl ?_
    refine j_lconst (pc' := 10) (v := (0 : Int64)) K dX12_back_9 (by decide) rfl ?_
    refine j_ldc2 (pc' := 13) K dX12_back_10 u_4_146 rfl ?_
    obtain ⟨r13, hr13, h⟩ := jbd_some h
    refine j_ro (pc' := 16) K (fun H hP => jrun_S K dX12_back_13 (M_X12_in (jl E) (jg E) (Int32.toInt64 v2) (0 : Int64) (24 : Int64) hr13) u_4_107 u_4_105 u_4_106 u_1_13 ⟨ok_X12_in, by decide, by decide⟩ rfl (Nat.le_of_ble_eq_true rfl) H) [] rfl rfl ?_
    refine j_if_eq (pc' := 19) (tgt := 30) K dX12_back_16 (by decide) rfl (fun hc => ?_) (fun hc => ?_)
    · have h := jit hc h
      refine j_ldc2 (pc' := 33) K dX12_back_30 u_4_147 rfl ?_
      obtain rfl := Option.some.inj h
      exact HR _ _ dX12_back_33
    · have h := jif hc h
      refine j_iload_n (pc' := 20) K dX12_back_19 rfl 3 rfl rfl ?_
      refine j_i2l (pc' := 21) K dX12_back_20 rfl ?_
      refine j_lconst (pc' := 22) (v := (0 : Int64)) K dX12_back_21 (by decide) rfl ?_
      refine j_iload_n (pc' := 23) K dX12_back_22 rfl 2 rfl rfl ?_
      refine j_i2l (pc' := 24) K dX12_back_23 rfl ?_
      obtain ⟨r24, hr24, h⟩ := jbd_some h
      refine j_ro (pc' := 27) K (fun H hP => jrun_S K dX12_back_24 (M_X12_in (jl E) (jg E) (Int32.toInt64 v3) (0 : Int64) (Int32.toInt64 v2) hr24) u_4_107 u_4_105 u_4_106 u_1_13 ⟨ok_X12_in, by decide, by decide⟩ rfl (Nat.le_of_ble_eq_true rfl) H) [] rfl rfl ?_
      refine j_if_ne (pc' := 30) (tgt := 34) K dX12_back_27 (by decide) rfl (fun hc => ?_) (fun hc => ?_)
      · have h := jif hc h
        refine j_aload_n (pc' := 35) K dX12_back_34 rfl 0 rfl rfl ?_
        refine j_iconst (pc' := 36) (v := (0 : Int32)) K dX12_back_35 (by decide) rfl ?_
        refine j_iload_n (pc' := 37) K dX12_back_36 rfl 1 rfl rfl ?_
        refine j_iload_n (pc' := 38) K dX12_back_37 rfl 2 rfl rfl ?_
        obtain ⟨r38, hr38, h⟩ := jbd_some h
        refine j_rw (pc' := 41) (ws' := (wM (jg E) a0 r38)) K (fun H hP => jrun_V K dX12_back_38 (M_X12_findRows (jl E) (jg E) a0 (0 : Int32) v1 v2 s0 hr38) u_4_151 u_4_148 u_4_150 u_p_24 u_1_13 ⟨ok_X12_findRows, by decide, by decide⟩ rfl (Nat.le_of_ble_eq_true rfl) 0 rfl rfl H hP) hrw [0, 1, 2, 3, 4, 5, 6, 7, 8, 9, 10, 11, 12, 13, 14, 15, 16] rfl (cl_56_s ..) rfl (cl_56_m ..) (ad_M ..) rfl ?_
        refine j_iconst (pc' := 42) (v := (0 : Int32)) K dX12_back_41 (by decide) rfl ?_
        refine j_istore (pc' := 44) (lv' := [(4, .int (0 : Int32)), (0, .ref (a0 0)), (1, .int v1), (2, .int v2), (3, .int v3)]) K dX12_back_42 (by decide) rfl rfl ?_
        refine j_sub [1, 3, 4, 0] rfl ?_
        exact b_X12_back_44 a0 K hrw HR jFU v2 v3 (0 : Int32) r38 h
      · have h := jit hc h
        refine j_ldc2 (pc' := 33) K dX12_back_30 u_4_147 rfl ?_
        obtain rfl := Option.some.inj h
        exact HR _ _ dX12_back_33
set_option maxRecDepth 100000 in
set_option maxHeartbeats 4000000 in
theorem M_X12_back (l : Launch) (G : jG) (a0 : Nat → Nat) (v1 : Int32) (v2 : Int32) (v3 : Int32) (s0 : MS) {r : Int64 × MS} (h : f_X12_back v1 v2 v3 s0 = some r) : MC l yX12_back cX12_back 9 (some .long) 3 G (jad (wM G a0 s0)) True (wM G a0 s0) (wM G a0 (r.2)) [.ref (a0 0), .int v1, .int v2, .int v3] (some (.long (r.1))) := by
  refine mc_long (by decide +kernel) (Nat.le_of_ble_eq_true rfl) fun E hl hg hA hrw K HR => ?_
  subst hl
  subst hg
  have hrw : jrw E := by rw [hrw]; trivial
  exact b_X12_back a0 K hrw HR v1 v2 v3 s0 h
