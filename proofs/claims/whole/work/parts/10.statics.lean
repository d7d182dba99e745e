theorem ok_J9_abs_067f4 : yJ9_abs_067f4.cls ≠ "java/lang/invoke/MethodHandle" ∧ yJ9_abs_067f4.cls ≠ "java/lang/invoke/VarHandle" ∧ (parseMethodDescriptor yJ9_abs_067f4.desc).map (fun d => d.parameters.length) = some 1 := ⟨by decide, by decide, by decide +kernel⟩
def f_J9_abs_067f4 (v0 : Int64) : Option (Int64) :=
   if 0 ≤ (lg_cmp v0 (0 : Int64)) then
   some v0
  else
   some (-v0)
set_option maxRecDepth 100000 in
set_option maxHeartbeats 4000000 in
theorem b_J9_abs_067f4 {E : jE}  {res : Int64} (K : jC E cJ9_abs_067f4 2 RJ9 0) (HR : jRL E cJ9_abs_067f4 2 ([] : va_W) res) : ∀ (v0 : Int64), f_J9_abs_067f4 v0 = some res → J E 2 ([] : va_W) 0 [(0, .long v0)] [] := by
  intro v0 h
  unfold f_J9_abs_067f4 at h
  refine j_lload_n (pc' := 1) K dJ9_abs_067f4_0 rfl 0 rfl rfl ?_
  refine j_lconst (pc' := 2) (v := (0 : Int64)) K dJ9_abs_067f4_1 (by decide) rfl ?_
  refine j_lcmp (pc' := 3) K dJ9_abs_067f4_2 rfl ?_
  refine j_if_ge (pc' := 6) (tgt := 11) K dJ9_abs_067f4_3 (by decide) rfl (fun hc => ?_) (fun hc => ?_)
  · have h := jit hc h
    refine j_lload_n (pc' := 12) K dJ9_abs_067f4_11 rfl 0 rfl rfl ?_
    obtain rfl := Option.some.inj h
    exact HR _ _ dJ9_abs_067f4_12
  · have h := jif hc h
    refine j_lload_n (pc' := 7) K dJ9_abs_067f4_6 rfl 0 rfl rfl ?_
    refine j_lneg (pc' := 8) K dJ9_abs_067f4_7 rfl ?_
    refine j_goto (tgt := 12) K dJ9_abs_067f4_8 (by decide) ?_
    obtain rfl := Option.some.inj h
    exact HR _ _ dJ9_abs_067f4_12
set_option maxRecDepth 100000 in
set_option maxHeartbeats 4000000 in
theorem M_J9_abs_067f4 (l : Launch) (G : jG)  (v0 : Int64) {r : Int64} (h : f_J9_abs_067f4 v0 = some r) : MC l yJ9_abs_067f4 cJ9_abs_067f4 2 (some .long) 0 G jNo False ([] : va_W) ([] : va_W) [.long v0] (some (.long r)) := by
  refine mc_long (by decide +kernel) (Nat.le_of_ble_eq_true rfl) fun E hl hg hA hrw K HR => ?_
  subst hl
  subst hg
  exact b_J9_abs_067f4 K HR v0 h
theorem ok_J9_floorMod_7cf53 : yJ9_floorMod_7cf53.cls ≠ "java/lang/invoke/MethodHandle" ∧ yJ9_floorMod_7cf53.cls ≠ "java/lang/invoke/VarHandle" ∧ (parseMethodDescriptor yJ9_floorMod_7cf53.desc).map (fun d => d.parameters.length) = some 2 := ⟨by decide, by decide, by decide +kernel⟩
def f_J9_floorMod_7cf53 (v0 : Int32) (v1 : Int32) : Option (Int32) :=
   jnz v1 (
   if 0 ≤ (v0 ^^^ v1) then
    some (v0 - v0 / v1 * v1)
   else
    if (v0 - v0 / v1 * v1) = 0 then
     some (v0 - v0 / v1 * v1)
    else
     some ((v0 - v0 / v1 * v1) + v1))
set_option maxRecDepth 100000 in
set_option maxHeartbeats 4000000 in
theorem b_J9_floorMod_7cf53 {E : jE}  {res : Int32} (K : jC E cJ9_floorMod_7cf53 3 RJ9 0) (HR : jRI E cJ9_floorMod_7cf53 3 ([] : va_W) res) : ∀ (v0 : Int32) (v1 : Int32), f_J9_floorMod_7cf53 v0 v1 = some res → J E 3 ([] : va_W) 0 [(0, .int v0), (1, .int v1)] [] := by
  intro v0 v1 h
  unfold f_J9_floorMod_7cf53 at h
  refine j_iload_n (pc' := 1) K dJ9_floorMod_7cf53_0 rfl 0 rfl rfl ?_
  refine j_iload_n (pc' := 2) K dJ9_floorMod_7cf53_1 rfl 1 rfl rfl ?_
  obtain ⟨hg, h⟩ := jnz_some h
  refine j_irem (pc' := 3) K dJ9_floorMod_7cf53_2 hg rfl ?_
  refine j_istore_n (pc' := 4) (lv' := [(2, .int (v0 - v0 / v1 * v1)), (0, .int v0), (1, .int v1)]) K dJ9_floorMod_7cf53_3 rfl (by decide) rfl rfl ?_
  refine j_iload_n (pc' := 5) K dJ9_floorMod_7cf53_4 rfl 1 rfl rfl ?_
  refine j_iload_n (pc' := 6) K dJ9_floorMod_7cf53_5 rfl 2 rfl rfl ?_
  refine j_ixor (pc' := 7) K dJ9_floorMod_7cf53_6 rfl ?_
  refine j_if_ge (pc' := 10) (tgt := 18) K dJ9_floorMod_7cf53_7 (by decide) rfl (fun hc => ?_) (fun hc => ?_)
  · have h := jit hc h
    refine j_iload_n (pc' := 19) K dJ9_floorMod_7cf53_18 rfl 0 rfl rfl ?_
    obtain rfl := Option.some.inj h
    exact HR _ _ dJ9_floorMod_7cf53_19
  · have h := jif hc h
    refine j_iload_n (pc' := 11) K dJ9_floorMod_7cf53_10 rfl 0 rfl rfl ?_
    refine j_if_eq (pc' := 14) (tgt := 18) K dJ9_floorMod_7cf53_11 (by decide) rfl (fun hc => ?_) (fun hc => ?_)
    · have h := jit hc h
      refine j_iload_n (pc' := 19) K dJ9_floorMod_7cf53_18 rfl 0 rfl rfl ?_
      obtain rfl := Option.some.inj h
      exact HR _ _ dJ9_floorMod_7cf53_19
    · have h := jif hc h
      refine j_iload_n (pc' := 15) K dJ9_floorMod_7cf53_14 rfl 0 rfl rfl ?_
      refine j_iload_n (pc' := 16) K dJ9_floorMod_7cf53_15 rfl 2 rfl rfl ?_
      refine j_iadd (pc' := 17) K dJ9_floorMod_7cf53_16 rfl ?_
      obtain rfl := Option.some.inj h
      exact HR _ _ dJ9_floorMod_7cf53_17
set_option maxRecDepth 100000 in
set_option maxHeartbeats 4000000 in
theorem M_J9_floorMod_7cf53 (l : Launch) (G : jG)  (v0 : Int32) (v1 : Int32) {r : Int32} (h : f_J9_floorMod_7cf53 v0 v1 = some r) : MC l yJ9_floorMod_7cf53 cJ9_floorMod_7cf53 3 (some .int) 0 G jNo False ([] : va_W) ([] : va_W) [.int v0, .int v1] (some (.int r)) := by
  refine mc_int (by decide +kernel) (Nat.le_of_ble_eq_true rfl) fun E hl hg hA hrw K HR => ?_
  subst hl
  subst hg
  exact b_J9_floorMod_7cf53 K HR v0 v1 h
theorem ok_J9_max_7cf53 : yJ9_max_7cf53.cls ≠ "java/lang/invoke/MethodHandle" ∧ yJ9_max_7cf53.cls ≠ "java/lang/invoke/VarHandle" ∧ (parseMethodDescriptor yJ9_max_7cf53.desc).map (fun d => d.parameters.length) = some 2 := ⟨by decide, by decide, by decide +kernel⟩
def f_J9_max_7cf53 (v0 : Int32) (v1 : Int32) : Option (Int32) :=
   if v0 < v1 then
   some v1
  else
   some v0
set_option maxRecDepth 100000 in
set_option maxHeartbeats 4000000 in
theorem b_J9_max_7cf53 {E : jE}  {res : Int32} (K : jC E cJ9_max_7cf53 2 RJ9 0) (HR : jRI E cJ9_max_7cf53 2 ([] : va_W) res) : ∀ (v0 : Int32) (v1 : Int32), f_J9_max_7cf53 v0 v1 = some res → J E 2 ([] : va_W) 0 [(0, .int v0), (1, .int v1)] [] := by
  intro v0 v1 h
  unfold f_J9_max_7cf53 at h
  refine j_iload_n (pc' := 1) K dJ9_max_7cf53_0 rfl 0 rfl rfl ?_
  refine j_iload_n (pc' := 2) K dJ9_max_7cf53_1 rfl 1 rfl rfl ?_
  refine j_icmp_lt (pc' := 5) (tgt := 9) K dJ9_max_7cf53_2 (by decide) rfl (fun hc => ?_) (fun hc => ?_)
  · have h := jit hc h
    refine j_iload_n (pc' := 10) K dJ9_max_7cf53_9 rfl 1 rfl rfl ?_
    obtain rfl := Option.some.inj h
    exact HR _ _ dJ9_max_7cf53_10
  · have h := jif hc h
    refine j_iload_n (pc' := 6) K dJ9_max_7cf53_5 rfl 0 rfl rfl ?_
    refine j_goto (tgt := 10) K dJ9_max_7cf53_6 (by decide) ?_
    obtain rfl := Option.some.inj h
    exact HR _ _ dJ9_max_7cf53_10
set_option maxRecDepth 100000 in
set_option maxHeartbeats 4000000 in
theorem M_J9_max_7cf53 (l : Launch) (G : jG)  (v0 : Int32) (v1 : Int32) {r : Int32} (h : f_J9_max_7cf53 v0 v1 = some r) : MC l yJ9_max_7cf53 cJ9_max_7cf53 2 (some .int) 0 G jNo False ([] : va_W) ([] : va_W) [.int v0, .int v1] (some (.int r)) := by
  refine mc_int (by decide +kernel) (Nat.le_of_ble_eq_true rfl) fun E hl hg hA hrw K HR => ?_
  subst hl
  subst hg
  exact b_J9_max_7cf53 K HR v0 v1 h
theorem ok_J9_min_7cf53 : yJ9_min_7cf53.cls ≠ "java/lang/invoke/MethodHandle" ∧ yJ9_min_7cf53.cls ≠ "java/lang/invoke/VarHandle" ∧ (parseMethodDescriptor yJ9_min_7cf53.desc).map (fun d => d.parameters.length) = some 2 := ⟨by decide, by decide, by decide +kernel⟩
def f_J9_min_7cf53 (v0 : Int32) (v1 : Int32) : Option (Int32) :=
   if v1 < v0 then
   some v1
  else
   some v0
set_option maxRecDepth 100000 in
set_option maxHeartbeats 4000000 in
theorem b_J9_min_7cf53 {E : jE}  {res : Int32} (K : jC E cJ9_min_7cf53 2 RJ9 0) (HR : jRI E cJ9_min_7cf53 2 ([] : va_W) res) : ∀ (v0 : Int32) (v1 : Int32), f_J9_min_7cf53 v0 v1 = some res → J E 2 ([] : va_W) 0 [(0, .int v0), (1, .int v1)] [] := by
  intro v0 v1 h
  unfold f_J9_min_7cf53 at h
  refine j_iload_n (pc' := 1) K dJ9_min_7cf53_0 rfl 0 rfl rfl ?_
  refine j_iload_n (pc' := 2) K dJ9_min_7cf53_1 rfl 1 rfl rfl ?_
  refine j_icmp_gt (pc' := 5) (tgt := 9) K dJ9_min_7cf53_2 (by decide) rfl (fun hc => ?_) (fun hc => ?_)
  · have h := jit hc h
    refine j_iload_n (pc' := 10) K dJ9_min_7cf53_9 rfl 1 rfl rfl ?_
    obtain rfl := Option.some.inj h
    exact HR _ _ dJ9_min_7cf53_10
  · have h := jif hc h
    refine j_iload_n (pc' := 6) K dJ9_min_7cf53_5 rfl 0 rfl rfl ?_
    refine j_goto (tgt := 10) K dJ9_min_7cf53_6 (by decide) ?_
    obtain rfl := Option.some.inj h
    exact HR _ _ dJ9_min_7cf53_10
set_option maxRecDepth 100000 in
set_option maxHeartbeats 4000000 in
theorem M_J9_min_7cf53 (l : Launch) (G : jG)  (v0 : Int32) (v1 : Int32) {r : Int32} (h : f_J9_min_7cf53 v0 v1 = some r) : MC l yJ9_min_7cf53 cJ9_min_7cf53 2 (some .int) 0 G jNo False ([] : va_W) ([] : va_W) [.int v0, .int v1] (some (.int r)) := by
  refine mc_int (by decide +kernel) (Nat.le_of_ble_eq_true rfl) fun E hl hg hA hrw K HR => ?_
  subst hl
  subst hg
  exact b_J9_min_7cf53 K HR v0 v1 h
theorem ok_J6_bitCount_0f7a4 : yJ6_bitCount_0f7a4.cls ≠ "java/lang/invoke/MethodHandle" ∧ yJ6_bitCount_0f7a4.cls ≠ "java/lang/invoke/VarHandle" ∧ (parseMethodDescriptor yJ6_bitCount_0f7a4.desc).map (fun d => d.parameters.length) = some 1 := ⟨by decide, by decide, by decide +kernel⟩
def f_J6_bitCount_0f7a4 (v0 : Int32) : Option (Int32) :=
   some ((((((((v0 - ((jushr v0 (1 : Int32)) &&& (1431655765 : Int32))) &&& (858993459 : Int32)) + ((jushr (v0 - ((jushr v0 (1 : Int32)) &&& (1431655765 : Int32))) (2 : Int32)) &&& (858993459 : Int32))) + (jushr (((v0 - ((jushr v0 (1 : Int32)) &&& (1431655765 : Int32))) &&& (858993459 : Int32)) + ((jushr (v0 - ((jushr v0 (1 : Int32)) &&& (1431655765 : Int32))) (2 : Int32)) &&& (858993459 : Int32))) (4 : Int32))) &&& (252645135 : Int32)) + (jushr (((((v0 - ((jushr v0 (1 : Int32)) &&& (1431655765 : Int32))) &&& (858993459 : Int32)) + ((jushr (v0 - ((jushr v0 (1 : Int32)) &&& (1431655765 : Int32))) (2 : Int32)) &&& (858993459 : Int32))) + (jushr (((v0 - ((jushr v0 (1 : Int32)) &&& (1431655765 : Int32))) &&& (858993459 : Int32)) + ((jushr (v0 - ((jushr v0 (1 : Int32)) &&& (1431655765 : Int32))) (2 : Int32)) &&& (858993459 : Int32))) (4 : Int32))) &&& (252645135 : Int32)) (8 : Int32))) + (jushr ((((((v0 - ((jushr v0 (1 : Int32)) &&& (1431655765 : Int32))) &&& (858993459 : Int32)) + ((jushr (v0 - ((jushr v0 (1 : Int32)) &&& (1431655765 : Int32))) (2 : Int32)) &&& (858993459 : Int32))) + (jushr (((v0 - ((jushr v0 (1 : Int32)) &&& (1431655765 : Int32))) &&& (858993459 : Int32)) + ((jushr (v0 - ((jushr v0 (1 : Int32)) &&& (1431655765 : Int32))) (2 : Int32)) &&& (858993459 : Int32))) (4 : Int32))) &&& (252645135 : Int32)) + (jushr (((((v0 - ((jushr v0 (1 : Int32)) &&& (1431655765 : Int32))) &&& (858993459 : Int32)) + ((jushr (v0 - ((jushr v0 (1 : Int32)) &&& (1431655765 : Int32))) (2 : Int32)) &&& (858993459 : Int32))) + (jushr (((v0 - ((jushr v0 (1 : Int32)) &&& (1431655765 : Int32))) &&& (858993459 : Int32)) + ((jushr (v0 - ((jushr v0 (1 : Int32)) &&& (1431655765 : Int32))) (2 : Int32)) &&& (858993459 : Int32))) (4 : Int32))) &&& (252645135 : Int32)) (8 : Int32))) (16 : Int32))) &&& (63 : Int32))
set_option maxRecDepth 100000 in
set_option maxHeartbeats 4000000 in
theorem b_J6_bitCount_0f7a4 {E : jE}  {res : Int32} (K : jC E cJ6_bitCount_0f7a4 1 RJ6 0) (HR : jRI E cJ6_bitCount_0f7a4 1 ([] : va_W) res) : ∀ (v0 : Int32), f_J6_bitCount_0f7a4 v0 = some res → J E 1 ([] : va_W) 0 [(0, .int v0)] [] := by
  intro v0 h
  unfold f_J6_bitCount_0f7a4 at h
  refine j_iload_n (pc' := 1) K dJ6_bitCount_0f7a4_0 rfl 0 rfl rfl ?_
  refine j_iload_n (pc' := 2) K dJ6_bitCount_0f7a4_1 rfl 0 rfl rfl ?_
  refine j_iconst (pc' := 3) (v := (1 : Int32)) K dJ6_bitCount_0f7a4_2 (by decide) rfl ?_
  refine j_iushr (pc' := 4) K dJ6_bitCount_0f7a4_3 rfl ?_
  refine j_ldcw (pc' := 7) K dJ6_bitCount_0f7a4_4 u_3_32 rfl ?_
  refine j_iand (pc' := 8) K dJ6_bitCount_0f7a4_7 rfl ?_
  refine j_isub (pc' := 9) K dJ6_bitCount_0f7a4_8 rfl ?_
  refine j_istore_n (pc' := 10) (lv' := [(0, .int (v0 - ((jushr v0 (1 : Int32)) &&& (1431655765 : Int32))))]) K dJ6_bitCount_0f7a4_9 rfl (by decide) rfl rfl ?_
  refine j_iload_n (pc' := 11) K dJ6_bitCount_0f7a4_10 rfl 0 rfl rfl ?_
  refine j_ldcw (pc' := 14) K dJ6_bitCount_0f7a4_11 u_3_33 rfl ?_
  refine j_iand (pc' := 15) K dJ6_bitCount_0f7a4_14 rfl ?_
  refine j_iload_n (pc' := 16) K dJ6_bitCount_0f7a4_15 rfl 0 rfl rfl ?_
  refine j_iconst (pc' := 17) (v := (2 : Int32)) K dJ6_bitCount_0f7a4_16 (by decide) rfl ?_
  refine j_iushr (pc' := 18) K dJ6_bitCount_0f7a4_17 rfl ?_
  refine j_ldcw (pc' := 21) K dJ6_bitCount_0f7a4_18 u_3_33 rfl ?_
  refine j_iand (pc' := 22) K dJ6_bitCount_0f7a4_21 rfl ?_
  refine j_iadd (pc' := 23) K dJ6_bitCount_0f7a4_22 rfl ?_
  refine j_istore_n (pc' := 24) (lv' := [(0, .int (((v0 - ((jushr v0 (1 : Int32)) &&& (1431655765 : Int32))) &&& (858993459 : Int32)) + ((jushr (v0 - ((jushr v0 (1 : Int32)) &&& (1431655765 : Int32))) (2 : Int32)) &&& (858993459 : Int32))))]) K dJ6_bitCount_0f7a4_23 rfl (by decide) rfl rfl ?_
  refine j_iload_n (pc' := 25) K dJ6_bitCount_0f7a4_24 rfl 0 rfl rfl ?_
  refine j_iload_n (pc' := 26) K dJ6_bitCount_0f7a4_25 rfl 0 rfl rfl ?_
  refine j_iconst (pc' := 27) (v := (4 : Int32)) K dJ6_bitCount_0f7a4_26 (by decide) rfl ?_
  refine j_iushr (pc' := 28) K dJ6_bitCount_0f7a4_27 rfl ?_
  refine j_iadd (pc' := 29) K dJ6_bitCount_0f7a4_28 rfl ?_
  refine j_ldcw (pc' := 32) K dJ6_bitCount_0f7a4_29 u_3_34 rfl ?_
  refine j_iand (pc' := 33) K dJ6_bitCount_0f7a4_32 rfl ?_
  refine j_istore_n (pc' := 34) (lv' := [(0, .int (((((v0 - ((jushr v0 (1 : Int32)) &&& (1431655765 : Int32))) &&& (858993459 : Int32)) + ((jushr (v0 - ((jushr v0 (1 : Int32)) &&& (1431655765 : Int32))) (2 : Int32)) &&& (858993459 : Int32))) + (jushr (((v0 - ((jushr v0 (1 : Int32)) &&& (1431655765 : Int32))) &&& (858993459 : Int32)) + ((jushr (v0 - ((jushr v0 (1 : Int32)) &&& (1431655765 : Int32))) (2 : Int32)) &&& (858993459 : Int32))) (4 : Int32))) &&& (252645135 : Int32)))]) K dJ6_bitCount_0f7a4_33 rfl (by decide) rfl rfl ?_
  refine j_iload_n (pc' := 35) K dJ6_bitCount_0f7a4_34 rfl 0 rfl rfl ?_
  refine j_iload_n (pc' := 36) K dJ6_bitCount_0f7a4_35 rfl 0 rfl rfl ?_
  refine j_bipush (pc' := 38) (v := (8 : Int32)) K dJ6_bitCount_0f7a4_36 (by decide) rfl ?_
  refine j_iushr (pc' := 39) K dJ6_bitCount_0f7a4_38 rfl ?_
  refine j_iadd (pc' := 40) K dJ6_bitCount_0f7a4_39 rfl ?_
  refine j_istore_n (pc' := 41) (lv' := [(0, .int ((((((v0 - ((jushr v0 (1 : Int32)) &&& (1431655765 : Int32))) &&& (858993459 : Int32)) + ((jushr (v0 - ((jushr v0 (1 : Int32)) &&& (1431655765 : Int32))) (2 : Int32)) &&& (858993459 : Int32))) + (jushr (((v0 - ((jushr v0 (1 : Int32)) &&& (1431655765 : Int32))) &&& (858993459 : Int32)) + ((jushr (v0 - ((jushr v0 (1 : Int32)) &&& (1431655765 : Int32))) (2 : Int32)) &&& (858993459 : Int32))) (4 : Int32))) &&& (252645135 : Int32)) + (jushr (((((v0 - ((jushr v0 (1 : Int32)) &&& (1431655765 : Int32))) &&& (858993459 : Int32)) + ((jushr (v0 - ((jushr v0 (1 : Int32)) &&& (1431655765 : Int32))) (2 : Int32)) &&& (858993459 : Int32))) + (jushr (((v0 - ((jushr v0 (1 : Int32)) &&& (1431655765 : Int32))) &&& (858993459 : Int32)) + ((jushr (v0 - ((jushr v0 (1 : Int32)) &&& (1431655765 : Int32))) (2 : Int32)) &&& (858993459 : Int32))) (4 : Int32))) &&& (252645135 : Int32)) (8 : Int32))))]) K dJ6_bitCount_0f7a4_40 rfl (by decide) rfl rfl ?_
  refine j_iload_n (pc' := 42) K dJ6_bitCount_0f7a4_41 rfl 0 rfl rfl ?_
  refine j_iload_n (pc' := 43) K dJ6_bitCount_0f7a4_42 rfl 0 rfl rfl ?_
  refine j_bipush (pc' := 45) (v := (16 : Int32)) K dJ6_bitCount_0f7a4_43 (by decide) rfl ?_
  refine j_iushr (pc' := 46) K dJ6_bitCount_0f7a4_45 rfl ?_
  refine j_iadd (pc' := 47) K dJ6_bitCount_0f7a4_46 rfl ?_
  refine j_istore_n (pc' := 48) (lv' := [(0, .int (((((((v0 - ((jushr v0 (1 : Int32)) &&& (1431655765 : Int32))) &&& (858993459 : Int32)) + ((jushr (v0 - ((jushr v0 (1 : Int32)) &&& (1431655765 : Int32))) (2 : Int32)) &&& (858993459 : Int32))) + (jushr (((v0 - ((jushr v0 (1 : Int32)) &&& (1431655765 : Int32))) &&& (858993459 : Int32)) + ((jushr (v0 - ((jushr v0 (1 : Int32)) &&& (1431655765 : Int32))) (2 : Int32)) &&& (858993459 : Int32))) (4 : Int32))) &&& (252645135 : Int32)) + (jushr (((((v0 - ((jushr v0 (1 : Int32)) &&& (1431655765 : Int32))) &&& (858993459 : Int32)) + ((jushr (v0 - ((jushr v0 (1 : Int32)) &&& (1431655765 : Int32))) (2 : Int32)) &&& (858993459 : Int32))) + (jushr (((v0 - ((jushr v0 (1 : Int32)) &&& (1431655765 : Int32))) &&& (858993459 : Int32)) + ((jushr (v0 - ((jushr v0 (1 : Int32)) &&& (1431655765 : Int32))) (2 : Int32)) &&& (858993459 : Int32))) (4 : Int32))) &&& (252645135 : Int32)) (8 : Int32))) + (jushr ((((((v0 - ((jushr v0 (1 : Int32)) &&& (1431655765 : Int32))) &&& (858993459 : Int32)) + ((jushr (v0 - ((jushr v0 (1 : Int32)) &&& (1431655765 : Int32))) (2 : Int32)) &&& (858993459 : Int32))) + (jushr (((v0 - ((jushr v0 (1 : Int32)) &&& (1431655765 : Int32))) &&& (858993459 : Int32)) + ((jushr (v0 - ((jushr v0 (1 : Int32)) &&& (1431655765 : Int32))) (2 : Int32)) &&& (858993459 : Int32))) (4 : Int32))) &&& (252645135 : Int32)) + (jushr (((((v0 - ((jushr v0 (1 : Int32)) &&& (1431655765 : Int32))) &&& (858993459 : Int32)) + ((jushr (v0 - ((jushr v0 (1 : Int32)) &&& (1431655765 : Int32))) (2 : Int32)) &&& (858993459 : Int32))) + (jushr (((v0 - ((jushr v0 (1 : Int32)) &&& (1431655765 : Int32))) &&& (858993459 : Int32)) + ((jushr (v0 - ((jushr v0 (1 : Int32)) &&& (1431655765 : Int32))) (2 : Int32)) &&& (858993459 : Int32))) (4 : Int32))) &&& (252645135 : Int32)) (8 : Int32))) (16 : Int32))))]) K dJ6_bitCount_0f7a4_47 rfl (by decide) rfl rfl ?_
  refine j_iload_n (pc' := 49) K dJ6_bitCount_0f7a4_48 rfl 0 rfl rfl ?_
  refine j_bipush (pc' := 51) (v := (63 : Int32)) K dJ6_bitCount_0f7a4_49 (by decide) rfl ?_
  refine j_iand (pc' := 52) K dJ6_bitCount_0f7a4_51 rfl ?_
  obtain rfl := Option.some.inj h
  exact HR _ _ dJ6_bitCount_0f7a4_52
set_option maxRecDepth 100000 in
set_option maxHeartbeats 4000000 in
theorem M_J6_bitCount_0f7a4 (l : Launch) (G : jG)  (v0 : Int32) {r : Int32} (h : f_J6_bitCount_0f7a4 v0 = some r) : MC l yJ6_bitCount_0f7a4 cJ6_bitCount_0f7a4 1 (some .int) 0 G jNo False ([] : va_W) ([] : va_W) [.int v0] (some (.int r)) := by
  refine mc_int (by decide +kernel) (Nat.le_of_ble_eq_true rfl) fun E hl hg hA hrw K HR => ?_
  subst hl
  subst hg
  exact b_J6_bitCount_0f7a4 K HR v0 h
theorem ok_X11_within : yX11_within.cls ≠ "java/lang/invoke/MethodHandle" ∧ yX11_within.cls ≠ "java/lang/invoke/VarHandle" ∧ (parseMethodDescriptor yX11_within.desc).map (fun d => d.parameters.length) = some 3 := ⟨by decide, by decide, by decide +kernel⟩
def f_X11_within (v0 : Int32) (v1 : Int32) (v2 : Int32) : Option (Int32) :=
   if v0 < v1 then
   jzb (0 : Int32) (
    some (0 : Int32))
  else
   if v2 < v0 then
    jzb (0 : Int32) (
     some (0 : Int32))
   else
    jzb (1 : Int32) (
     some (1 : Int32))
set_option maxRecDepth 100000 in
set_option maxHeartbeats 4000000 in
theorem b_X11_within {E : jE}  {res : Int32} (K : jC E cX11_within 3 RX11 0) (HR : jRZ E cX11_within 3 ([] : va_W) res) : ∀ (v0 : Int32) (v1 : Int32) (v2 : Int32), f_X11_within v0 v1 v2 = some res → J E 3 ([] : va_W) 0 [(0, .int v0), (1, .int v1), (2, .int v2)] [] := by
  intro v0 v1 v2 h
  unfold f_X11_within at h
  refine j_iload_n (pc' := 1) K dX11_within_0 rfl 0 rfl rfl ?_
  refine j_iload_n (pc' := 2) K dX11_within_1 rfl 1 rfl rfl ?_
  refine j_icmp_lt (pc' := 5) (tgt := 14) K dX11_within_2 (by decide) rfl (fun hc => ?_) (fun hc => ?_)
  · have h := jit hc h
    refine j_iconst (pc' := 15) (v := (0 : Int32)) K dX11_within_14 (by decide) rfl ?_
    obtain ⟨hg, h⟩ := jzb_some h
    obtain rfl := Option.some.inj h
    exact HR _ _ hg dX11_within_15
  · have h := jif hc h
    refine j_iload_n (pc' := 6) K dX11_within_5 rfl 0 rfl rfl ?_
    refine j_iload_n (pc' := 7) K dX11_within_6 rfl 2 rfl rfl ?_
    refine j_icmp_gt (pc' := 10) (tgt := 14) K dX11_within_7 (by decide) rfl (fun hc => ?_) (fun hc => ?_)
    · have h := jit hc h
      refine j_iconst (pc' := 15) (v := (0 : Int32)) K dX11_within_14 (by decide) rfl ?_
      obtain ⟨hg, h⟩ := jzb_some h
      obtain rfl := Option.some.inj h
      exact HR _ _ hg dX11_within_15
    · have h := jif hc h
      refine j_iconst (pc' := 11) (v := (1 : Int32)) K dX11_within_10 (by decide) rfl ?_
      refine j_goto (tgt := 15) K dX11_within_11 (by decide) ?_
      obtain ⟨hg, h⟩ := jzb_some h
      obtain rfl := Option.some.inj h
      exact HR _ _ hg dX11_within_15
set_option maxRecDepth 100000 in
set_option maxHeartbeats 4000000 in
theorem M_X11_within (l : Launch) (G : jG)  (v0 : Int32) (v1 : Int32) (v2 : Int32) {r : Int32} (h : f_X11_within v0 v1 v2 = some r) : MC l yX11_within cX11_within 3 (some .boolean) 0 G jNo False ([] : va_W) ([] : va_W) [.int v0, .int v1, .int v2] (some (.int r)) := by
  refine mc_bool (by decide +kernel) (Nat.le_of_ble_eq_true rfl) fun E hl hg hA hrw K HR => ?_
  subst hl
  subst hg
  exact b_X11_within K HR v0 v1 v2 h
theorem ok_X11_beyond : yX11_beyond.cls ≠ "java/lang/invoke/MethodHandle" ∧ yX11_beyond.cls ≠ "java/lang/invoke/VarHandle" ∧ (parseMethodDescriptor yX11_beyond.desc).map (fun d => d.parameters.length) = some 2 := ⟨by decide, by decide, by decide +kernel⟩
def f_X11_beyond_13  : Option (Int32) :=
   jzb (1 : Int32) (
   some (1 : Int32))
def f_X11_beyond (v0 : Int64) (v2 : Int64) : Option (Int32) :=
   if 0 < (lg_cmp v0 v2) then
   f_X11_beyond_13
  else
   if 0 ≤ (lg_cmp v0 (-v2)) then
    jzb (0 : Int32) (
     some (0 : Int32))
   else
    f_X11_beyond_13
set_option maxRecDepth 100000 in
set_option maxHeartbeats 4000000 in
theorem b_X11_beyond_13 {E : jE}  {res : Int32} (K : jC E cX11_beyond 4 RX11 0) (HR : jRZ E cX11_beyond 4 ([] : va_W) res) : f_X11_beyond_13 = some res → J E 4 ([] : va_W) 13 [] [] := by
  intro  h
  unfold f_X11_beyond_13 at h
  refine j_iconst (pc' := 14) (v := (1 : Int32)) K dX11_beyond_13 (by decide) rfl ?_
  refine j_goto (tgt := 18) K dX11_beyond_14 (by decide) ?_
  obtain ⟨hg, h⟩ := jzb_some h
  obtain rfl := Option.some.inj h
  exact HR _ _ hg dX11_beyond_18
set_option maxRecDepth 100000 in
set_option maxHeartbeats 4000000 in
theorem b_X11_beyond {E : jE}  {res : Int32} (K : jC E cX11_beyond 4 RX11 0) (HR : jRZ E cX11_beyond 4 ([] : va_W) res) : ∀ (v0 : Int64) (v2 : Int64), f_X11_beyond v0 v2 = some res → J E 4 ([] : va_W) 0 [(0, .long v0), (2, .long v2)] [] := by
  intro v0 v2 h
  unfold f_X11_beyond at h
  refine j_lload_n (pc' := 1) K dX11_beyond_0 rfl 0 rfl rfl ?_
  refine j_lload_n (pc' := 2) K dX11_beyond_1 rfl 1 rfl rfl ?_
  refine j_lcmp (pc' := 3) K dX11_beyond_2 rfl ?_
  refine j_if_gt (pc' := 6) (tgt := 13) K dX11_beyond_3 (by decide) rfl (fun hc => ?_) (fun hc => ?_)
  · have h := jit hc h
    refine j_sub [] rfl ?_
    exact b_X11_beyond_13 K HR h
  · have h := jif hc h
    refine j_lload_n (pc' := 7) K dX11_beyond_6 rfl 0 rfl rfl ?_
    refine j_lload_n (pc' := 8) K dX11_beyond_7 rfl 1 rfl rfl ?_
    refine j_lneg (pc' := 9) K dX11_beyond_8 rfl ?_
    refine j_lcmp (pc' := 10) K dX11_beyond_9 rfl ?_
    refine j_if_ge (pc' := 13) (tgt := 17) K dX11_beyond_10 (by decide) rfl (fun hc => ?_) (fun hc => ?_)
    · have h := jit hc h
      refine j_iconst (pc' := 18) (v := (0 : Int32)) K dX11_beyond_17 (by decide) rfl ?_
      obtain ⟨hg, h⟩ := jzb_some h
      obtain rfl := Option.some.inj h
      exact HR _ _ hg dX11_beyond_18
    · have h := jif hc h
      refine j_sub [] rfl ?_
      exact b_X11_beyond_13 K HR h
set_option maxRecDepth 100000 in
set_option maxHeartbeats 4000000 in
theorem M_X11_beyond (l : Launch) (G : jG)  (v0 : Int64) (v2 : Int64) {r : Int32} (h : f_X11_beyond v0 v2 = some r) : MC l yX11_beyond cX11_beyond 4 (some .boolean) 0 G jNo False ([] : va_W) ([] : va_W) [.long v0, .long v2] (some (.int r)) := by
  refine mc_bool (by decide +kernel) (Nat.le_of_ble_eq_true rfl) fun E hl hg hA hrw K HR => ?_
  subst hl
  subst hg
  exact b_X11_beyond K HR v0 v2 h
theorem ok_X11_digitAt : yX11_digitAt.cls ≠ "java/lang/invoke/MethodHandle" ∧ yX11_digitAt.cls ≠ "java/lang/invoke/VarHandle" ∧ (parseMethodDescriptor yX11_digitAt.desc).map (fun d => d.parameters.length) = some 3 := ⟨by decide, by decide, by decide +kernel⟩
def f_X11_digitAt (v0 : Int32) (v1 : Int32) (v2 : Int32) : Option (Int32) :=
   some ((jushr v0 ((4 : Int32) * ((v1 - (1 : Int32)) - v2))) &&& (15 : Int32))
set_option maxRecDepth 100000 in
set_option maxHeartbeats 4000000 in
theorem b_X11_digitAt {E : jE}  {res : Int32} (K : jC E cX11_digitAt 3 RX11 0) (HR : jRI E cX11_digitAt 3 ([] : va_W) res) : ∀ (v0 : Int32) (v1 : Int32) (v2 : Int32), f_X11_digitAt v0 v1 v2 = some res → J E 3 ([] : va_W) 0 [(0, .int v0), (1, .int v1), (2, .int v2)] [] := by
  intro v0 v1 v2 h
  unfold f_X11_digitAt at h
  refine j_iload_n (pc' := 1) K dX11_digitAt_0 rfl 0 rfl rfl ?_
  refine j_iconst (pc' := 2) (v := (4 : Int32)) K dX11_digitAt_1 (by decide) rfl ?_
  refine j_iload_n (pc' := 3) K dX11_digitAt_2 rfl 1 rfl rfl ?_
  refine j_iconst (pc' := 4) (v := (1 : Int32)) K dX11_digitAt_3 (by decide) rfl ?_
  refine j_isub (pc' := 5) K dX11_digitAt_4 rfl ?_
  refine j_iload_n (pc' := 6) K dX11_digitAt_5 rfl 2 rfl rfl ?_
  refine j_isub (pc' := 7) K dX11_digitAt_6 rfl ?_
  refine j_imul (pc' := 8) K dX11_digitAt_7 rfl ?_
  refine j_iushr (pc' := 9) K dX11_digitAt_8 rfl ?_
  refine j_bipush (pc' := 11) (v := (15 : Int32)) K dX11_digitAt_9 (by decide) rfl ?_
  refine j_iand (pc' := 12) K dX11_digitAt_11 rfl ?_
  obtain rfl := Option.some.inj h
  exact HR _ _ dX11_digitAt_12
set_option maxRecDepth 100000 in
set_option maxHeartbeats 4000000 in
theorem M_X11_digitAt (l : Launch) (G : jG)  (v0 : Int32) (v1 : Int32) (v2 : Int32) {r : Int32} (h : f_X11_digitAt v0 v1 v2 = some r) : MC l yX11_digitAt cX11_digitAt 3 (some .int) 0 G jNo False ([] : va_W) ([] : va_W) [.int v0, .int v1, .int v2] (some (.int r)) := by
  refine mc_int (by decide +kernel) (Nat.le_of_ble_eq_true rfl) fun E hl hg hA hrw K HR => ?_
  subst hl
  subst hg
  exact b_X11_digitAt K HR v0 v1 v2 h
theorem ok_X11_hasDigitsAlone : yX11_hasDigitsAlone.cls ≠ "java/lang/invoke/MethodHandle" ∧ yX11_hasDigitsAlone.cls ≠ "java/lang/invoke/VarHandle" ∧ (parseMethodDescriptor yX11_hasDigitsAlone.desc).map (fun d => d.parameters.length) = some 2 := ⟨by decide, by decide, by decide +kernel⟩
def f_X11_hasDigitsAlone_14  : Option (Int32) :=
   jzb (1 : Int32) (
   some (1 : Int32))
def f_X11_hasDigitsAlone (v0 : Int32) (v1 : Int32) : Option (Int32) :=
   if (8 : Int32) ≤ v1 then
   f_X11_hasDigitsAlone_14
  else
   if (jushr v0 ((4 : Int32) * v1)) = 0 then
    f_X11_hasDigitsAlone_14
   else
    jzb (0 : Int32) (
     some (0 : Int32))
set_option maxRecDepth 100000 in
set_option maxHeartbeats 4000000 in
theorem b_X11_hasDigitsAlone_14 {E : jE}  {res : Int32} (K : jC E cX11_hasDigitsAlone 2 RX11 0) (HR : jRZ E cX11_hasDigitsAlone 2 ([] : va_W) res) : f_X11_hasDigitsAlone_14 = some res → J E 2 ([] : va_W) 14 [] [] := by
  intro  h
  unfold f_X11_hasDigitsAlone_14 at h
  refine j_iconst (pc' := 15) (v := (1 : Int32)) K dX11_hasDigitsAlone_14 (by decide) rfl ?_
  refine j_goto (tgt := 19) K dX11_hasDigitsAlone_15 (by decide) ?_
  obtain ⟨hg, h⟩ := jzb_some h
  obtain rfl := Option.some.inj h
  exact HR _ _ hg dX11_hasDigitsAlone_19
set_option maxRecDepth 100000 in
set_option maxHeartbeats 4000000 in
theorem b_X11_hasDigitsAlone {E : jE}  {res : Int32} (K : jC E cX11_hasDigitsAlone 2 RX11 0) (HR : jRZ E cX11_hasDigitsAlone 2 ([] : va_W) res) : ∀ (v0 : Int32) (v1 : Int32), f_X11_hasDigitsAlone v0 v1 = some res → J E 2 ([] : va_W) 0 [(0, .int v0), (1, .int v1)] [] := by
  intro v0 v1 h
  unfold f_X11_hasDigitsAlone at h
  refine j_iload_n (pc' := 1) K dX11_hasDigitsAlone_0 rfl 1 rfl rfl ?_
  refine j_bipush (pc' := 3) (v := (8 : Int32)) K dX11_hasDigitsAlone_1 (by decide) rfl ?_
  refine j_icmp_ge (pc' := 6) (tgt := 14) K dX11_hasDigitsAlone_3 (by decide) rfl (fun hc => ?_) (fun hc => ?_)
  · have h := jit hc h
    refine j_sub [] rfl ?_
    exact b_X11_hasDigitsAlone_14 K HR h
  · have h := jif hc h
    refine j_iload_n (pc' := 7) K dX11_hasDigitsAlone_6 rfl 0 rfl rfl ?_
    refine j_iconst (pc' := 8) (v := (4 : Int32)) K dX11_hasDigitsAlone_7 (by decide) rfl ?_
    refine j_iload_n (pc' := 9) K dX11_hasDigitsAlone_8 rfl 1 rfl rfl ?_
    refine j_imul (pc' := 10) K dX11_hasDigitsAlone_9 rfl ?_
    refine j_iushr (pc' := 11) K dX11_hasDigitsAlone_10 rfl ?_
    refine j_if_ne (pc' := 14) (tgt := 18) K dX11_hasDigitsAlone_11 (by decide) rfl (fun hc => ?_) (fun hc => ?_)
    · have h := jif hc h
      refine j_iconst (pc' := 19) (v := (0 : Int32)) K dX11_hasDigitsAlone_18 (by decide) rfl ?_
      obtain ⟨hg, h⟩ := jzb_some h
      obtain rfl := Option.some.inj h
      exact HR _ _ hg dX11_hasDigitsAlone_19
    · have h := jit hc h
      refine j_sub [] rfl ?_
      exact b_X11_hasDigitsAlone_14 K HR h
set_option maxRecDepth 100000 in
set_option maxHeartbeats 4000000 in
theorem M_X11_hasDigitsAlone (l : Launch) (G : jG)  (v0 : Int32) (v1 : Int32) {r : Int32} (h : f_X11_hasDigitsAlone v0 v1 = some r) : MC l yX11_hasDigitsAlone cX11_hasDigitsAlone 2 (some .boolean) 0 G jNo False ([] : va_W) ([] : va_W) [.int v0, .int v1] (some (.int r)) := by
  refine mc_bool (by decide +kernel) (Nat.le_of_ble_eq_true rfl) fun E hl hg hA hrw K HR => ?_
  subst hl
  subst hg
  exact b_X11_hasDigitsAlone K HR v0 v1 h
theorem ok_X11_answer : yX11_answer.cls ≠ "java/lang/invoke/MethodHandle" ∧ yX11_answer.cls ≠ "java/lang/invoke/VarHandle" ∧ (parseMethodDescriptor yX11_answer.desc).map (fun d => d.parameters.length) = some 1 := ⟨by decide, by decide, by decide +kernel⟩
def f_X11_answer (v0 : Int64) : Option (Int64) :=
   if (lg_cmp v0 (-9000000000000000000 : Int64)) = 0 then
   some (-1000000000000000002 : Int64)
  else
   some v0
set_option maxRecDepth 100000 in
set_option maxHeartbeats 4000000 in
theorem b_X11_answer {E : jE}  {res : Int64} (K : jC E cX11_answer 2 RX11 0) (HR : jRL E cX11_answer 2 ([] : va_W) res) : ∀ (v0 : Int64), f_X11_answer v0 = some res → J E 2 ([] : va_W) 0 [(0, .long v0)] [] := by
  intro v0 h
  unfold f_X11_answer at h
  refine j_lload_n (pc' := 1) K dX11_answer_0 rfl 0 rfl rfl ?_
  refine j_ldc2 (pc' := 4) K dX11_answer_1 u_2_95 rfl ?_
  refine j_lcmp (pc' := 5) K dX11_answer_4 rfl ?_
  refine j_if_ne (pc' := 8) (tgt := 14) K dX11_answer_5 (by decide) rfl (fun hc => ?_) (fun hc => ?_)
  · have h := jif hc h
    refine j_lload_n (pc' := 15) K dX11_answer_14 rfl 0 rfl rfl ?_
    obtain rfl := Option.some.inj h
    exact HR _ _ dX11_answer_15
  · have h := jit hc h
    refine j_ldc2 (pc' := 11) K dX11_answer_8 u_2_96 rfl ?_
    refine j_goto (tgt := 15) K dX11_answer_11 (by decide) ?_
    obtain rfl := Option.some.inj h
    exact HR _ _ dX11_answer_15
set_option maxRecDepth 100000 in
set_option maxHeartbeats 4000000 in
theorem M_X11_answer (l : Launch) (G : jG)  (v0 : Int64) {r : Int64} (h : f_X11_answer v0 = some r) : MC l yX11_answer cX11_answer 2 (some .long) 0 G jNo False ([] : va_W) ([] : va_W) [.long v0] (some (.long r)) := by
  refine mc_long (by decide +kernel) (Nat.le_of_ble_eq_true rfl) fun E hl hg hA hrw K HR => ?_
  subst hl
  subst hg
  exact b_X11_answer K HR v0 h
theorem ok_X11_isPlace : yX11_isPlace.cls ≠ "java/lang/invoke/MethodHandle" ∧ yX11_isPlace.cls ≠ "java/lang/invoke/VarHandle" ∧ (parseMethodDescriptor yX11_isPlace.desc).map (fun d => d.parameters.length) = some 3 := ⟨by decide, by decide, by decide +kernel⟩
def f_X11_isPlace (v0 : Int32) (v1 : Int32) (v2 : Int32) : Option (Int32) :=
   jbd (f_X11_within v0 (0 : Int32) v2) (fun r3 =>
   if r3 = 0 then
    jzb (0 : Int32) (
     some (0 : Int32))
   else
    jbd (f_X11_within v1 (0 : Int32) v0) (fun r12 =>
     if r12 = 0 then
      jzb (0 : Int32) (
       some (0 : Int32))
     else
      jzb (1 : Int32) (
       some (1 : Int32))))
set_option maxRecDepth 100000 in
set_option maxHeartbeats 4000000 in
theorem b_X11_isPlace {E : jE}  {res : Int32} (K : jC E cX11_isPlace 3 RX11 1) (HR : jRZ E cX11_isPlace 3 ([] : va_W) res) : ∀ (v0 : Int32) (v1 : Int32) (v2 : Int32), f_X11_isPlace v0 v1 v2 = some res → J E 3 ([] : va_W) 0 [(0, .int v0), (1, .int v1), (2, .int v2)] [] := by
  intro v0 v1 v2 h
  unfold f_X11_isPlace at h
  refine j_iload_n (pc' := 1) K dX11_isPlace_0 rfl 0 rfl rfl ?_
  refine j_iconst (pc' := 2) (v := (0 : Int32)) K dX11_isPlace_1 (by decide) rfl ?_
  refine j_iload_n (pc' := 3) K dX11_isPlace_2 rfl 2 rfl rfl ?_
  obtain ⟨r3, hr3, h⟩ := jbd_some h
  refine j_ro (pc' := 6) K (fun H hP => jrun_S K dX11_isPlace_3 (M_X11_within (jl E) (jg E) v0 (0 : Int32) v2 hr3) u_1_76 u_1_217 u_1_75 u_1_1 ⟨ok_X11_within, by decide, by decide⟩ rfl (Nat.le_of_ble_eq_true rfl) H) [] rfl rfl ?_
  refine j_if_eq (pc' := 9) (tgt := 22) K dX11_isPlace_6 (by decide) rfl (fun hc => ?_) (fun hc => ?_)
  · have h := jit hc h
    refine j_iconst (pc' := 23) (v := (0 : Int32)) K dX11_isPlace_22 (by decide) rfl ?_
    obtain ⟨hg, h⟩ := jzb_some h
    obtain rfl := Option.some.inj h
    exact HR _ _ hg dX11_isPlace_23
  · have h := jif hc h
    refine j_iload_n (pc' := 10) K dX11_isPlace_9 rfl 1 rfl rfl ?_
    refine j_iconst (pc' := 11) (v := (0 : Int32)) K dX11_isPlace_10 (by decide) rfl ?_
    refine j_iload_n (pc' := 12) K dX11_isPlace_11 rfl 0 rfl rfl ?_
    obtain ⟨r12, hr12, h⟩ := jbd_some h
    refine j_ro (pc' := 15) K (fun H hP => jrun_S K dX11_isPlace_12 (M_X11_within (jl E) (jg E) v1 (0 : Int32) v0 hr12) u_1_76 u_1_217 u_1_75 u_1_1 ⟨ok_X11_within, by decide, by decide⟩ rfl (Nat.le_of_ble_eq_true rfl) H) [] rfl rfl ?_
    refine j_if_eq (pc' := 18) (tgt := 22) K dX11_isPlace_15 (by decide) rfl (fun hc => ?_) (fun hc => ?_)
    · have h := jit hc h
      refine j_iconst (pc' := 23) (v := (0 : Int32)) K dX11_isPlace_22 (by decide) rfl ?_
      obtain ⟨hg, h⟩ := jzb_some h
      obtain rfl := Option.some.inj h
      exact HR _ _ hg dX11_isPlace_23
    · have h := jif hc h
      refine j_iconst (pc' := 19) (v := (1 : Int32)) K dX11_isPlace_18 (by decide) rfl ?_
      refine j_goto (tgt := 23) K dX11_isPlace_19 (by decide) ?_
      obtain ⟨hg, h⟩ := jzb_some h
      obtain rfl := Option.some.inj h
      exact HR _ _ hg dX11_isPlace_23
set_option maxRecDepth 100000 in
set_option maxHeartbeats 4000000 in
theorem M_X11_isPlace (l : Launch) (G : jG)  (v0 : Int32) (v1 : Int32) (v2 : Int32) {r : Int32} (h : f_X11_isPlace v0 v1 v2 = some r) : MC l yX11_isPlace cX11_isPlace 3 (some .boolean) 1 G jNo False ([] : va_W) ([] : va_W) [.int v0, .int v1, .int v2] (some (.int r)) := by
  refine mc_bool (by decide +kernel) (Nat.le_of_ble_eq_true rfl) fun E hl hg hA hrw K HR => ?_
  subst hl
  subst hg
  exact b_X11_isPlace K HR v0 v1 v2 h
theorem ok_X11_isLaw : yX11_isLaw.cls ≠ "java/lang/invoke/MethodHandle" ∧ yX11_isLaw.cls ≠ "java/lang/invoke/VarHandle" ∧ (parseMethodDescriptor yX11_isLaw.desc).map (fun d => d.parameters.length) = some 1 := ⟨by decide, by decide, by decide +kernel⟩
def f_X11_isLaw (v0 : Int32) : Option (Int32) :=
   jbd (f_X11_within v0 (0 : Int32) (3 : Int32)) (fun r3 =>
   jzb r3 (
    some r3))
set_option maxRecDepth 100000 in
set_option maxHeartbeats 4000000 in
theorem b_X11_isLaw {E : jE}  {res : Int32} (K : jC E cX11_isLaw 1 RX11 1) (HR : jRZ E cX11_isLaw 1 ([] : va_W) res) : ∀ (v0 : Int32), f_X11_isLaw v0 = some res → J E 1 ([] : va_W) 0 [(0, .int v0)] [] := by
  intro v0 h
  unfold f_X11_isLaw at h
  refine j_iload_n (pc' := 1) K dX11_isLaw_0 rfl 0 rfl rfl ?_
  refine j_iconst (pc' := 2) (v := (0 : Int32)) K dX11_isLaw_1 (by decide) rfl ?_
  refine j_iconst (pc' := 3) (v := (3 : Int32)) K dX11_isLaw_2 (by decide) rfl ?_
  obtain ⟨r3, hr3, h⟩ := jbd_some h
  refine j_ro (pc' := 6) K (fun H hP => jrun_S K dX11_isLaw_3 (M_X11_within (jl E) (jg E) v0 (0 : Int32) (3 : Int32) hr3) u_1_76 u_1_217 u_1_75 u_1_1 ⟨ok_X11_within, by decide, by decide⟩ rfl (Nat.le_of_ble_eq_true rfl) H) [] rfl rfl ?_
  obtain ⟨hg, h⟩ := jzb_some h
  obtain rfl := Option.some.inj h
  exact HR _ _ hg dX11_isLaw_6
set_option maxRecDepth 100000 in
set_option maxHeartbeats 4000000 in
theorem M_X11_isLaw (l : Launch) (G : jG)  (v0 : Int32) {r : Int32} (h : f_X11_isLaw v0 = some r) : MC l yX11_isLaw cX11_isLaw 1 (some .boolean) 1 G jNo False ([] : va_W) ([] : va_W) [.int v0] (some (.int r)) := by
  refine mc_bool (by decide +kernel) (Nat.le_of_ble_eq_true rfl) fun E hl hg hA hrw K HR => ?_
  subst hl
  subst hg
  exact b_X11_isLaw K HR v0 h
theorem ok_X11_isPolynomial : yX11_isPolynomial.cls ≠ "java/lang/invoke/MethodHandle" ∧ yX11_isPolynomial.cls ≠ "java/lang/invoke/VarHandle" ∧ (parseMethodDescriptor yX11_isPolynomial.desc).map (fun d => d.parameters.length) = some 1 := ⟨by decide, by decide, by decide +kernel⟩
def f_X11_isPolynomial (v0 : Int32) : Option (Int32) :=
   jbd (f_X11_within v0 (0 : Int32) (3 : Int32)) (fun r3 =>
   jzb r3 (
    some r3))
set_option maxRecDepth 100000 in
set_option maxHeartbeats 4000000 in
theorem b_X11_isPolynomial {E : jE}  {res : Int32} (K : jC E cX11_isPolynomial 1 RX11 1) (HR : jRZ E cX11_isPolynomial 1 ([] : va_W) res) : ∀ (v0 : Int32), f_X11_isPolynomial v0 = some res → J E 1 ([] : va_W) 0 [(0, .int v0)] [] := by
  intro v0 h
  unfold f_X11_isPolynomial at h
  refine j_iload_n (pc' := 1) K dX11_isPolynomial_0 rfl 0 rfl rfl ?_
  refine j_iconst (pc' := 2) (v := (0 : Int32)) K dX11_isPolynomial_1 (by decide) rfl ?_
  refine j_iconst (pc' := 3) (v := (3 : Int32)) K dX11_isPolynomial_2 (by decide) rfl ?_
  obtain ⟨r3, hr3, h⟩ := jbd_some h
  refine j_ro (pc' := 6) K (fun H hP => jrun_S K dX11_isPolynomial_3 (M_X11_within (jl E) (jg E) v0 (0 : Int32) (3 : Int32) hr3) u_1_76 u_1_217 u_1_75 u_1_1 ⟨ok_X11_within, by decide, by decide⟩ rfl (Nat.le_of_ble_eq_true rfl) H) [] rfl rfl ?_
  obtain ⟨hg, h⟩ := jzb_some h
  obtain rfl := Option.some.inj h
  exact HR _ _ hg dX11_isPolynomial_6
set_option maxRecDepth 100000 in
set_option maxHeartbeats 4000000 in
theorem M_X11_isPolynomial (l : Launch) (G : jG)  (v0 : Int32) {r : Int32} (h : f_X11_isPolynomial v0 = some r) : MC l yX11_isPolynomial cX11_isPolynomial 1 (some .boolean) 1 G jNo False ([] : va_W) ([] : va_W) [.int v0] (some (.int r)) := by
  refine mc_bool (by decide +kernel) (Nat.le_of_ble_eq_true rfl) fun E hl hg hA hrw K HR => ?_
  subst hl
  subst hg
  exact b_X11_isPolynomial K HR v0 h
