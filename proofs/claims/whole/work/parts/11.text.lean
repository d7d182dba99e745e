theorem ok_X10_length : yX10_length.cls ≠ "java/lang/invoke/MethodHandle" ∧ yX10_length.cls ≠ "java/lang/invoke/VarHandle" ∧ (parseMethodDescriptor yX10_length.desc).map (fun d => d.parameters.length) = some 0 := ⟨by decide, by decide, by decide +kernel⟩
def f_X10_length (s0 : TextS) : Option (Int32) :=
   some (Text_length s0)
set_option maxRecDepth 100000 in
set_option maxHeartbeats 4000000 in
theorem b_X10_length {E : jE} (p0_0 p0_1 : Nat) (s0 : TextS) {res : Int32} (K : jC E cX10_length 1 RX10 0) (HR : jRI E cX10_length 1 (wText (jg E) p0_0 p0_1 s0) res) : f_X10_length s0 = some res → J E 1 (wText (jg E) p0_0 p0_1 s0) 0 [(0, .ref p0_0)] [] := by
  intro  h
  unfold f_X10_length at h
  refine j_aload_n (pc' := 1) K dX10_length_0 rfl 0 rfl rfl ?_
  refine j_get (pc' := 4) K dX10_length_1 inX10 0 rfl rfl 1 (by decide) u_1_33 rfl rfl rfl ?_
  obtain rfl := Option.some.inj h
  exact HR _ _ dX10_length_4
set_option maxRecDepth 100000 in
set_option maxHeartbeats 4000000 in
theorem M_X10_length (l : Launch) (G : jG) (p0_0 p0_1 : Nat) (s0 : TextS) {r : Int32} (h : f_X10_length s0 = some r) : MC l yX10_length cX10_length 1 (some .int) 0 G jNo False (wText G p0_0 p0_1 s0) (wText G p0_0 p0_1 s0) [.ref p0_0] (some (.int r)) := by
  refine mc_int (by decide +kernel) (Nat.le_of_ble_eq_true rfl) fun E hl hg hA hrw K HR => ?_
  subst hl
  subst hg
  exact b_X10_length p0_0 p0_1 s0 K HR h
theorem ok_X10_clear : yX10_clear.cls ≠ "java/lang/invoke/MethodHandle" ∧ yX10_clear.cls ≠ "java/lang/invoke/VarHandle" ∧ (parseMethodDescriptor yX10_clear.desc).map (fun d => d.parameters.length) = some 0 := ⟨by decide, by decide, by decide +kernel⟩
def f_X10_clear (s0 : TextS) : Option (TextS) :=
   some (Text_length_s s0 (0 : Int32))
set_option maxRecDepth 100000 in
set_option maxHeartbeats 4000000 in
theorem b_X10_clear {E : jE} (p0_0 p0_1 : Nat) {res : TextS} (K : jC E cX10_clear 1 RX10 0) (hrw : jrw E) (HR : jRV E cX10_clear 1 (wText (jg E) p0_0 p0_1 res)) : ∀ (s0 : TextS), f_X10_clear s0 = some res → J E 1 (wText (jg E) p0_0 p0_1 s0) 0 [(0, .ref p0_0)] [] := by
  intro s0 h
  unfold f_X10_clear at h
  refine j_aload_n (pc' := 1) K dX10_clear_0 rfl 0 rfl rfl ?_
  refine j_iconst (pc' := 2) (v := (0 : Int32)) K dX10_clear_1 (by decide) rfl ?_
  refine j_put (pc' := 5) (ws' := (wText (jg E) p0_0 p0_1 (Text_length_s s0 (0 : Int32)))) K dX10_clear_2 hrw inX10 tyX10 tyX10_ok nmX10 0 rfl rfl 1 (by decide) u_1_33 rfl rfl rfl rfl (Nat.le_of_ble_eq_true rfl) (st_Text_0_1 ..) rfl ?_
  obtain rfl := Option.some.inj h
  exact HR _ _ dX10_clear_5
set_option maxRecDepth 100000 in
set_option maxHeartbeats 4000000 in
theorem M_X10_clear (l : Launch) (G : jG) (p0_0 p0_1 : Nat) (s0 : TextS) {r : TextS} (h : f_X10_clear s0 = some r) : MC l yX10_clear cX10_clear 1 none 0 G (jad (wText G p0_0 p0_1 s0)) True (wText G p0_0 p0_1 s0) (wText G p0_0 p0_1 r) [.ref p0_0] none := by
  refine mc_void (by decide +kernel) (Nat.le_of_ble_eq_true rfl) fun E hl hg hA hrw K HR => ?_
  subst hl
  subst hg
  have hrw : jrw E := by rw [hrw]; trivial
  exact b_X10_clear p0_0 p0_1 K hrw HR s0 h
theorem ok_X10_append : yX10_append.cls ≠ "java/lang/invoke/MethodHandle" ∧ yX10_append.cls ≠ "java/lang/invoke/VarHandle" ∧ (parseMethodDescriptor yX10_append.desc).map (fun d => d.parameters.length) = some 2 := ⟨by decide, by decide, by decide +kernel⟩
def f_X10_append_18 : Nat → Int64 → Int32 → TextS → Option (Int32 × TextS)
  | 0, _, _, _ => none
  | n + 1, v2, v4, s0 =>
   if v4 < 0 then
   jzb (1 : Int32) (
    some ((1 : Int32), s0))
  else
   jgd (Text_length s0) 120 (
    (f_X10_append_18 n) v2 (v4 + (-1 : Int32)) (Text_length_s (Text_bytes_s s0 (upd (Text_bytes s0) (Int32.toNatClampNeg (Text_length s0)) (vp_nar .byte (Int8.toInt32 (Int32.toInt8 (Int64.toInt32 (jlushr v2 ((8 : Int32) * v4)))))))) ((Text_length (Text_bytes_s s0 (upd (Text_bytes s0) (Int32.toNatClampNeg (Text_length s0)) (vp_nar .byte (Int8.toInt32 (Int32.toInt8 (Int64.toInt32 (jlushr v2 ((8 : Int32) * v4))))))))) + (1 : Int32))))
def f_X10_append (v1 : Int32) (v2 : Int64) (s0 : TextS) : Option (Int32 × TextS) :=
   if v1 ≤ ((120 : Int32) - (Text_length s0)) then
   f_X10_append_18 jFU v2 (v1 - (1 : Int32)) s0
  else
   jzb (0 : Int32) (
    some ((0 : Int32), s0))
set_option maxRecDepth 100000 in
set_option maxHeartbeats 4000000 in
theorem b_X10_append_18 {E : jE} (p0_0 p0_1 : Nat) {res : Int32 × TextS} (K : jC E cX10_append 5 RX10 0) (hrw : jrw E) (HR : jRZ E cX10_append 5 (wText (jg E) p0_0 p0_1 (res.2)) (res.1)) : ∀ (n : Nat) (v2 : Int64) (v4 : Int32) (s0 : TextS), f_X10_append_18 n v2 v4 s0 = some res → J E 5 (wText (jg E) p0_0 p0_1 s0) 18 [(0, .ref p0_0), (2, .long v2), (4, .int v4)] [] := by
  intro n
  induction n with
  | zero => intro _ _ _ h; cases h
  | succ n ih =>
    intro v2 v4 s0 h
    rw [f_X10_append_18] at h
    refine j_iload (pc' := 20) K dX10_append_18 2 rfl rfl ?_
    refine j_if_lt (pc' := 23) (tgt := 57) K dX10_append_20 (by decide) rfl (fun hc => ?_) (fun hc => ?_)
    · have h := jit hc h
      refine j_iconst (pc' := 58) (v := (1 : Int32)) K dX10_append_57 (by decide) rfl ?_
      obtain ⟨hg, h⟩ := jzb_some h
      obtain rfl := Option.some.inj h
      exact HR _ _ hg dX10_append_58
    · have h := jif hc h
      refine j_aload_n (pc' := 24) K dX10_append_23 rfl 0 rfl rfl ?_
      refine j_get (pc' := 27) K dX10_append_24 inX10 0 rfl rfl 0 (by decide) u_1_32 rfl rfl rfl ?_
      refine j_aload_n (pc' := 28) K dX10_append_27 rfl 0 rfl rfl ?_
      refine j_get (pc' := 31) K dX10_append_28 inX10 0 rfl rfl 1 (by decide) u_1_33 rfl rfl rfl ?_
      refine j_lload_n (pc' := 32) K dX10_append_31 rfl 1 rfl rfl ?_
      refine j_bipush (pc' := 34) (v := (8 : Int32)) K dX10_append_32 (by decide) rfl ?_
      refine j_iload (pc' := 36) K dX10_append_34 2 rfl rfl ?_
      refine j_imul (pc' := 37) K dX10_append_36 rfl ?_
      refine j_lushr (pc' := 38) K dX10_append_37 rfl ?_
      refine j_l2i (pc' := 39) K dX10_append_38 rfl ?_
      refine j_i2b (pc' := 40) K dX10_append_39 rfl ?_
      obtain ⟨hg, h⟩ := jgd_some h
      refine j_bast (pc' := 41) (ws' := (wText (jg E) p0_0 p0_1 (Text_bytes_s s0 (upd (Text_bytes s0) (Int32.toNatClampNeg (Text_length s0)) (vp_nar .byte (Int8.toInt32 (Int32.toInt8 (Int64.toInt32 (jlushr v2 ((8 : Int32) * v4)))))))))) K dX10_append_40 hrw 1 rfl hg (st_Text_1 ..) rfl ?_
      refine j_aload_n (pc' := 42) K dX10_append_41 rfl 0 rfl rfl ?_
      refine j_dup (pc' := 43) K dX10_append_42 rfl rfl ?_
      refine j_get (pc' := 46) K dX10_append_43 inX10 0 rfl rfl 1 (by decide) u_1_33 rfl rfl rfl ?_
      refine j_iconst (pc' := 47) (v := (1 : Int32)) K dX10_append_46 (by decide) rfl ?_
      refine j_iadd (pc' := 48) K dX10_append_47 rfl ?_
      refine j_put (pc' := 51) (ws' := (wText (jg E) p0_0 p0_1 (Text_length_s (Text_bytes_s s0 (upd (Text_bytes s0) (Int32.toNatClampNeg (Text_length s0)) (vp_nar .byte (Int8.toInt32 (Int32.toInt8 (Int64.toInt32 (jlushr v2 ((8 : Int32) * v4)))))))) ((Text_length (Text_bytes_s s0 (upd (Text_bytes s0) (Int32.toNatClampNeg (Text_length s0)) (vp_nar .byte (Int8.toInt32 (Int32.toInt8 (Int64.toInt32 (jlushr v2 ((8 : Int32) * v4))))))))) + (1 : Int32))))) K dX10_append_48 hrw inX10 tyX10 tyX10_ok nmX10 0 rfl rfl 1 (by decide) u_1_33 rfl rfl rfl rfl (Nat.le_of_ble_eq_true rfl) (st_Text_0_1 ..) rfl ?_
      refine j_iinc (pc' := 54) (j := 2) (v := (v4 + (-1 : Int32))) (lv' := [(4, .int (v4 + (-1 : Int32))), (0, .ref p0_0), (2, .long v2)]) K dX10_append_51 rfl rfl (by decide) rfl rfl ?_
      refine j_goto (tgt := 18) K dX10_append_54 (by decide) ?_
      refine j_sub [1, 2, 0] rfl ?_
      exact ih v2 (v4 + (-1 : Int32)) (Text_length_s (Text_bytes_s s0 (upd (Text_bytes s0) (Int32.toNatClampNeg (Text_length s0)) (vp_nar .byte (Int8.toInt32 (Int32.toInt8 (Int64.toInt32 (jlushr v2 ((8 : Int32) * v4)))))))) ((Text_length (Text_bytes_s s0 (upd (Text_bytes s0) (Int32.toNatClampNeg (Text_length s0)) (vp_nar .byte (Int8.toInt32 (Int32.toInt8 (Int64.toInt32 (jlushr v2 ((8 : Int32) * v4))))))))) + (1 : Int32))) h
set_option maxRecDepth 100000 in
set_option maxHeartbeats 4000000 in
theorem b_X10_append {E : jE} (p0_0 p0_1 : Nat) {res : Int32 × TextS} (K : jC E cX10_append 5 RX10 0) (hrw : jrw E) (HR : jRZ E cX10_append 5 (wText (jg E) p0_0 p0_1 (res.2)) (res.1)) : ∀ (v1 : Int32) (v2 : Int64) (s0 : TextS), f_X10_append v1 v2 s0 = some res → J E 5 (wText (jg E) p0_0 p0_1 s0) 0 [(0, .ref p0_0), (1, .int v1), (2, .long v2)] [] := by
  intro v1 v2 s0 h
  unfold f_X10_append at h
  refine j_iload_n (pc' := 1) K dX10_append_0 rfl 1 rfl rfl ?_
  refine j_bipush (pc' := 3) (v := (120 : Int32)) K dX10_append_1 (by decide) rfl ?_
  refine j_aload_n (pc' := 4) K dX10_append_3 rfl 0 rfl rfl ?_
  refine j_get (pc' := 7) K dX10_append_4 inX10 0 rfl rfl 1 (by decide) u_1_33 rfl rfl rfl ?_
  refine j_isub (pc' := 8) K dX10_append_7 rfl ?_
  refine j_icmp_le (pc' := 11) (tgt := 13) K dX10_append_8 (by decide) rfl (fun hc => ?_) (fun hc => ?_)
  · have h := jit hc h
    refine j_iload_n (pc' := 14) K dX10_append_13 rfl 1 rfl rfl ?_
    refine j_iconst (pc' := 15) (v := (1 : Int32)) K dX10_append_14 (by decide) rfl ?_
    refine j_isub (pc' := 16) K dX10_append_15 rfl ?_
    refine j_istore (pc' := 18) (lv' := [(4, .int (v1 - (1 : Int32))), (0, .ref p0_0), (1, .int v1), (2, .long v2)]) K dX10_append_16 (by decide) rfl rfl ?_
    refine j_sub [1, 3, 0] rfl ?_
    exact b_X10_append_18 p0_0 p0_1 K hrw HR jFU v2 (v1 - (1 : Int32)) s0 h
  · have h := jif hc h
    refine j_iconst (pc' := 12) (v := (0 : Int32)) K dX10_append_11 (by decide) rfl ?_
    obtain ⟨hg, h⟩ := jzb_some h
    obtain rfl := Option.some.inj h
    exact HR _ _ hg dX10_append_12
set_option maxRecDepth 100000 in
set_option maxHeartbeats 4000000 in
theorem M_X10_append (l : Launch) (G : jG) (p0_0 p0_1 : Nat) (v1 : Int32) (v2 : Int64) (s0 : TextS) {r : Int32 × TextS} (h : f_X10_append v1 v2 s0 = some r) : MC l yX10_append cX10_append 5 (some .boolean) 0 G (jad (wText G p0_0 p0_1 s0)) True (wText G p0_0 p0_1 s0) (wText G p0_0 p0_1 (r.2)) [.ref p0_0, .int v1, .long v2] (some (.int (r.1))) := by
  refine mc_bool (by decide +kernel) (Nat.le_of_ble_eq_true rfl) fun E hl hg hA hrw K HR => ?_
  subst hl
  subst hg
  have hrw : jrw E := by rw [hrw]; trivial
  exact b_X10_append p0_0 p0_1 K hrw HR v1 v2 s0 h
theorem ok_X10_byteAt : yX10_byteAt.cls ≠ "java/lang/invoke/MethodHandle" ∧ yX10_byteAt.cls ≠ "java/lang/invoke/VarHandle" ∧ (parseMethodDescriptor yX10_byteAt.desc).map (fun d => d.parameters.length) = some 1 := ⟨by decide, by decide, by decide +kernel⟩
def f_X10_byteAt (v1 : Int32) (s0 : TextS) : Option (Int32) :=
   if v1 < 0 then
   some (-1 : Int32)
  else
   if (Text_length s0) ≤ v1 then
    some (-1 : Int32)
   else
    jgd v1 120 (
     some (((Text_bytes s0) (Int32.toNatClampNeg v1)) &&& (255 : Int32)))
set_option maxRecDepth 100000 in
set_option maxHeartbeats 4000000 in
theorem b_X10_byteAt {E : jE} (p0_0 p0_1 : Nat) (s0 : TextS) {res : Int32} (K : jC E cX10_byteAt 2 RX10 0) (HR : jRI E cX10_byteAt 2 (wText (jg E) p0_0 p0_1 s0) res) : ∀ (v1 : Int32), f_X10_byteAt v1 s0 = some res → J E 2 (wText (jg E) p0_0 p0_1 s0) 0 [(0, .ref p0_0), (1, .int v1)] [] := by
  intro v1 h
  unfold f_X10_byteAt at h
  refine j_iload_n (pc' := 1) K dX10_byteAt_0 rfl 1 rfl rfl ?_
  refine j_if_lt (pc' := 4) (tgt := 25) K dX10_byteAt_1 (by decide) rfl (fun hc => ?_) (fun hc => ?_)
  · have h := jit hc h
    refine j_iconst (pc' := 26) (v := (-1 : Int32)) K dX10_byteAt_25 (by decide) rfl ?_
    obtain rfl := Option.some.inj h
    exact HR _ _ dX10_byteAt_26
  · have h := jif hc h
    refine j_iload_n (pc' := 5) K dX10_byteAt_4 rfl 1 rfl rfl ?_
    refine j_aload_n (pc' := 6) K dX10_byteAt_5 rfl 0 rfl rfl ?_
    refine j_get (pc' := 9) K dX10_byteAt_6 inX10 0 rfl rfl 1 (by decide) u_1_33 rfl rfl rfl ?_
    refine j_icmp_ge (pc' := 12) (tgt := 25) K dX10_byteAt_9 (by decide) rfl (fun hc => ?_) (fun hc => ?_)
    · have h := jit hc h
      refine j_iconst (pc' := 26) (v := (-1 : Int32)) K dX10_byteAt_25 (by decide) rfl ?_
      obtain rfl := Option.some.inj h
      exact HR _ _ dX10_byteAt_26
    · have h := jif hc h
      refine j_aload_n (pc' := 13) K dX10_byteAt_12 rfl 0 rfl rfl ?_
      refine j_get (pc' := 16) K dX10_byteAt_13 inX10 0 rfl rfl 0 (by decide) u_1_32 rfl rfl rfl ?_
      refine j_iload_n (pc' := 17) K dX10_byteAt_16 rfl 1 rfl rfl ?_
      obtain ⟨hg, h⟩ := jgd_some h
      refine j_bald (pc' := 18) K dX10_byteAt_17 1 rfl hg rfl ?_
      refine j_sipush (pc' := 21) (v := (255 : Int32)) K dX10_byteAt_18 (by decide) rfl ?_
      refine j_iand (pc' := 22) K dX10_byteAt_21 rfl ?_
      refine j_goto (tgt := 26) K dX10_byteAt_22 (by decide) ?_
      obtain rfl := Option.some.inj h
      exact HR _ _ dX10_byteAt_26
set_option maxRecDepth 100000 in
set_option maxHeartbeats 4000000 in
theorem M_X10_byteAt (l : Launch) (G : jG) (p0_0 p0_1 : Nat) (v1 : Int32) (s0 : TextS) {r : Int32} (h : f_X10_byteAt v1 s0 = some r) : MC l yX10_byteAt cX10_byteAt 2 (some .int) 0 G jNo False (wText G p0_0 p0_1 s0) (wText G p0_0 p0_1 s0) [.ref p0_0, .int v1] (some (.int r)) := by
  refine mc_int (by decide +kernel) (Nat.le_of_ble_eq_true rfl) fun E hl hg hA hrw K HR => ?_
  subst hl
  subst hg
  exact b_X10_byteAt p0_0 p0_1 s0 K HR v1 h
theorem ok_X10_numbersBehind : yX10_numbersBehind.cls ≠ "java/lang/invoke/MethodHandle" ∧ yX10_numbersBehind.cls ≠ "java/lang/invoke/VarHandle" ∧ (parseMethodDescriptor yX10_numbersBehind.desc).map (fun d => d.parameters.length) = some 1 := ⟨by decide, by decide, by decide +kernel⟩
def f_X10_numbersBehind (v0 : Int32) : Option (Int32) :=
   if v0 = (97 : Int32) then
   some (3 : Int32)
  else
   if v0 = (98 : Int32) then
    some (3 : Int32)
   else
    if v0 = (115 : Int32) then
     some (1 : Int32)
    else
     some (0 : Int32)
set_option maxRecDepth 100000 in
set_option maxHeartbeats 4000000 in
theorem b_X10_numbersBehind {E : jE}  {res : Int32} (K : jC E cX10_numbersBehind 1 RX10 0) (HR : jRI E cX10_numbersBehind 1 ([] : va_W) res) : ∀ (v0 : Int32), f_X10_numbersBehind v0 = some res → J E 1 ([] : va_W) 0 [(0, .int v0)] [] := by
  intro v0 h
  unfold f_X10_numbersBehind at h
  refine j_iload_n (pc' := 1) K dX10_numbersBehind_0 rfl 0 rfl rfl ?_
  refine j_bipush (pc' := 3) (v := (97 : Int32)) K dX10_numbersBehind_1 (by decide) rfl ?_
  refine j_icmp_eq (pc' := 6) (tgt := 12) K dX10_numbersBehind_3 (by decide) rfl (fun hc => ?_) (fun hc => ?_)
  · have h := jit hc h
    refine j_iconst (pc' := 13) (v := (3 : Int32)) K dX10_numbersBehind_12 (by decide) rfl ?_
    obtain rfl := Option.some.inj h
    exact HR _ _ dX10_numbersBehind_13
  · have h := jif hc h
    refine j_iload_n (pc' := 7) K dX10_numbersBehind_6 rfl 0 rfl rfl ?_
    refine j_bipush (pc' := 9) (v := (98 : Int32)) K dX10_numbersBehind_7 (by decide) rfl ?_
    refine j_icmp_ne (pc' := 12) (tgt := 14) K dX10_numbersBehind_9 (by decide) rfl (fun hc => ?_) (fun hc => ?_)
    · have h := jif hc h
      refine j_iload_n (pc' := 15) K dX10_numbersBehind_14 rfl 0 rfl rfl ?_
      refine j_bipush (pc' := 17) (v := (115 : Int32)) K dX10_numbersBehind_15 (by decide) rfl ?_
      refine j_icmp_ne (pc' := 20) (tgt := 24) K dX10_numbersBehind_17 (by decide) rfl (fun hc => ?_) (fun hc => ?_)
      · have h := jif hc h
        refine j_iconst (pc' := 25) (v := (0 : Int32)) K dX10_numbersBehind_24 (by decide) rfl ?_
        obtain rfl := Option.some.inj h
        exact HR _ _ dX10_numbersBehind_25
      · have h := jit hc h
        refine j_iconst (pc' := 21) (v := (1 : Int32)) K dX10_numbersBehind_20 (by decide) rfl ?_
        refine j_goto (tgt := 25) K dX10_numbersBehind_21 (by decide) ?_
        obtain rfl := Option.some.inj h
        exact HR _ _ dX10_numbersBehind_25
    · have h := jit hc h
      refine j_iconst (pc' := 13) (v := (3 : Int32)) K dX10_numbersBehind_12 (by decide) rfl ?_
      obtain rfl := Option.some.inj h
      exact HR _ _ dX10_numbersBehind_13
set_option maxRecDepth 100000 in
set_option maxHeartbeats 4000000 in
theorem M_X10_numbersBehind (l : Launch) (G : jG)  (v0 : Int32) {r : Int32} (h : f_X10_numbersBehind v0 = some r) : MC l yX10_numbersBehind cX10_numbersBehind 1 (some .int) 0 G jNo False ([] : va_W) ([] : va_W) [.int v0] (some (.int r)) := by
  refine mc_int (by decide +kernel) (Nat.le_of_ble_eq_true rfl) fun E hl hg hA hrw K HR => ?_
  subst hl
  subst hg
  exact b_X10_numbersBehind K HR v0 h
theorem ok_X10_numberEnd : yX10_numberEnd.cls ≠ "java/lang/invoke/MethodHandle" ∧ yX10_numberEnd.cls ≠ "java/lang/invoke/VarHandle" ∧ (parseMethodDescriptor yX10_numberEnd.desc).map (fun d => d.parameters.length) = some 1 := ⟨by decide, by decide, by decide +kernel⟩
def f_X10_numberEnd_48 (v3 : Int32) (v4 : Int32) (t0 : Int32) (t1 : Int32) (s0 : TextS) : Option (Int32) :=
   if t0 < t1 then
   some (-1 : Int32)
  else
   if (57 : Int32) < v4 then
    some (-1 : Int32)
   else
    some (v3 + (1 : Int32))
def f_X10_numberEnd_27 (v2 : Int32) (t0 : Int32) (s0 : TextS) : Option (Int32) :=
   jbd (f_X10_byteAt t0 s0) (fun r30 =>
   if v2 = 0 then
    f_X10_numberEnd_48 t0 r30 r30 (48 : Int32) s0
   else
    f_X10_numberEnd_48 t0 r30 r30 (49 : Int32) s0)
def f_X10_numberEnd_15 (v1 : Int32) (t0 : Int32) (s0 : TextS) : Option (Int32) :=
   if t0 = 0 then
   f_X10_numberEnd_27 t0 v1 s0
  else
   f_X10_numberEnd_27 t0 (v1 + (1 : Int32)) s0
def f_X10_numberEnd (v1 : Int32) (s0 : TextS) : Option (Int32) :=
   jbd (f_X10_byteAt v1 s0) (fun r2 =>
   if r2 = (45 : Int32) then
    f_X10_numberEnd_15 v1 (1 : Int32) s0
   else
    f_X10_numberEnd_15 v1 (0 : Int32) s0)
set_option maxRecDepth 100000 in
set_option maxHeartbeats 4000000 in
theorem b_X10_numberEnd_48 {E : jE} (p0_0 p0_1 : Nat) (s0 : TextS) {res : Int32} (K : jC E cX10_numberEnd 5 RX10 1) (HR : jRI E cX10_numberEnd 5 (wText (jg E) p0_0 p0_1 s0) res) : ∀ (v3 : Int32) (v4 : Int32) (t0 : Int32) (t1 : Int32), f_X10_numberEnd_48 v3 v4 t0 t1 s0 = some res → J E 5 (wText (jg E) p0_0 p0_1 s0) 48 [(3, .int v3), (4, .int v4)] [.int t1, .int t0] := by
  intro v3 v4 t0 t1 h
  unfold f_X10_numberEnd_48 at h
  refine j_icmp_lt (pc' := 51) (tgt := 64) K dX10_numberEnd_48 (by decide) rfl (fun hc => ?_) (fun hc => ?_)
  · have h := jit hc h
    refine j_iconst (pc' := 65) (v := (-1 : Int32)) K dX10_numberEnd_64 (by decide) rfl ?_
    obtain rfl := Option.some.inj h
    exact HR _ _ dX10_numberEnd_65
  · have h := jif hc h
    refine j_iload (pc' := 53) K dX10_numberEnd_51 1 rfl rfl ?_
    refine j_bipush (pc' := 55) (v := (57 : Int32)) K dX10_numberEnd_53 (by decide) rfl ?_
    refine j_icmp_gt (pc' := 58) (tgt := 64) K dX10_numberEnd_55 (by decide) rfl (fun hc => ?_) (fun hc => ?_)
    · have h := jit hc h
      refine j_iconst (pc' := 65) (v := (-1 : Int32)) K dX10_numberEnd_64 (by decide) rfl ?_
      obtain rfl := Option.some.inj h
      exact HR _ _ dX10_numberEnd_65
    · have h := jif hc h
      refine j_iload_n (pc' := 59) K dX10_numberEnd_58 rfl 0 rfl rfl ?_
      refine j_iconst (pc' := 60) (v := (1 : Int32)) K dX10_numberEnd_59 (by decide) rfl ?_
      refine j_iadd (pc' := 61) K dX10_numberEnd_60 rfl ?_
      refine j_goto (tgt := 65) K dX10_numberEnd_61 (by decide) ?_
      obtain rfl := Option.some.inj h
      exact HR _ _ dX10_numberEnd_65
set_option maxRecDepth 100000 in
set_option maxHeartbeats 4000000 in
theorem b_X10_numberEnd_27 {E : jE} (p0_0 p0_1 : Nat) (s0 : TextS) {res : Int32} (K : jC E cX10_numberEnd 5 RX10 1) (HR : jRI E cX10_numberEnd 5 (wText (jg E) p0_0 p0_1 s0) res) : ∀ (v2 : Int32) (t0 : Int32), f_X10_numberEnd_27 v2 t0 s0 = some res → J E 5 (wText (jg E) p0_0 p0_1 s0) 27 [(0, .ref p0_0), (2, .int v2)] [.int t0] := by
  intro v2 t0 h
  unfold f_X10_numberEnd_27 at h
  refine j_istore_n (pc' := 28) (lv' := [(3, .int t0), (0, .ref p0_0), (2, .int v2)]) K dX10_numberEnd_27 rfl (by decide) rfl rfl ?_
  refine j_aload_n (pc' := 29) K dX10_numberEnd_28 rfl 1 rfl rfl ?_
  refine j_iload_n (pc' := 30) K dX10_numberEnd_29 rfl 0 rfl rfl ?_
  obtain ⟨r30, hr30, h⟩ := jbd_some h
  refine j_ro (pc' := 33) K (fun H hP => jrun_V K dX10_numberEnd_30 (M_X10_byteAt (jl E) (jg E) p0_0 p0_1 t0 s0 hr30) u_2_9 u_2_6 u_2_7 u_2_8 u_1_2 ⟨ok_X10_byteAt, by decide, by decide⟩ rfl (Nat.le_of_ble_eq_true rfl) 0 rfl rfl H hP) [0, 1] rfl rfl ?_
  refine j_istore (pc' := 35) (lv' := [(4, .int r30), (3, .int t0), (0, .ref p0_0), (2, .int v2)]) K dX10_numberEnd_33 (by decide) rfl rfl ?_
  refine j_iload (pc' := 37) K dX10_numberEnd_35 0 rfl rfl ?_
  refine j_iload_n (pc' := 38) K dX10_numberEnd_37 rfl 3 rfl rfl ?_
  refine j_if_eq (pc' := 41) (tgt := 46) K dX10_numberEnd_38 (by decide) rfl (fun hc => ?_) (fun hc => ?_)
  · have h := jit hc h
    refine j_bipush (pc' := 48) (v := (48 : Int32)) K dX10_numberEnd_46 (by decide) rfl ?_
    refine j_sub [1, 0] rfl ?_
    exact b_X10_numberEnd_48 p0_0 p0_1 s0 K HR t0 r30 r30 (48 : Int32) h
  · have h := jif hc h
    refine j_bipush (pc' := 43) (v := (49 : Int32)) K dX10_numberEnd_41 (by decide) rfl ?_
    refine j_goto (tgt := 48) K dX10_numberEnd_43 (by decide) ?_
    refine j_sub [1, 0] rfl ?_
    exact b_X10_numberEnd_48 p0_0 p0_1 s0 K HR t0 r30 r30 (49 : Int32) h
set_option maxRecDepth 100000 in
set_option maxHeartbeats 4000000 in
theorem b_X10_numberEnd_15 {E : jE} (p0_0 p0_1 : Nat) (s0 : TextS) {res : Int32} (K : jC E cX10_numberEnd 5 RX10 1) (HR : jRI E cX10_numberEnd 5 (wText (jg E) p0_0 p0_1 s0) res) : ∀ (v1 : Int32) (t0 : Int32), f_X10_numberEnd_15 v1 t0 s0 = some res → J E 5 (wText (jg E) p0_0 p0_1 s0) 15 [(0, .ref p0_0), (1, .int v1)] [.int t0] := by
  intro v1 t0 h
  unfold f_X10_numberEnd_15 at h
  refine j_istore_n (pc' := 16) (lv' := [(2, .int t0), (0, .ref p0_0), (1, .int v1)]) K dX10_numberEnd_15 rfl (by decide) rfl rfl ?_
  refine j_iload_n (pc' := 17) K dX10_numberEnd_16 rfl 0 rfl rfl ?_
  refine j_if_eq (pc' := 20) (tgt := 26) K dX10_numberEnd_17 (by decide) rfl (fun hc => ?_) (fun hc => ?_)
  · have h := jit hc h
    refine j_iload_n (pc' := 27) K dX10_numberEnd_26 rfl 2 rfl rfl ?_
    refine j_sub [1, 0] rfl ?_
    exact b_X10_numberEnd_27 p0_0 p0_1 s0 K HR t0 v1 h
  · have h := jif hc h
    refine j_iload_n (pc' := 21) K dX10_numberEnd_20 rfl 2 rfl rfl ?_
    refine j_iconst (pc' := 22) (v := (1 : Int32)) K dX10_numberEnd_21 (by decide) rfl ?_
    refine j_iadd (pc' := 23) K dX10_numberEnd_22 rfl ?_
    refine j_goto (tgt := 27) K dX10_numberEnd_23 (by decide) ?_
    refine j_sub [1, 0] rfl ?_
    exact b_X10_numberEnd_27 p0_0 p0_1 s0 K HR t0 (v1 + (1 : Int32)) h
set_option maxRecDepth 100000 in
set_option maxHeartbeats 4000000 in
theorem b_X10_numberEnd {E : jE} (p0_0 p0_1 : Nat) (s0 : TextS) {res : Int32} (K : jC E cX10_numberEnd 5 RX10 1) (HR : jRI E cX10_numberEnd 5 (wText (jg E) p0_0 p0_1 s0) res) : ∀ (v1 : Int32), f_X10_numberEnd v1 s0 = some res → J E 5 (wText (jg E) p0_0 p0_1 s0) 0 [(0, .ref p0_0), (1, .int v1)] [] := by
  intro v1 h
  unfold f_X10_numberEnd at h
  refine j_aload_n (pc' := 1) K dX10_numberEnd_0 rfl 0 rfl rfl ?_
  refine j_iload_n (pc' := 2) K dX10_numberEnd_1 rfl 1 rfl rfl ?_
  obtain ⟨r2, hr2, h⟩ := jbd_some h
  refine j_ro (pc' := 5) K (fun H hP => jrun_V K dX10_numberEnd_2 (M_X10_byteAt (jl E) (jg E) p0_0 p0_1 v1 s0 hr2) u_2_9 u_2_6 u_2_7 u_2_8 u_1_2 ⟨ok_X10_byteAt, by decide, by decide⟩ rfl (Nat.le_of_ble_eq_true rfl) 0 rfl rfl H hP) [0, 1] rfl rfl ?_
  refine j_bipush (pc' := 7) (v := (45 : Int32)) K dX10_numberEnd_5 (by decide) rfl ?_
  refine j_icmp_ne (pc' := 10) (tgt := 14) K dX10_numberEnd_7 (by decide) rfl (fun hc => ?_) (fun hc => ?_)
  · have h := jif hc h
    refine j_iconst (pc' := 15) (v := (0 : Int32)) K dX10_numberEnd_14 (by decide) rfl ?_
    refine j_sub [0, 1] rfl ?_
    exact b_X10_numberEnd_15 p0_0 p0_1 s0 K HR v1 (0 : Int32) h
  · have h := jit hc h
    refine j_iconst (pc' := 11) (v := (1 : Int32)) K dX10_numberEnd_10 (by decide) rfl ?_
    refine j_goto (tgt := 15) K dX10_numberEnd_11 (by decide) ?_
    refine j_sub [0, 1] rfl ?_
    exact b_X10_numberEnd_15 p0_0 p0_1 s0 K HR v1 (1 : Int32) h
set_option maxRecDepth 100000 in
set_option maxHeartbeats 4000000 in
theorem M_X10_numberEnd (l : Launch) (G : jG) (p0_0 p0_1 : Nat) (v1 : Int32) (s0 : TextS) {r : Int32} (h : f_X10_numberEnd v1 s0 = some r) : MC l yX10_numberEnd cX10_numberEnd 5 (some .int) 1 G jNo False (wText G p0_0 p0_1 s0) (wText G p0_0 p0_1 s0) [.ref p0_0, .int v1] (some (.int r)) := by
  refine mc_int (by decide +kernel) (Nat.le_of_ble_eq_true rfl) fun E hl hg hA hrw K HR => ?_
  subst hl
  subst hg
  exact b_X10_numberEnd p0_0 p0_1 s0 K HR v1 h
theorem ok_X10_itemEnd : yX10_itemEnd.cls ≠ "java/lang/invoke/MethodHandle" ∧ yX10_itemEnd.cls ≠ "java/lang/invoke/VarHandle" ∧ (parseMethodDescriptor yX10_itemEnd.desc).map (fun d => d.parameters.length) = some 1 := ⟨by decide, by decide, by decide +kernel⟩
def f_X10_itemEnd_54 (k22 : Int32 → Int32 → Int32 → TextS → Option (Int32)) (v2 : Int32) (v4 : Int32) (v5 : Int32) (t0 : Int32) (t1 : Int32) (s0 : TextS) : Option (Int32) :=
   if t0 = t1 then
   k22 v2 (v5 + (1 : Int32)) (v4 + (1 : Int32)) s0
  else
   some (-1 : Int32)
def f_X10_itemEnd_22 : Nat → Int32 → Int32 → Int32 → TextS → Option (Int32)
  | 0, _, _, _, _ => none
  | n + 1, v2, v3, v4, s0 =>
   if v2 < v4 then
   some v3
  else
   jbd (f_X10_numberEnd v3 s0) (fun r30 =>
    jbd (f_X10_byteAt r30 s0) (fun r38 =>
     if v2 ≤ v4 then
      f_X10_itemEnd_54 (f_X10_itemEnd_22 n) v2 v4 r30 r38 (59 : Int32) s0
     else
      f_X10_itemEnd_54 (f_X10_itemEnd_22 n) v2 v4 r30 r38 (44 : Int32) s0))
def f_X10_itemEnd (v1 : Int32) (s0 : TextS) : Option (Int32) :=
   jbd (f_X10_byteAt v1 s0) (fun r2 =>
   jbd (f_X10_numbersBehind r2) (fun r5 =>
    if r5 = 0 then
     some (-1 : Int32)
    else
     f_X10_itemEnd_22 jFU r5 (v1 + (1 : Int32)) (1 : Int32) s0))
set_option maxRecDepth 100000 in
set_option maxHeartbeats 4000000 in
theorem b_X10_itemEnd_54 {E : jE} (p0_0 p0_1 : Nat) (s0 : TextS) {res : Int32} (K : jC E cX10_itemEnd 6 RX10 2) (HR : jRI E cX10_itemEnd 6 (wText (jg E) p0_0 p0_1 s0) res) (k22 : Int32 → Int32 → Int32 → TextS → Option (Int32)) (hk22 : ∀ (v2 : Int32) (v3 : Int32) (v4 : Int32), k22 v2 v3 v4 s0 = some res → J E 6 (wText (jg E) p0_0 p0_1 s0) 22 [(0, .ref p0_0), (2, .int v2), (3, .int v3), (4, .int v4)] []) : ∀ (v2 : Int32) (v4 : Int32) (v5 : Int32) (t0 : Int32) (t1 : Int32), f_X10_itemEnd_54 k22 v2 v4 v5 t0 t1 s0 = some res → J E 6 (wText (jg E) p0_0 p0_1 s0) 54 [(0, .ref p0_0), (2, .int v2), (4, .int v4), (5, .int v5)] [.int t1, .int t0] := by
  intro v2 v4 v5 t0 t1 h
  unfold f_X10_itemEnd_54 at h
  refine j_icmp_eq (pc' := 57) (tgt := 59) K dX10_itemEnd_54 (by decide) rfl (fun hc => ?_) (fun hc => ?_)
  · have h := jit hc h
    refine j_iload (pc' := 61) K dX10_itemEnd_59 3 rfl rfl ?_
    refine j_iconst (pc' := 62) (v := (1 : Int32)) K dX10_itemEnd_61 (by decide) rfl ?_
    refine j_iadd (pc' := 63) K dX10_itemEnd_62 rfl ?_
    refine j_istore_n (pc' := 64) (lv' := [(3, .int (v5 + (1 : Int32))), (0, .ref p0_0), (2, .int v2), (4, .int v4), (5, .int v5)]) K dX10_itemEnd_63 rfl (by decide) rfl rfl ?_
    refine j_iinc (pc' := 67) (j := 3) (v := (v4 + (1 : Int32))) (lv' := [(4, .int (v4 + (1 : Int32))), (3, .int (v5 + (1 : Int32))), (0, .ref p0_0), (2, .int v2), (5, .int v5)]) K dX10_itemEnd_64 rfl rfl (by decide) rfl rfl ?_
    refine j_goto (tgt := 22) K dX10_itemEnd_67 (by decide) ?_
    refine j_sub [2, 3, 1, 0] rfl ?_
    exact hk22 v2 (v5 + (1 : Int32)) (v4 + (1 : Int32)) h
  · have h := jif hc h
    refine j_iconst (pc' := 58) (v := (-1 : Int32)) K dX10_itemEnd_57 (by decide) rfl ?_
    obtain rfl := Option.some.inj h
    exact HR _ _ dX10_itemEnd_58
set_option maxRecDepth 100000 in
set_option maxHeartbeats 4000000 in
theorem b_X10_itemEnd_22 {E : jE} (p0_0 p0_1 : Nat) (s0 : TextS) {res : Int32} (K : jC E cX10_itemEnd 6 RX10 2) (HR : jRI E cX10_itemEnd 6 (wText (jg E) p0_0 p0_1 s0) res) : ∀ (n : Nat) (v2 : Int32) (v3 : Int32) (v4 : Int32), f_X10_itemEnd_22 n v2 v3 v4 s0 = some res → J E 6 (wText (jg E) p0_0 p0_1 s0) 22 [(0, .ref p0_0), (2, .int v2), (3, .int v3), (4, .int v4)] [] := by
  intro n
  induction n with
  | zero => intro _ _ _ h; cases h
  | succ n ih =>
    intro v2 v3 v4 h
    rw [f_X10_itemEnd_22] at h
    refine j_iload (pc' := 24) K dX10_itemEnd_22 3 rfl rfl ?_
    refine j_iload_n (pc' := 25) K dX10_itemEnd_24 rfl 1 rfl rfl ?_
    refine j_icmp_gt (pc' := 28) (tgt := 70) K dX10_itemEnd_25 (by decide) rfl (fun hc => ?_) (fun hc => ?_)
    · have h := jit hc h
      refine j_iload_n (pc' := 71) K dX10_itemEnd_70 rfl 2 rfl rfl ?_
      obtain rfl := Option.some.inj h
      exact HR _ _ dX10_itemEnd_71
    · have h := jif hc h
      refine j_aload_n (pc' := 29) K dX10_itemEnd_28 rfl 0 rfl rfl ?_
      refine j_iload_n (pc' := 30) K dX10_itemEnd_29 rfl 2 rfl rfl ?_
      obtain ⟨r30, hr30, h⟩ := jbd_some h
      refine j_ro (pc' := 33) K (fun H hP => jrun_V K dX10_itemEnd_30 (M_X10_numberEnd (jl E) (jg E) p0_0 p0_1 v3 s0 hr30) u_2_16 u_2_13 u_2_15 u_p_2 u_1_2 ⟨ok_X10_numberEnd, by decide, by decide⟩ rfl (Nat.le_of_ble_eq_true rfl) 0 rfl rfl H hP) [0, 1] rfl rfl ?_
      refine j_istore (pc' := 35) (lv' := [(5, .int r30), (0, .ref p0_0), (2, .int v2), (3, .int v3), (4, .int v4)]) K dX10_itemEnd_33 (by decide) rfl rfl ?_
      refine j_aload_n (pc' := 36) K dX10_itemEnd_35 rfl 1 rfl rfl ?_
      refine j_iload (pc' := 38) K dX10_itemEnd_36 0 rfl rfl ?_
      obtain ⟨r38, hr38, h⟩ := jbd_some h
      refine j_ro (pc' := 41) K (fun H hP => jrun_V K dX10_itemEnd_38 (M_X10_byteAt (jl E) (jg E) p0_0 p0_1 r30 s0 hr38) u_2_9 u_2_6 u_2_7 u_2_8 u_1_2 ⟨ok_X10_byteAt, by decide, by decide⟩ rfl (Nat.le_of_ble_eq_true rfl) 0 rfl rfl H hP) [0, 1] rfl rfl ?_
      refine j_iload (pc' := 43) K dX10_itemEnd_41 4 rfl rfl ?_
      refine j_iload_n (pc' := 44) K dX10_itemEnd_43 rfl 2 rfl rfl ?_
      refine j_icmp_ge (pc' := 47) (tgt := 52) K dX10_itemEnd_44 (by decide) rfl (fun hc => ?_) (fun hc => ?_)
      · have h := jit hc h
        refine j_bipush (pc' := 54) (v := (59 : Int32)) K dX10_itemEnd_52 (by decide) rfl ?_
        refine j_sub [1, 2, 4, 0] rfl ?_
        exact b_X10_itemEnd_54 p0_0 p0_1 s0 K HR (f_X10_itemEnd_22 n) (ih) v2 v4 r30 r38 (59 : Int32) h
      · have h := jif hc h
        refine j_bipush (pc' := 49) (v := (44 : Int32)) K dX10_itemEnd_47 (by decide) rfl ?_
        refine j_goto (tgt := 54) K dX10_itemEnd_49 (by decide) ?_
        refine j_sub [1, 2, 4, 0] rfl ?_
        exact b_X10_itemEnd_54 p0_0 p0_1 s0 K HR (f_X10_itemEnd_22 n) (ih) v2 v4 r30 r38 (44 : Int32) h
set_option maxRecDepth 100000 in
set_option maxHeartbeats 4000000 in
theorem b_X10_itemEnd {E : jE} (p0_0 p0_1 : Nat) (s0 : TextS) {res : Int32} (K : jC E cX10_itemEnd 6 RX10 2) (HR : jRI E cX10_itemEnd 6 (wText (jg E) p0_0 p0_1 s0) res) : ∀ (v1 : Int32), f_X10_itemEnd v1 s0 = some res → J E 6 (wText (jg E) p0_0 p0_1 s0) 0 [(0, .ref p0_0), (1, .int v1)] [] := by
  intro v1 h
  unfold f_X10_itemEnd at h
  refine j_aload_n (pc' := 1) K dX10_itemEnd_0 rfl 0 rfl rfl ?_
  refine j_iload_n (pc' := 2) K dX10_itemEnd_1 rfl 1 rfl rfl ?_
  obtain ⟨r2, hr2, h⟩ := jbd_some h
  refine j_ro (pc' := 5) K (fun H hP => jrun_V K dX10_itemEnd_2 (M_X10_byteAt (jl E) (jg E) p0_0 p0_1 v1 s0 hr2) u_2_9 u_2_6 u_2_7 u_2_8 u_1_2 ⟨ok_X10_byteAt, by decide, by decide⟩ rfl (Nat.le_of_ble_eq_true rfl) 0 rfl rfl H hP) [0, 1] rfl rfl ?_
  obtain ⟨r5, hr5, h⟩ := jbd_some h
  refine j_ro (pc' := 8) K (fun H hP => jrun_S K dX10_itemEnd_5 (M_X10_numbersBehind (jl E) (jg E) r2 hr5) u_2_12 u_2_10 u_2_11 u_1_2 ⟨ok_X10_numbersBehind, by decide, by decide⟩ rfl (Nat.le_of_ble_eq_true rfl) H) [] rfl rfl ?_
  refine j_istore_n (pc' := 9) (lv' := [(2, .int r5), (0, .ref p0_0), (1, .int v1)]) K dX10_itemEnd_8 rfl (by decide) rfl rfl ?_
  refine j_iload_n (pc' := 10) K dX10_itemEnd_9 rfl 0 rfl rfl ?_
  refine j_if_ne (pc' := 13) (tgt := 15) K dX10_itemEnd_10 (by decide) rfl (fun hc => ?_) (fun hc => ?_)
  · have h := jif hc h
    refine j_iload_n (pc' := 16) K dX10_itemEnd_15 rfl 2 rfl rfl ?_
    refine j_iconst (pc' := 17) (v := (1 : Int32)) K dX10_itemEnd_16 (by decide) rfl ?_
    refine j_iadd (pc' := 18) K dX10_itemEnd_17 rfl ?_
    refine j_istore_n (pc' := 19) (lv' := [(3, .int (v1 + (1 : Int32))), (2, .int r5), (0, .ref p0_0), (1, .int v1)]) K dX10_itemEnd_18 rfl (by decide) rfl rfl ?_
    refine j_iconst (pc' := 20) (v := (1 : Int32)) K dX10_itemEnd_19 (by decide) rfl ?_
    refine j_istore (pc' := 22) (lv' := [(4, .int (1 : Int32)), (3, .int (v1 + (1 : Int32))), (2, .int r5), (0, .ref p0_0), (1, .int v1)]) K dX10_itemEnd_20 (by decide) rfl rfl ?_
    refine j_sub [3, 2, 1, 0] rfl ?_
    exact b_X10_itemEnd_22 p0_0 p0_1 s0 K HR jFU r5 (v1 + (1 : Int32)) (1 : Int32) h
  · have h := jit hc h
    refine j_iconst (pc' := 14) (v := (-1 : Int32)) K dX10_itemEnd_13 (by decide) rfl ?_
    obtain rfl := Option.some.inj h
    exact HR _ _ dX10_itemEnd_14
set_option maxRecDepth 100000 in
set_option maxHeartbeats 4000000 in
theorem M_X10_itemEnd (l : Launch) (G : jG) (p0_0 p0_1 : Nat) (v1 : Int32) (s0 : TextS) {r : Int32} (h : f_X10_itemEnd v1 s0 = some r) : MC l yX10_itemEnd cX10_itemEnd 6 (some .int) 2 G jNo False (wText G p0_0 p0_1 s0) (wText G p0_0 p0_1 s0) [.ref p0_0, .int v1] (some (.int r)) := by
  refine mc_int (by decide +kernel) (Nat.le_of_ble_eq_true rfl) fun E hl hg hA hrw K HR => ?_
  subst hl
  subst hg
  exact b_X10_itemEnd p0_0 p0_1 s0 K HR v1 h
theorem ok_X10_firstFault : yX10_firstFault.cls ≠ "java/lang/invoke/MethodHandle" ∧ yX10_firstFault.cls ≠ "java/lang/invoke/VarHandle" ∧ (parseMethodDescriptor yX10_firstFault.desc).map (fun d => d.parameters.length) = some 0 := ⟨by decide, by decide, by decide +kernel⟩
def f_X10_firstFault_4 : Nat → Int32 → Int32 → TextS → Option (Int32)
  | 0, _, _, _ => none
  | n + 1, v1, v2, s0 =>
   if (120 : Int32) ≤ v2 then
   some (-4 : Int32)
  else
   if (Text_length s0) ≤ v1 then
    some (-4 : Int32)
   else
    jbd (f_X10_itemEnd v1 s0) (fun r20 =>
     if r20 = (-1 : Int32) then
      some v1
     else
      (f_X10_firstFault_4 n) r20 (v2 + (1 : Int32)) s0)
def f_X10_firstFault (s0 : TextS) : Option (Int32) :=
   f_X10_firstFault_4 jFU (0 : Int32) (0 : Int32) s0
set_option maxRecDepth 100000 in
set_option maxHeartbeats 4000000 in
theorem b_X10_firstFault_4 {E : jE} (p0_0 p0_1 : Nat) (s0 : TextS) {res : Int32} (K : jC E cX10_firstFault 4 RX10 3) (HR : jRI E cX10_firstFault 4 (wText (jg E) p0_0 p0_1 s0) res) : ∀ (n : Nat) (v1 : Int32) (v2 : Int32), f_X10_firstFault_4 n v1 v2 s0 = some res → J E 4 (wText (jg E) p0_0 p0_1 s0) 4 [(0, .ref p0_0), (1, .int v1), (2, .int v2)] [] := by
  intro n
  induction n with
  | zero => intro _ _ h; cases h
  | succ n ih =>
    intro v1 v2 h
    rw [f_X10_firstFault_4] at h
    refine j_iload_n (pc' := 5) K dX10_firstFault_4 rfl 2 rfl rfl ?_
    refine j_bipush (pc' := 7) (v := (120 : Int32)) K dX10_firstFault_5 (by decide) rfl ?_
    refine j_icmp_ge (pc' := 10) (tgt := 39) K dX10_firstFault_7 (by decide) rfl (fun hc => ?_) (fun hc => ?_)
    · have h := jit hc h
      refine j_bipush (pc' := 41) (v := (-4 : Int32)) K dX10_firstFault_39 (by decide) rfl ?_
      obtain rfl := Option.some.inj h
      exact HR _ _ dX10_firstFault_41
    · have h := jif hc h
      refine j_iload_n (pc' := 11) K dX10_firstFault_10 rfl 1 rfl rfl ?_
      refine j_aload_n (pc' := 12) K dX10_firstFault_11 rfl 0 rfl rfl ?_
      refine j_get (pc' := 15) K dX10_firstFault_12 inX10 0 rfl rfl 1 (by decide) u_1_33 rfl rfl rfl ?_
      refine j_icmp_ge (pc' := 18) (tgt := 39) K dX10_firstFault_15 (by decide) rfl (fun hc => ?_) (fun hc => ?_)
      · have h := jit hc h
        refine j_bipush (pc' := 41) (v := (-4 : Int32)) K dX10_firstFault_39 (by decide) rfl ?_
        obtain rfl := Option.some.inj h
        exact HR _ _ dX10_firstFault_41
      · have h := jif hc h
        refine j_aload_n (pc' := 19) K dX10_firstFault_18 rfl 0 rfl rfl ?_
        refine j_iload_n (pc' := 20) K dX10_firstFault_19 rfl 1 rfl rfl ?_
        obtain ⟨r20, hr20, h⟩ := jbd_some h
        refine j_ro (pc' := 23) K (fun H hP => jrun_V K dX10_firstFault_20 (M_X10_itemEnd (jl E) (jg E) p0_0 p0_1 v1 s0 hr20) u_2_5 u_2_2 u_2_3 u_2_4 u_1_2 ⟨ok_X10_itemEnd, by decide, by decide⟩ rfl (Nat.le_of_ble_eq_true rfl) 0 rfl rfl H hP) [0, 1] rfl rfl ?_
        refine j_istore_n (pc' := 24) (lv' := [(3, .int r20), (0, .ref p0_0), (1, .int v1), (2, .int v2)]) K dX10_firstFault_23 rfl (by decide) rfl rfl ?_
        refine j_iload_n (pc' := 25) K dX10_firstFault_24 rfl 0 rfl rfl ?_
        refine j_iconst (pc' := 26) (v := (-1 : Int32)) K dX10_firstFault_25 (by decide) rfl ?_
        refine j_icmp_ne (pc' := 29) (tgt := 31) K dX10_firstFault_26 (by decide) rfl (fun hc => ?_) (fun hc => ?_)
        · have h := jif hc h
          refine j_iload_n (pc' := 32) K dX10_firstFault_31 rfl 0 rfl rfl ?_
          refine j_istore_n (pc' := 33) (lv' := [(1, .int r20), (3, .int r20), (0, .ref p0_0), (2, .int v2)]) K dX10_firstFault_32 rfl (by decide) rfl rfl ?_
          refine j_iinc (pc' := 36) (j := 3) (v := (v2 + (1 : Int32))) (lv' := [(2, .int (v2 + (1 : Int32))), (1, .int r20), (3, .int r20), (0, .ref p0_0)]) K dX10_firstFault_33 rfl rfl (by decide) rfl rfl ?_
          refine j_goto (tgt := 4) K dX10_firstFault_36 (by decide) ?_
          refine j_sub [3, 1, 0] rfl ?_
          exact ih r20 (v2 + (1 : Int32)) h
        · have h := jit hc h
          refine j_iload_n (pc' := 30) K dX10_firstFault_29 rfl 2 rfl rfl ?_
          obtain rfl := Option.some.inj h
          exact HR _ _ dX10_firstFault_30
set_option maxRecDepth 100000 in
set_option maxHeartbeats 4000000 in
theorem b_X10_firstFault {E : jE} (p0_0 p0_1 : Nat) (s0 : TextS) {res : Int32} (K : jC E cX10_firstFault 4 RX10 3) (HR : jRI E cX10_firstFault 4 (wText (jg E) p0_0 p0_1 s0) res) : f_X10_firstFault s0 = some res → J E 4 (wText (jg E) p0_0 p0_1 s0) 0 [(0, .ref p0_0)] [] := by
  intro  h
  unfold f_X10_firstFault at h
  refine j_iconst (pc' := 1) (v := (0 : Int32)) K dX10_firstFault_0 (by decide) rfl ?_
  refine j_istore_n (pc' := 2) (lv' := [(1, .int (0 : Int32)), (0, .ref p0_0)]) K dX10_firstFault_1 rfl (by decide) rfl rfl ?_
  refine j_iconst (pc' := 3) (v := (0 : Int32)) K dX10_firstFault_2 (by decide) rfl ?_
  refine j_istore_n (pc' := 4) (lv' := [(2, .int (0 : Int32)), (1, .int (0 : Int32)), (0, .ref p0_0)]) K dX10_firstFault_3 rfl (by decide) rfl rfl ?_
  refine j_sub [2, 1, 0] rfl ?_
  exact b_X10_firstFault_4 p0_0 p0_1 s0 K HR jFU (0 : Int32) (0 : Int32) h
set_option maxRecDepth 100000 in
set_option maxHeartbeats 4000000 in
theorem M_X10_firstFault (l : Launch) (G : jG) (p0_0 p0_1 : Nat) (s0 : TextS) {r : Int32} (h : f_X10_firstFault s0 = some r) : MC l yX10_firstFault cX10_firstFault 4 (some .int) 3 G jNo False (wText G p0_0 p0_1 s0) (wText G p0_0 p0_1 s0) [.ref p0_0] (some (.int r)) := by
  refine mc_int (by decide +kernel) (Nat.le_of_ble_eq_true rfl) fun E hl hg hA hrw K HR => ?_
  subst hl
  subst hg
  exact b_X10_firstFault p0_0 p0_1 s0 K HR h
theorem ok_X10_numberFrom : yX10_numberFrom.cls ≠ "java/lang/invoke/MethodHandle" ∧ yX10_numberFrom.cls ≠ "java/lang/invoke/VarHandle" ∧ (parseMethodDescriptor yX10_numberFrom.desc).map (fun d => d.parameters.length) = some 1 := ⟨by decide, by decide, by decide +kernel⟩
def f_X10_numberFrom (v1 : Int32) (s0 : TextS) : Option (Int32) :=
   jbd (f_X10_byteAt v1 s0) (fun r2 =>
   if r2 = (45 : Int32) then
    jbd (f_X10_byteAt (v1 + (1 : Int32)) s0) (fun r16 =>
     some ((48 : Int32) - r16))
   else
    jbd (f_X10_byteAt v1 s0) (fun r25 =>
     some (r25 - (48 : Int32))))
set_option maxRecDepth 100000 in
set_option maxHeartbeats 4000000 in
theorem b_X10_numberFrom {E : jE} (p0_0 p0_1 : Nat) (s0 : TextS) {res : Int32} (K : jC E cX10_numberFrom 2 RX10 1) (HR : jRI E cX10_numberFrom 2 (wText (jg E) p0_0 p0_1 s0) res) : ∀ (v1 : Int32), f_X10_numberFrom v1 s0 = some res → J E 2 (wText (jg E) p0_0 p0_1 s0) 0 [(0, .ref p0_0), (1, .int v1)] [] := by
  intro v1 h
  unfold f_X10_numberFrom at h
  refine j_aload_n (pc' := 1) K dX10_numberFrom_0 rfl 0 rfl rfl ?_
  refine j_iload_n (pc' := 2) K dX10_numberFrom_1 rfl 1 rfl rfl ?_
  obtain ⟨r2, hr2, h⟩ := jbd_some h
  refine j_ro (pc' := 5) K (fun H hP => jrun_V K dX10_numberFrom_2 (M_X10_byteAt (jl E) (jg E) p0_0 p0_1 v1 s0 hr2) u_2_9 u_2_6 u_2_7 u_2_8 u_1_2 ⟨ok_X10_byteAt, by decide, by decide⟩ rfl (Nat.le_of_ble_eq_true rfl) 0 rfl rfl H hP) [0, 1] rfl rfl ?_
  refine j_bipush (pc' := 7) (v := (45 : Int32)) K dX10_numberFrom_5 (by decide) rfl ?_
  refine j_icmp_ne (pc' := 10) (tgt := 23) K dX10_numberFrom_7 (by decide) rfl (fun hc => ?_) (fun hc => ?_)
  · have h := jif hc h
    refine j_aload_n (pc' := 24) K dX10_numberFrom_23 rfl 0 rfl rfl ?_
    refine j_iload_n (pc' := 25) K dX10_numberFrom_24 rfl 1 rfl rfl ?_
    obtain ⟨r25, hr25, h⟩ := jbd_some h
    refine j_ro (pc' := 28) K (fun H hP => jrun_V K dX10_numberFrom_25 (M_X10_byteAt (jl E) (jg E) p0_0 p0_1 v1 s0 hr25) u_2_9 u_2_6 u_2_7 u_2_8 u_1_2 ⟨ok_X10_byteAt, by decide, by decide⟩ rfl (Nat.le_of_ble_eq_true rfl) 0 rfl rfl H hP) [0, 1] rfl rfl ?_
    refine j_bipush (pc' := 30) (v := (48 : Int32)) K dX10_numberFrom_28 (by decide) rfl ?_
    refine j_isub (pc' := 31) K dX10_numberFrom_30 rfl ?_
    obtain rfl := Option.some.inj h
    exact HR _ _ dX10_numberFrom_31
  · have h := jit hc h
    refine j_bipush (pc' := 12) (v := (48 : Int32)) K dX10_numberFrom_10 (by decide) rfl ?_
    refine j_aload_n (pc' := 13) K dX10_numberFrom_12 rfl 0 rfl rfl ?_
    refine j_iload_n (pc' := 14) K dX10_numberFrom_13 rfl 1 rfl rfl ?_
    refine j_iconst (pc' := 15) (v := (1 : Int32)) K dX10_numberFrom_14 (by decide) rfl ?_
    refine j_iadd (pc' := 16) K dX10_numberFrom_15 rfl ?_
    obtain ⟨r16, hr16, h⟩ := jbd_some h
    refine j_ro (pc' := 19) K (fun H hP => jrun_V K dX10_numberFrom_16 (M_X10_byteAt (jl E) (jg E) p0_0 p0_1 (v1 + (1 : Int32)) s0 hr16) u_2_9 u_2_6 u_2_7 u_2_8 u_1_2 ⟨ok_X10_byteAt, by decide, by decide⟩ rfl (Nat.le_of_ble_eq_true rfl) 0 rfl rfl H hP) [0, 1] rfl rfl ?_
    refine j_isub (pc' := 20) K dX10_numberFrom_19 rfl ?_
    refine j_goto (tgt := 31) K dX10_numberFrom_20 (by decide) ?_
    obtain rfl := Option.some.inj h
    exact HR _ _ dX10_numberFrom_31
set_option maxRecDepth 100000 in
set_option maxHeartbeats 4000000 in
theorem M_X10_numberFrom (l : Launch) (G : jG) (p0_0 p0_1 : Nat) (v1 : Int32) (s0 : TextS) {r : Int32} (h : f_X10_numberFrom v1 s0 = some r) : MC l yX10_numberFrom cX10_numberFrom 2 (some .int) 1 G jNo False (wText G p0_0 p0_1 s0) (wText G p0_0 p0_1 s0) [.ref p0_0, .int v1] (some (.int r)) := by
  refine mc_int (by decide +kernel) (Nat.le_of_ble_eq_true rfl) fun E hl hg hA hrw K HR => ?_
  subst hl
  subst hg
  exact b_X10_numberFrom p0_0 p0_1 s0 K HR v1 h
theorem ok_X10_nextNumber : yX10_nextNumber.cls ≠ "java/lang/invoke/MethodHandle" ∧ yX10_nextNumber.cls ≠ "java/lang/invoke/VarHandle" ∧ (parseMethodDescriptor yX10_nextNumber.desc).map (fun d => d.parameters.length) = some 1 := ⟨by decide, by decide, by decide +kernel⟩
def f_X10_nextNumber (v1 : Int32) (s0 : TextS) : Option (Int32) :=
   jbd (f_X10_byteAt v1 s0) (fun r2 =>
   if r2 = (45 : Int32) then
    some (v1 + (3 : Int32))
   else
    some (v1 + (2 : Int32)))
set_option maxRecDepth 100000 in
set_option maxHeartbeats 4000000 in
theorem b_X10_nextNumber {E : jE} (p0_0 p0_1 : Nat) (s0 : TextS) {res : Int32} (K : jC E cX10_nextNumber 2 RX10 1) (HR : jRI E cX10_nextNumber 2 (wText (jg E) p0_0 p0_1 s0) res) : ∀ (v1 : Int32), f_X10_nextNumber v1 s0 = some res → J E 2 (wText (jg E) p0_0 p0_1 s0) 0 [(0, .ref p0_0), (1, .int v1)] [] := by
  intro v1 h
  unfold f_X10_nextNumber at h
  refine j_aload_n (pc' := 1) K dX10_nextNumber_0 rfl 0 rfl rfl ?_
  refine j_iload_n (pc' := 2) K dX10_nextNumber_1 rfl 1 rfl rfl ?_
  obtain ⟨r2, hr2, h⟩ := jbd_some h
  refine j_ro (pc' := 5) K (fun H hP => jrun_V K dX10_nextNumber_2 (M_X10_byteAt (jl E) (jg E) p0_0 p0_1 v1 s0 hr2) u_2_9 u_2_6 u_2_7 u_2_8 u_1_2 ⟨ok_X10_byteAt, by decide, by decide⟩ rfl (Nat.le_of_ble_eq_true rfl) 0 rfl rfl H hP) [0, 1] rfl rfl ?_
  refine j_bipush (pc' := 7) (v := (45 : Int32)) K dX10_nextNumber_5 (by decide) rfl ?_
  refine j_icmp_ne (pc' := 10) (tgt := 16) K dX10_nextNumber_7 (by decide) rfl (fun hc => ?_) (fun hc => ?_)
  · have h := jif hc h
    refine j_iload_n (pc' := 17) K dX10_nextNumber_16 rfl 1 rfl rfl ?_
    refine j_iconst (pc' := 18) (v := (2 : Int32)) K dX10_nextNumber_17 (by decide) rfl ?_
    refine j_iadd (pc' := 19) K dX10_nextNumber_18 rfl ?_
    obtain rfl := Option.some.inj h
    exact HR _ _ dX10_nextNumber_19
  · have h := jit hc h
    refine j_iload_n (pc' := 11) K dX10_nextNumber_10 rfl 1 rfl rfl ?_
    refine j_iconst (pc' := 12) (v := (3 : Int32)) K dX10_nextNumber_11 (by decide) rfl ?_
    refine j_iadd (pc' := 13) K dX10_nextNumber_12 rfl ?_
    refine j_goto (tgt := 19) K dX10_nextNumber_13 (by decide) ?_
    obtain rfl := Option.some.inj h
    exact HR _ _ dX10_nextNumber_19
set_option maxRecDepth 100000 in
set_option maxHeartbeats 4000000 in
theorem M_X10_nextNumber (l : Launch) (G : jG) (p0_0 p0_1 : Nat) (v1 : Int32) (s0 : TextS) {r : Int32} (h : f_X10_nextNumber v1 s0 = some r) : MC l yX10_nextNumber cX10_nextNumber 2 (some .int) 1 G jNo False (wText G p0_0 p0_1 s0) (wText G p0_0 p0_1 s0) [.ref p0_0, .int v1] (some (.int r)) := by
  refine mc_int (by decide +kernel) (Nat.le_of_ble_eq_true rfl) fun E hl hg hA hrw K HR => ?_
  subst hl
  subst hg
  exact b_X10_nextNumber p0_0 p0_1 s0 K HR v1 h
