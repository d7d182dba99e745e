theorem cl_0_s (G : jG) (p0_0 p0_1 p0_2 p0_3 p0_4 p0_5 p0_6 p0_7 p0_8 p0_9 p0_10 p0_11 p0_12 : Nat) (s : OrdersS) : ([1] : List Nat).map (fun i => (wOrders G p0_0 p0_1 p0_2 p0_3 p0_4 p0_5 p0_6 p0_7 p0_8 p0_9 p0_10 p0_11 p0_12 s)[i]?) = (wArrI8 G p0_1 (Orders_row s)).map some := rfl
theorem cl_0_m (G : jG) (p0_0 p0_1 p0_2 p0_3 p0_4 p0_5 p0_6 p0_7 p0_8 p0_9 p0_10 p0_11 p0_12 : Nat) (s : OrdersS) (t0 : ArrI8S) : jmrg (wOrders G p0_0 p0_1 p0_2 p0_3 p0_4 p0_5 p0_6 p0_7 p0_8 p0_9 p0_10 p0_11 p0_12 s) [1] (wArrI8 G p0_1 t0) = wOrders G p0_0 p0_1 p0_2 p0_3 p0_4 p0_5 p0_6 p0_7 p0_8 p0_9 p0_10 p0_11 p0_12 (Orders_row_s s t0) := rfl
theorem cl_1_f (G : jG) (p0_0 p0_1 p0_2 p0_3 p0_4 p0_5 p0_6 p0_7 p0_8 p0_9 p0_10 p0_11 p0_12 : Nat) (s : OrdersS) : ([0, 1, 2, 3, 4, 5, 6, 7, 8, 9, 10, 11, 12] : List Nat).filterMap (fun i => (wOrders G p0_0 p0_1 p0_2 p0_3 p0_4 p0_5 p0_6 p0_7 p0_8 p0_9 p0_10 p0_11 p0_12 s)[i]?) = (wOrders G p0_0 p0_1 p0_2 p0_3 p0_4 p0_5 p0_6 p0_7 p0_8 p0_9 p0_10 p0_11 p0_12 s) := rfl
theorem cl_2_s (G : jG) (p0_0 p0_1 p0_2 p0_3 p0_4 p0_5 p0_6 p0_7 p0_8 p0_9 p0_10 p0_11 p0_12 : Nat) (s : OrdersS) : ([2] : List Nat).map (fun i => (wOrders G p0_0 p0_1 p0_2 p0_3 p0_4 p0_5 p0_6 p0_7 p0_8 p0_9 p0_10 p0_11 p0_12 s)[i]?) = (wArrI8 G p0_2 (Orders_source s)).map some := rfl
theorem cl_2_m (G : jG) (p0_0 p0_1 p0_2 p0_3 p0_4 p0_5 p0_6 p0_7 p0_8 p0_9 p0_10 p0_11 p0_12 : Nat) (s : OrdersS) (t0 : ArrI8S) : jmrg (wOrders G p0_0 p0_1 p0_2 p0_3 p0_4 p0_5 p0_6 p0_7 p0_8 p0_9 p0_10 p0_11 p0_12 s) [2] (wArrI8 G p0_2 t0) = wOrders G p0_0 p0_1 p0_2 p0_3 p0_4 p0_5 p0_6 p0_7 p0_8 p0_9 p0_10 p0_11 p0_12 (Orders_source_s s t0) := rfl
theorem cl_3_f (G : jG) (p0_0 p0_1 p0_2 p0_3 p0_4 p0_5 p0_6 p0_7 p0_8 p0_9 p0_10 p0_11 p0_12 : Nat) (s : OrdersS) : ([] : List Nat).filterMap (fun i => (wOrders G p0_0 p0_1 p0_2 p0_3 p0_4 p0_5 p0_6 p0_7 p0_8 p0_9 p0_10 p0_11 p0_12 s)[i]?) = ([] : va_W) := rfl
theorem cl_4_f (G : jG) (p0_0 p0_1 p0_2 p0_3 p0_4 p0_5 p0_6 p0_7 p0_8 p0_9 p0_10 p0_11 p0_12 : Nat) (s : OrdersS) : ([4, 5] : List Nat).filterMap (fun i => (wOrders G p0_0 p0_1 p0_2 p0_3 p0_4 p0_5 p0_6 p0_7 p0_8 p0_9 p0_10 p0_11 p0_12 s)[i]?) = (wRings G p0_4 p0_5 (Orders_rings s)) := rfl
theorem cl_5_f (G : jG) (p0_0 p0_1 p0_2 p0_3 p0_4 p0_5 p0_6 p0_7 p0_8 p0_9 p0_10 p0_11 p0_12 : Nat) (s : OrdersS) : ([6, 7] : List Nat).filterMap (fun i => (wOrders G p0_0 p0_1 p0_2 p0_3 p0_4 p0_5 p0_6 p0_7 p0_8 p0_9 p0_10 p0_11 p0_12 s)[i]?) = (wFalls G p0_6 p0_7 (Orders_falls s)) := rfl
theorem cl_6_f (G : jG) (p0_0 p0_1 p0_2 p0_3 p0_4 p0_5 p0_6 p0_7 p0_8 p0_9 p0_10 p0_11 p0_12 : Nat) (s : OrdersS) : ([8, 9] : List Nat).filterMap (fun i => (wOrders G p0_0 p0_1 p0_2 p0_3 p0_4 p0_5 p0_6 p0_7 p0_8 p0_9 p0_10 p0_11 p0_12 s)[i]?) = (wLesserPairs G p0_8 p0_9 (Orders_pairs s)) := rfl
theorem cl_7_f (G : jG) (p0_0 p0_1 p0_2 p0_3 p0_4 p0_5 p0_6 p0_7 p0_8 p0_9 p0_10 p0_11 p0_12 : Nat) (s : OrdersS) : ([10, 4, 5] : List Nat).filterMap (fun i => (wOrders G p0_0 p0_1 p0_2 p0_3 p0_4 p0_5 p0_6 p0_7 p0_8 p0_9 p0_10 p0_11 p0_12 s)[i]?) = (wHeights G p0_10 p0_4 p0_5 (Orders_rings s)) := rfl
theorem cl_8_s (G : jG) (p0_0 p0_1 p0_2 p0_3 p0_4 p0_5 p0_6 p0_7 p0_8 p0_9 p0_10 p0_11 p0_12 : Nat) (s : OrdersS) : ([11, 12] : List Nat).map (fun i => (wOrders G p0_0 p0_1 p0_2 p0_3 p0_4 p0_5 p0_6 p0_7 p0_8 p0_9 p0_10 p0_11 p0_12 s)[i]?) = (wLongestRise G p0_11 p0_12 (Orders_rise s)).map some := rfl
theorem cl_8_m (G : jG) (p0_0 p0_1 p0_2 p0_3 p0_4 p0_5 p0_6 p0_7 p0_8 p0_9 p0_10 p0_11 p0_12 : Nat) (s : OrdersS) (t0 : LongestRiseS) : jmrg (wOrders G p0_0 p0_1 p0_2 p0_3 p0_4 p0_5 p0_6 p0_7 p0_8 p0_9 p0_10 p0_11 p0_12 s) [11, 12] (wLongestRise G p0_11 p0_12 t0) = wOrders G p0_0 p0_1 p0_2 p0_3 p0_4 p0_5 p0_6 p0_7 p0_8 p0_9 p0_10 p0_11 p0_12 (Orders_rise_s s t0) := rfl
theorem cl_9_f (G : jG) (p0_0 p0_1 p0_2 p0_3 p0_4 p0_5 p0_6 p0_7 p0_8 p0_9 p0_10 p0_11 p0_12 : Nat) (s : OrdersS) : ([1] : List Nat).filterMap (fun i => (wOrders G p0_0 p0_1 p0_2 p0_3 p0_4 p0_5 p0_6 p0_7 p0_8 p0_9 p0_10 p0_11 p0_12 s)[i]?) = (wArrI8 G p0_1 (Orders_row s)) := rfl
theorem cl_10_f (G : jG) (p0_0 p0_1 p0_2 p0_3 p0_4 p0_5 p0_6 p0_7 p0_8 p0_9 p0_10 p0_11 p0_12 : Nat) (s : OrdersS) : ([11, 12] : List Nat).filterMap (fun i => (wOrders G p0_0 p0_1 p0_2 p0_3 p0_4 p0_5 p0_6 p0_7 p0_8 p0_9 p0_10 p0_11 p0_12 s)[i]?) = (wLongestRise G p0_11 p0_12 (Orders_rise s)) := rfl
theorem ok_X6_unusedDigit : yX6_unusedDigit.cls ≠ "java/lang/invoke/MethodHandle" ∧ yX6_unusedDigit.cls ≠ "java/lang/invoke/VarHandle" ∧ (parseMethodDescriptor yX6_unusedDigit.desc).map (fun d => d.parameters.length) = some 2 := ⟨by decide, by decide, by decide +kernel⟩
def f_X6_unusedDigit_21 (v2 : Int32) : Option (Int32) :=
   jbd (f_J6_bitCount_0f7a4 ((v2 &&& (-v2)) - (1 : Int32))) (fun r27 =>
   some r27)
def f_X6_unusedDigit_4 : Nat → Int32 → Int32 → Int32 → Option (Int32)
  | 0, _, _, _ => none
  | n + 1, v1, v2, v3 =>
   if v1 ≤ v3 then
   f_X6_unusedDigit_21 v2
  else
   (f_X6_unusedDigit_4 n) v1 (v2 &&& (v2 - (1 : Int32))) (v3 + (1 : Int32))
def f_X6_unusedDigit (v0 : Int32) (v1 : Int32) : Option (Int32) :=
   f_X6_unusedDigit_4 jFU v1 v0 (0 : Int32)
set_option maxRecDepth 100000 in
set_option maxHeartbeats 4000000 in
theorem b_X6_unusedDigit_21 {E : jE}  {res : Int32} (K : jC E cX6_unusedDigit 4 RX6 1) (HR : jRI E cX6_unusedDigit 4 ([] : va_W) res) : ∀ (v2 : Int32), f_X6_unusedDigit_21 v2 = some res → J E 4 ([] : va_W) 21 [(2, .int v2)] [] := by
  intro v2 h
  unfold f_X6_unusedDigit_21 at h
  refine j_iload_n (pc' := 22) K dX6_unusedDigit_21 rfl 0 rfl rfl ?_
  refine j_iload_n (pc' := 23) K dX6_unusedDigit_22 rfl 0 rfl rfl ?_
  refine j_ineg (pc' := 24) K dX6_unusedDigit_23 rfl ?_
  refine j_iand (pc' := 25) K dX6_unusedDigit_24 rfl ?_
  refine j_iconst (pc' := 26) (v := (1 : Int32)) K dX6_unusedDigit_25 (by decide) rfl ?_
  refine j_isub (pc' := 27) K dX6_unusedDigit_26 rfl ?_
  obtain ⟨r27, hr27, h⟩ := jbd_some h
  refine j_ro (pc' := 30) K (fun H hP => jrun_S K dX6_unusedDigit_27 (M_J6_bitCount_0f7a4 (jl E) (jg E) ((v2 &&& (-v2)) - (1 : Int32)) hr27) u_3_31 u_3_55 u_3_30 u_1_16 ⟨ok_J6_bitCount_0f7a4, by decide, by decide⟩ rfl (Nat.le_of_ble_eq_true rfl) H) [] rfl rfl ?_
  obtain rfl := Option.some.inj h
  exact HR _ _ dX6_unusedDigit_30
set_option maxRecDepth 100000 in
set_option maxHeartbeats 4000000 in
theorem b_X6_unusedDigit_4 {E : jE}  {res : Int32} (K : jC E cX6_unusedDigit 4 RX6 1) (HR : jRI E cX6_unusedDigit 4 ([] : va_W) res) : ∀ (n : Nat) (v1 : Int32) (v2 : Int32) (v3 : Int32), f_X6_unusedDigit_4 n v1 v2 v3 = some res → J E 4 ([] : va_W) 4 [(1, .int v1), (2, .int v2), (3, .int v3)] [] := by
  intro n
  induction n with
  | zero => intro _ _ _ h; cases h
  | succ n ih =>
    intro v1 v2 v3 h
    rw [f_X6_unusedDigit_4] at h
    refine j_iload_n (pc' := 5) K dX6_unusedDigit_4 rfl 2 rfl rfl ?_
    refine j_iload_n (pc' := 6) K dX6_unusedDigit_5 rfl 0 rfl rfl ?_
    refine j_icmp_ge (pc' := 9) (tgt := 21) K dX6_unusedDigit_6 (by decide) rfl (fun hc => ?_) (fun hc => ?_)
    · have h := jit hc h
      refine j_sub [1] rfl ?_
      exact b_X6_unusedDigit_21 K HR v2 h
    · have h := jif hc h
      refine j_iload_n (pc' := 10) K dX6_unusedDigit_9 rfl 1 rfl rfl ?_
      refine j_iload_n (pc' := 11) K dX6_unusedDigit_10 rfl 1 rfl rfl ?_
      refine j_iconst (pc' := 12) (v := (1 : Int32)) K dX6_unusedDigit_11 (by decide) rfl ?_
      refine j_isub (pc' := 13) K dX6_unusedDigit_12 rfl ?_
      refine j_iand (pc' := 14) K dX6_unusedDigit_13 rfl ?_
      refine j_istore_n (pc' := 15) (lv' := [(2, .int (v2 &&& (v2 - (1 : Int32)))), (1, .int v1), (3, .int v3)]) K dX6_unusedDigit_14 rfl (by decide) rfl rfl ?_
      refine j_iinc (pc' := 18) (j := 2) (v := (v3 + (1 : Int32))) (lv' := [(3, .int (v3 + (1 : Int32))), (2, .int (v2 &&& (v2 - (1 : Int32)))), (1, .int v1)]) K dX6_unusedDigit_15 rfl rfl (by decide) rfl rfl ?_
      refine j_goto (tgt := 4) K dX6_unusedDigit_18 (by decide) ?_
      refine j_sub [2, 1, 0] rfl ?_
      exact ih v1 (v2 &&& (v2 - (1 : Int32))) (v3 + (1 : Int32)) h
set_option maxRecDepth 100000 in
set_option maxHeartbeats 4000000 in
theorem b_X6_unusedDigit {E : jE}  {res : Int32} (K : jC E cX6_unusedDigit 4 RX6 1) (HR : jRI E cX6_unusedDigit 4 ([] : va_W) res) : ∀ (v0 : Int32) (v1 : Int32), f_X6_unusedDigit v0 v1 = some res → J E 4 ([] : va_W) 0 [(0, .int v0), (1, .int v1)] [] := by
  intro v0 v1 h
  unfold f_X6_unusedDigit at h
  refine j_iload_n (pc' := 1) K dX6_unusedDigit_0 rfl 0 rfl rfl ?_
  refine j_istore_n (pc' := 2) (lv' := [(2, .int v0), (0, .int v0), (1, .int v1)]) K dX6_unusedDigit_1 rfl (by decide) rfl rfl ?_
  refine j_iconst (pc' := 3) (v := (0 : Int32)) K dX6_unusedDigit_2 (by decide) rfl ?_
  refine j_istore_n (pc' := 4) (lv' := [(3, .int (0 : Int32)), (2, .int v0), (0, .int v0), (1, .int v1)]) K dX6_unusedDigit_3 rfl (by decide) rfl rfl ?_
  refine j_sub [3, 1, 0] rfl ?_
  exact b_X6_unusedDigit_4 K HR jFU v1 v0 (0 : Int32) h
set_option maxRecDepth 100000 in
set_option maxHeartbeats 4000000 in
theorem M_X6_unusedDigit (l : Launch) (G : jG)  (v0 : Int32) (v1 : Int32) {r : Int32} (h : f_X6_unusedDigit v0 v1 = some r) : MC l yX6_unusedDigit cX6_unusedDigit 4 (some .int) 1 G jNo False ([] : va_W) ([] : va_W) [.int v0, .int v1] (some (.int r)) := by
  refine mc_int (by decide +kernel) (Nat.le_of_ble_eq_true rfl) fun E hl hg hA hrw K HR => ?_
  subst hl
  subst hg
  exact b_X6_unusedDigit K HR v0 v1 h
theorem ok_X6_unpack : yX6_unpack.cls ≠ "java/lang/invoke/MethodHandle" ∧ yX6_unpack.cls ≠ "java/lang/invoke/VarHandle" ∧ (parseMethodDescriptor yX6_unpack.desc).map (fun d => d.parameters.length) = some 3 := ⟨by decide, by decide, by decide +kernel⟩
def f_X6_unpack_2 : Nat → Int32 → Int32 → Int32 → ArrI8S → Option (ArrI8S)
  | 0, _, _, _, _ => none
  | n + 1, v0, v1, v3, s0 =>
   if v0 ≤ v3 then
   some s0
  else
   if (8 : Int32) ≤ v3 then
    some s0
   else
    jbd (f_X11_digitAt v1 v0 v3) (fun r18 =>
     jgd v3 8 (
      (f_X6_unpack_2 n) v0 v1 (v3 + (1 : Int32)) (upd s0 (Int32.toNatClampNeg v3) r18)))
def f_X6_unpack (v0 : Int32) (v1 : Int32) (s0 : ArrI8S) : Option (ArrI8S) :=
   f_X6_unpack_2 jFU v0 v1 (0 : Int32) s0
set_option maxRecDepth 100000 in
set_option maxHeartbeats 4000000 in
theorem b_X6_unpack_2 {E : jE} (p0_0 : Nat) {res : ArrI8S} (K : jC E cX6_unpack 4 RX6 1) (hrw : jrw E) (HR : jRV E cX6_unpack 4 (wArrI8 (jg E) p0_0 res)) : ∀ (n : Nat) (v0 : Int32) (v1 : Int32) (v3 : Int32) (s0 : ArrI8S), f_X6_unpack_2 n v0 v1 v3 s0 = some res → J E 4 (wArrI8 (jg E) p0_0 s0) 2 [(0, .int v0), (1, .int v1), (2, .ref p0_0), (3, .int v3)] [] := by
  intro n
  induction n with
  | zero => intro _ _ _ _ h; cases h
  | succ n ih =>
    intro v0 v1 v3 s0 h
    rw [f_X6_unpack_2] at h
    refine j_iload_n (pc' := 3) K dX6_unpack_2 rfl 3 rfl rfl ?_
    refine j_iload_n (pc' := 4) K dX6_unpack_3 rfl 0 rfl rfl ?_
    refine j_icmp_ge (pc' := 7) (tgt := 28) K dX6_unpack_4 (by decide) rfl (fun hc => ?_) (fun hc => ?_)
    · have h := jit hc h
      obtain rfl := Option.some.inj h
      exact HR _ _ dX6_unpack_28
    · have h := jif hc h
      refine j_iload_n (pc' := 8) K dX6_unpack_7 rfl 3 rfl rfl ?_
      refine j_aload_n (pc' := 9) K dX6_unpack_8 rfl 2 rfl rfl ?_
      refine j_alen (pc' := 10) (v := (8 : Int32)) K dX6_unpack_9 0 0 rfl rfl rfl rfl ?_
      refine j_icmp_ge (pc' := 13) (tgt := 28) K dX6_unpack_10 (by decide) rfl (fun hc => ?_) (fun hc => ?_)
      · have h := jit hc h
        obtain rfl := Option.some.inj h
        exact HR _ _ dX6_unpack_28
      · have h := jif hc h
        refine j_aload_n (pc' := 14) K dX6_unpack_13 rfl 2 rfl rfl ?_
        refine j_iload_n (pc' := 15) K dX6_unpack_14 rfl 3 rfl rfl ?_
        refine j_iload_n (pc' := 16) K dX6_unpack_15 rfl 1 rfl rfl ?_
        refine j_iload_n (pc' := 17) K dX6_unpack_16 rfl 0 rfl rfl ?_
        refine j_iload_n (pc' := 18) K dX6_unpack_17 rfl 3 rfl rfl ?_
        obtain ⟨r18, hr18, h⟩ := jbd_some h
        refine j_ro (pc' := 21) K (fun H hP => jrun_SN K dX6_unpack_18 (host := "CountTriangles") (M_X11_digitAt (jl E) (jg E) v1 v0 v3 hr18) u_2_223 (by decide) u_2_222 u_1_1 ⟨ok_X11_digitAt, by decide, by decide⟩ rfl (Nat.le_of_ble_eq_true rfl) H) [] rfl rfl ?_
        obtain ⟨hg, h⟩ := jgd_some h
        refine j_iast (pc' := 22) (ws' := (wArrI8 (jg E) p0_0 (upd s0 (Int32.toNatClampNeg v3) r18))) K dX6_unpack_21 hrw 0 rfl hg (st_ArrI8_0 ..) rfl ?_
        refine j_iinc (pc' := 25) (j := 3) (v := (v3 + (1 : Int32))) (lv' := [(3, .int (v3 + (1 : Int32))), (0, .int v0), (1, .int v1), (2, .ref p0_0)]) K dX6_unpack_22 rfl rfl (by decide) rfl rfl ?_
        refine j_goto (tgt := 2) K dX6_unpack_25 (by decide) ?_
        refine j_sub [1, 2, 3, 0] rfl ?_
        exact ih v0 v1 (v3 + (1 : Int32)) (upd s0 (Int32.toNatClampNeg v3) r18) h
set_option maxRecDepth 100000 in
set_option maxHeartbeats 4000000 in
theorem b_X6_unpack {E : jE} (p0_0 : Nat) {res : ArrI8S} (K : jC E cX6_unpack 4 RX6 1) (hrw : jrw E) (HR : jRV E cX6_unpack 4 (wArrI8 (jg E) p0_0 res)) : ∀ (v0 : Int32) (v1 : Int32) (s0 : ArrI8S), f_X6_unpack v0 v1 s0 = some res → J E 4 (wArrI8 (jg E) p0_0 s0) 0 [(0, .int v0), (1, .int v1), (2, .ref p0_0)] [] := by
  intro v0 v1 s0 h
  unfold f_X6_unpack at h
  refine j_iconst (pc' := 1) (v := (0 : Int32)) K dX6_unpack_0 (by decide) rfl ?_
  refine j_istore_n (pc' := 2) (lv' := [(3, .int (0 : Int32)), (0, .int v0), (1, .int v1), (2, .ref p0_0)]) K dX6_unpack_1 rfl (by decide) rfl rfl ?_
  refine j_sub [1, 2, 3, 0] rfl ?_
  exact b_X6_unpack_2 p0_0 K hrw HR jFU v0 v1 (0 : Int32) s0 h
set_option maxRecDepth 100000 in
set_option maxHeartbeats 4000000 in
theorem M_X6_unpack (l : Launch) (G : jG) (p0_0 : Nat) (v0 : Int32) (v1 : Int32) (s0 : ArrI8S) {r : ArrI8S} (h : f_X6_unpack v0 v1 s0 = some r) : MC l yX6_unpack cX6_unpack 4 none 1 G (jad (wArrI8 G p0_0 s0)) True (wArrI8 G p0_0 s0) (wArrI8 G p0_0 r) [.int v0, .int v1, .ref p0_0] none := by
  refine mc_void (by decide +kernel) (Nat.le_of_ble_eq_true rfl) fun E hl hg hA hrw K HR => ?_
  subst hl
  subst hg
  have hrw : jrw E := by rw [hrw]; trivial
  exact b_X6_unpack p0_0 K hrw HR v0 v1 s0 h
theorem ok_X6_isOne : yX6_isOne.cls ≠ "java/lang/invoke/MethodHandle" ∧ yX6_isOne.cls ≠ "java/lang/invoke/VarHandle" ∧ (parseMethodDescriptor yX6_isOne.desc).map (fun d => d.parameters.length) = some 2 := ⟨by decide, by decide, by decide +kernel⟩
def f_X6_isOne_39 (v1 : Int32) (v3 : Int32) : Option (Int32) :=
   if v3 = (((1 : Int32) <<< (v1 &&& 31)) - (1 : Int32)) then
   jzb (1 : Int32) (
    some (1 : Int32))
  else
   jzb (0 : Int32) (
    some (0 : Int32))
def f_X6_isOne_15 : Nat → Int32 → Int32 → Int32 → Int32 → Option (Int32)
  | 0, _, _, _, _ => none
  | n + 1, v1, v2, v3, v4 =>
   if v1 ≤ v4 then
   f_X6_isOne_39 v1 v3
  else
   jbd (f_X11_digitAt v2 v1 v4) (fun r27 =>
    (f_X6_isOne_15 n) v1 v2 (v3 ||| ((1 : Int32) <<< (r27 &&& 31))) (v4 + (1 : Int32)))
def f_X6_isOne (v1 : Int32) (v2 : Int32) : Option (Int32) :=
   jbd (f_X11_hasDigitsAlone v2 v1) (fun r2 =>
   if r2 = 0 then
    jzb (0 : Int32) (
     some (0 : Int32))
   else
    f_X6_isOne_15 jFU v1 v2 (0 : Int32) (0 : Int32))
set_option maxRecDepth 100000 in
set_option maxHeartbeats 4000000 in
theorem b_X6_isOne_39 {E : jE}  (q0 : Nat) {res : Int32} (K : jC E cX6_isOne 5 RX6 1) (HR : jRZ E cX6_isOne 5 ([] : va_W) res) : ∀ (v1 : Int32) (v3 : Int32), f_X6_isOne_39 v1 v3 = some res → J E 5 ([] : va_W) 39 [(1, .int v1), (3, .int v3)] [] := by
  intro v1 v3 h
  unfold f_X6_isOne_39 at h
  refine j_iload_n (pc' := 40) K dX6_isOne_39 rfl 1 rfl rfl ?_
  refine j_iconst (pc' := 41) (v := (1 : Int32)) K dX6_isOne_40 (by decide) rfl ?_
  refine j_iload_n (pc' := 42) K dX6_isOne_41 rfl 0 rfl rfl ?_
  refine j_ishl (pc' := 43) K dX6_isOne_42 rfl ?_
  refine j_iconst (pc' := 44) (v := (1 : Int32)) K dX6_isOne_43 (by decide) rfl ?_
  refine j_isub (pc' := 45) K dX6_isOne_44 rfl ?_
  refine j_icmp_ne (pc' := 48) (tgt := 52) K dX6_isOne_45 (by decide) rfl (fun hc => ?_) (fun hc => ?_)
  · have h := jif hc h
    refine j_iconst (pc' := 53) (v := (0 : Int32)) K dX6_isOne_52 (by decide) rfl ?_
    obtain ⟨hg, h⟩ := jzb_some h
    obtain rfl := Option.some.inj h
    exact HR _ _ hg dX6_isOne_53
  · have h := jit hc h
    refine j_iconst (pc' := 49) (v := (1 : Int32)) K dX6_isOne_48 (by decide) rfl ?_
    refine j_goto (tgt := 53) K dX6_isOne_49 (by decide) ?_
    obtain ⟨hg, h⟩ := jzb_some h
    obtain rfl := Option.some.inj h
    exact HR _ _ hg dX6_isOne_53
set_option maxRecDepth 100000 in
set_option maxHeartbeats 4000000 in
theorem b_X6_isOne_15 {E : jE}  (q0 : Nat) {res : Int32} (K : jC E cX6_isOne 5 RX6 1) (HR : jRZ E cX6_isOne 5 ([] : va_W) res) : ∀ (n : Nat) (v1 : Int32) (v2 : Int32) (v3 : Int32) (v4 : Int32), f_X6_isOne_15 n v1 v2 v3 v4 = some res → J E 5 ([] : va_W) 15 [(1, .int v1), (2, .int v2), (3, .int v3), (4, .int v4)] [] := by
  intro n
  induction n with
  | zero => intro _ _ _ _ h; cases h
  | succ n ih =>
    intro v1 v2 v3 v4 h
    rw [f_X6_isOne_15] at h
    refine j_iload (pc' := 17) K dX6_isOne_15 3 rfl rfl ?_
    refine j_iload_n (pc' := 18) K dX6_isOne_17 rfl 0 rfl rfl ?_
    refine j_icmp_ge (pc' := 21) (tgt := 39) K dX6_isOne_18 (by decide) rfl (fun hc => ?_) (fun hc => ?_)
    · have h := jit hc h
      refine j_sub [0, 2] rfl ?_
      exact b_X6_isOne_39 q0 K HR v1 v3 h
    · have h := jif hc h
      refine j_iload_n (pc' := 22) K dX6_isOne_21 rfl 2 rfl rfl ?_
      refine j_iconst (pc' := 23) (v := (1 : Int32)) K dX6_isOne_22 (by decide) rfl ?_
      refine j_iload_n (pc' := 24) K dX6_isOne_23 rfl 1 rfl rfl ?_
      refine j_iload_n (pc' := 25) K dX6_isOne_24 rfl 0 rfl rfl ?_
      refine j_iload (pc' := 27) K dX6_isOne_25 3 rfl rfl ?_
      obtain ⟨r27, hr27, h⟩ := jbd_some h
      refine j_ro (pc' := 30) K (fun H hP => jrun_SN K dX6_isOne_27 (host := "CountTriangles") (M_X11_digitAt (jl E) (jg E) v2 v1 v4 hr27) u_2_223 (by decide) u_2_222 u_1_1 ⟨ok_X11_digitAt, by decide, by decide⟩ rfl (Nat.le_of_ble_eq_true rfl) H) [] rfl rfl ?_
      refine j_ishl (pc' := 31) K dX6_isOne_30 rfl ?_
      refine j_ior (pc' := 32) K dX6_isOne_31 rfl ?_
      refine j_istore_n (pc' := 33) (lv' := [(3, .int (v3 ||| ((1 : Int32) <<< (r27 &&& 31)))), (1, .int v1), (2, .int v2), (4, .int v4)]) K dX6_isOne_32 rfl (by decide) rfl rfl ?_
      refine j_iinc (pc' := 36) (j := 3) (v := (v4 + (1 : Int32))) (lv' := [(4, .int (v4 + (1 : Int32))), (3, .int (v3 ||| ((1 : Int32) <<< (r27 &&& 31)))), (1, .int v1), (2, .int v2)]) K dX6_isOne_33 rfl rfl (by decide) rfl rfl ?_
      refine j_goto (tgt := 15) K dX6_isOne_36 (by decide) ?_
      refine j_sub [2, 3, 1, 0] rfl ?_
      exact ih v1 v2 (v3 ||| ((1 : Int32) <<< (r27 &&& 31))) (v4 + (1 : Int32)) h
set_option maxRecDepth 100000 in
set_option maxHeartbeats 4000000 in
theorem b_X6_isOne {E : jE}  (q0 : Nat) {res : Int32} (K : jC E cX6_isOne 5 RX6 1) (HR : jRZ E cX6_isOne 5 ([] : va_W) res) : ∀ (v1 : Int32) (v2 : Int32), f_X6_isOne v1 v2 = some res → J E 5 ([] : va_W) 0 [(0, .ref q0), (1, .int v1), (2, .int v2)] [] := by
  intro v1 v2 h
  unfold f_X6_isOne at h
  refine j_iload_n (pc' := 1) K dX6_isOne_0 rfl 2 rfl rfl ?_
  refine j_iload_n (pc' := 2) K dX6_isOne_1 rfl 1 rfl rfl ?_
  obtain ⟨r2, hr2, h⟩ := jbd_some h
  refine j_ro (pc' := 5) K (fun H hP => jrun_SN K dX6_isOne_2 (host := "CountTriangles") (M_X11_hasDigitsAlone (jl E) (jg E) v2 v1 hr2) u_2_220 (by decide) u_2_219 u_1_1 ⟨ok_X11_hasDigitsAlone, by decide, by decide⟩ rfl (Nat.le_of_ble_eq_true rfl) H) [] rfl rfl ?_
  refine j_if_ne (pc' := 8) (tgt := 10) K dX6_isOne_5 (by decide) rfl (fun hc => ?_) (fun hc => ?_)
  · have h := jif hc h
    refine j_iconst (pc' := 11) (v := (0 : Int32)) K dX6_isOne_10 (by decide) rfl ?_
    refine j_istore_n (pc' := 12) (lv' := [(3, .int (0 : Int32)), (0, .ref q0), (1, .int v1), (2, .int v2)]) K dX6_isOne_11 rfl (by decide) rfl rfl ?_
    refine j_iconst (pc' := 13) (v := (0 : Int32)) K dX6_isOne_12 (by decide) rfl ?_
    refine j_istore (pc' := 15) (lv' := [(4, .int (0 : Int32)), (3, .int (0 : Int32)), (0, .ref q0), (1, .int v1), (2, .int v2)]) K dX6_isOne_13 (by decide) rfl rfl ?_
    refine j_sub [3, 4, 1, 0] rfl ?_
    exact b_X6_isOne_15 q0 K HR jFU v1 v2 (0 : Int32) (0 : Int32) h
  · have h := jit hc h
    refine j_iconst (pc' := 9) (v := (0 : Int32)) K dX6_isOne_8 (by decide) rfl ?_
    obtain ⟨hg, h⟩ := jzb_some h
    obtain rfl := Option.some.inj h
    exact HR _ _ hg dX6_isOne_9
set_option maxRecDepth 100000 in
set_option maxHeartbeats 4000000 in
theorem M_X6_isOne (l : Launch) (G : jG)  (q0 : Nat) (v1 : Int32) (v2 : Int32) {r : Int32} (h : f_X6_isOne v1 v2 = some r) : MC l yX6_isOne cX6_isOne 5 (some .boolean) 1 G jNo False ([] : va_W) ([] : va_W) [.ref q0, .int v1, .int v2] (some (.int r)) := by
  refine mc_bool (by decide +kernel) (Nat.le_of_ble_eq_true rfl) fun E hl hg hA hrw K HR => ?_
  subst hl
  subst hg
  exact b_X6_isOne q0 K HR v1 v2 h
theorem ok_X6_packed : yX6_packed.cls ≠ "java/lang/invoke/MethodHandle" ∧ yX6_packed.cls ≠ "java/lang/invoke/VarHandle" ∧ (parseMethodDescriptor yX6_packed.desc).map (fun d => d.parameters.length) = some 1 := ⟨by decide, by decide, by decide +kernel⟩
def f_X6_packed_4 : Nat → Int32 → Int32 → Int32 → OrdersS → Option (Int32)
  | 0, _, _, _, _ => none
  | n + 1, v1, v2, v3, s0 =>
   if v1 ≤ v3 then
   some v2
  else
   if (8 : Int32) ≤ v3 then
    some v2
   else
    jgd v3 8 (
     (f_X6_packed_4 n) v1 ((v2 <<< ((4 : Int32) &&& 31)) ||| ((Orders_row s0) (Int32.toNatClampNeg v3))) (v3 + (1 : Int32)) s0)
def f_X6_packed (v1 : Int32) (s0 : OrdersS) : Option (Int32) :=
   f_X6_packed_4 jFU v1 (0 : Int32) (0 : Int32) s0
set_option maxRecDepth 100000 in
set_option maxHeartbeats 4000000 in
theorem b_X6_packed_4 {E : jE} (p0_0 p0_1 p0_2 p0_3 p0_4 p0_5 p0_6 p0_7 p0_8 p0_9 p0_10 p0_11 p0_12 : Nat) (s0 : OrdersS) {res : Int32} (K : jC E cX6_packed 4 RX6 0) (HR : jRI E cX6_packed 4 (wOrders (jg E) p0_0 p0_1 p0_2 p0_3 p0_4 p0_5 p0_6 p0_7 p0_8 p0_9 p0_10 p0_11 p0_12 s0) res) : ∀ (n : Nat) (v1 : Int32) (v2 : Int32) (v3 : Int32), f_X6_packed_4 n v1 v2 v3 s0 = some res → J E 4 (wOrders (jg E) p0_0 p0_1 p0_2 p0_3 p0_4 p0_5 p0_6 p0_7 p0_8 p0_9 p0_10 p0_11 p0_12 s0) 4 [(0, .ref p0_0), (1, .int v1), (2, .int v2), (3, .int v3)] [] := by
  intro n
  induction n with
  | zero => intro _ _ _ h; cases h
  | succ n ih =>
    intro v1 v2 v3 h
    rw [f_X6_packed_4] at h
    refine j_iload_n (pc' := 5) K dX6_packed_4 rfl 3 rfl rfl ?_
    refine j_iload_n (pc' := 6) K dX6_packed_5 rfl 1 rfl rfl ?_
    refine j_icmp_ge (pc' := 9) (tgt := 32) K dX6_packed_6 (by decide) rfl (fun hc => ?_) (fun hc => ?_)
    · have h := jit hc h
      refine j_iload_n (pc' := 33) K dX6_packed_32 rfl 2 rfl rfl ?_
      obtain rfl := Option.some.inj h
      exact HR _ _ dX6_packed_33
    · have h := jif hc h
      refine j_iload_n (pc' := 10) K dX6_packed_9 rfl 3 rfl rfl ?_
      refine j_bipush (pc' := 12) (v := (8 : Int32)) K dX6_packed_10 (by decide) rfl ?_
      refine j_icmp_ge (pc' := 15) (tgt := 32) K dX6_packed_12 (by decide) rfl (fun hc => ?_) (fun hc => ?_)
      · have h := jit hc h
        refine j_iload_n (pc' := 33) K dX6_packed_32 rfl 2 rfl rfl ?_
        obtain rfl := Option.some.inj h
        exact HR _ _ dX6_packed_33
      · have h := jif hc h
        refine j_iload_n (pc' := 16) K dX6_packed_15 rfl 2 rfl rfl ?_
        refine j_iconst (pc' := 17) (v := (4 : Int32)) K dX6_packed_16 (by decide) rfl ?_
        refine j_ishl (pc' := 18) K dX6_packed_17 rfl ?_
        refine j_aload_n (pc' := 19) K dX6_packed_18 rfl 0 rfl rfl ?_
        refine j_get (pc' := 22) K dX6_packed_19 inX6 0 rfl rfl 0 (by decide) u_1_142 rfl rfl rfl ?_
        refine j_iload_n (pc' := 23) K dX6_packed_22 rfl 3 rfl rfl ?_
        obtain ⟨hg, h⟩ := jgd_some h
        refine j_iald (pc' := 24) K dX6_packed_23 1 rfl hg rfl ?_
        refine j_ior (pc' := 25) K dX6_packed_24 rfl ?_
        refine j_istore_n (pc' := 26) (lv' := [(2, .int ((v2 <<< ((4 : Int32) &&& 31)) ||| ((Orders_row s0) (Int32.toNatClampNeg v3)))), (0, .ref p0_0), (1, .int v1), (3, .int v3)]) K dX6_packed_25 rfl (by decide) rfl rfl ?_
        refine j_iinc (pc' := 29) (j := 3) (v := (v3 + (1 : Int32))) (lv' := [(3, .int (v3 + (1 : Int32))), (2, .int ((v2 <<< ((4 : Int32) &&& 31)) ||| ((Orders_row s0) (Int32.toNatClampNeg v3)))), (0, .ref p0_0), (1, .int v1)]) K dX6_packed_26 rfl rfl (by decide) rfl rfl ?_
        refine j_goto (tgt := 4) K dX6_packed_29 (by decide) ?_
        refine j_sub [2, 3, 1, 0] rfl ?_
        exact ih v1 ((v2 <<< ((4 : Int32) &&& 31)) ||| ((Orders_row s0) (Int32.toNatClampNeg v3))) (v3 + (1 : Int32)) h
set_option maxRecDepth 100000 in
set_option maxHeartbeats 4000000 in
theorem b_X6_packed {E : jE} (p0_0 p0_1 p0_2 p0_3 p0_4 p0_5 p0_6 p0_7 p0_8 p0_9 p0_10 p0_11 p0_12 : Nat) (s0 : OrdersS) {res : Int32} (K : jC E cX6_packed 4 RX6 0) (HR : jRI E cX6_packed 4 (wOrders (jg E) p0_0 p0_1 p0_2 p0_3 p0_4 p0_5 p0_6 p0_7 p0_8 p0_9 p0_10 p0_11 p0_12 s0) res) : ∀ (v1 : Int32), f_X6_packed v1 s0 = some res → J E 4 (wOrders (jg E) p0_0 p0_1 p0_2 p0_3 p0_4 p0_5 p0_6 p0_7 p0_8 p0_9 p0_10 p0_11 p0_12 s0) 0 [(0, .ref p0_0), (1, .int v1)] [] := by
  intro v1 h
  unfold f_X6_packed at h
  refine j_iconst (pc' := 1) (v := (0 : Int32)) K dX6_packed_0 (by decide) rfl ?_
  refine j_istore_n (pc' := 2) (lv' := [(2, .int (0 : Int32)), (0, .ref p0_0), (1, .int v1)]) K dX6_packed_1 rfl (by decide) rfl rfl ?_
  refine j_iconst (pc' := 3) (v := (0 : Int32)) K dX6_packed_2 (by decide) rfl ?_
  refine j_istore_n (pc' := 4) (lv' := [(3, .int (0 : Int32)), (2, .int (0 : Int32)), (0, .ref p0_0), (1, .int v1)]) K dX6_packed_3 rfl (by decide) rfl rfl ?_
  refine j_sub [2, 3, 1, 0] rfl ?_
  exact b_X6_packed_4 p0_0 p0_1 p0_2 p0_3 p0_4 p0_5 p0_6 p0_7 p0_8 p0_9 p0_10 p0_11 p0_12 s0 K HR jFU v1 (0 : Int32) (0 : Int32) h
set_option maxRecDepth 100000 in
set_option maxHeartbeats 4000000 in
theorem M_X6_packed (l : Launch) (G : jG) (p0_0 p0_1 p0_2 p0_3 p0_4 p0_5 p0_6 p0_7 p0_8 p0_9 p0_10 p0_11 p0_12 : Nat) (v1 : Int32) (s0 : OrdersS) {r : Int32} (h : f_X6_packed v1 s0 = some r) : MC l yX6_packed cX6_packed 4 (some .int) 0 G jNo False (wOrders G p0_0 p0_1 p0_2 p0_3 p0_4 p0_5 p0_6 p0_7 p0_8 p0_9 p0_10 p0_11 p0_12 s0) (wOrders G p0_0 p0_1 p0_2 p0_3 p0_4 p0_5 p0_6 p0_7 p0_8 p0_9 p0_10 p0_11 p0_12 s0) [.ref p0_0, .int v1] (some (.int r)) := by
  refine mc_int (by decide +kernel) (Nat.le_of_ble_eq_true rfl) fun E hl hg hA hrw K HR => ?_
  subst hl
  subst hg
  exact b_X6_packed p0_0 p0_1 p0_2 p0_3 p0_4 p0_5 p0_6 p0_7 p0_8 p0_9 p0_10 p0_11 p0_12 s0 K HR v1 h
theorem ok_X6_lesserLater : yX6_lesserLater.cls ≠ "java/lang/invoke/MethodHandle" ∧ yX6_lesserLater.cls ≠ "java/lang/invoke/VarHandle" ∧ (parseMethodDescriptor yX6_lesserLater.desc).map (fun d => d.parameters.length) = some 2 := ⟨by decide, by decide, by decide +kernel⟩
def f_X6_lesserLater_39 (k7 : Int32 → Int32 → Int32 → Int32 → OrdersS → Option (Int32)) (v1 : Int32) (v2 : Int32) (v3 : Int32) (v4 : Int32) (s0 : OrdersS) : Option (Int32) :=
   k7 v1 v2 v3 (v4 + (1 : Int32)) s0
def f_X6_lesserLater_7 : Nat → Int32 → Int32 → Int32 → Int32 → OrdersS → Option (Int32)
  | 0, _, _, _, _, _ => none
  | n + 1, v1, v2, v3, v4, s0 =>
   if v1 ≤ v4 then
   some v3
  else
   if (8 : Int32) ≤ v4 then
    some v3
   else
    jgd v4 8 (
     jgd v2 8 (
      if ((Orders_row s0) (Int32.toNatClampNeg v2)) ≤ ((Orders_row s0) (Int32.toNatClampNeg v4)) then
       f_X6_lesserLater_39 (f_X6_lesserLater_7 n) v1 v2 v3 v4 s0
      else
       f_X6_lesserLater_39 (f_X6_lesserLater_7 n) v1 v2 (v3 + (1 : Int32)) v4 s0))
def f_X6_lesserLater (v1 : Int32) (v2 : Int32) (s0 : OrdersS) : Option (Int32) :=
   f_X6_lesserLater_7 jFU v1 v2 (0 : Int32) (v2 + (1 : Int32)) s0
set_option maxRecDepth 100000 in
set_option maxHeartbeats 4000000 in
theorem b_X6_lesserLater_39 {E : jE} (p0_0 p0_1 p0_2 p0_3 p0_4 p0_5 p0_6 p0_7 p0_8 p0_9 p0_10 p0_11 p0_12 : Nat) (s0 : OrdersS) {res : Int32} (K : jC E cX6_lesserLater 5 RX6 0) (HR : jRI E cX6_lesserLater 5 (wOrders (jg E) p0_0 p0_1 p0_2 p0_3 p0_4 p0_5 p0_6 p0_7 p0_8 p0_9 p0_10 p0_11 p0_12 s0) res) (k7 : Int32 → Int32 → Int32 → Int32 → OrdersS → Option (Int32)) (hk7 : ∀ (v1 : Int32) (v2 : Int32) (v3 : Int32) (v4 : Int32), k7 v1 v2 v3 v4 s0 = some res → J E 5 (wOrders (jg E) p0_0 p0_1 p0_2 p0_3 p0_4 p0_5 p0_6 p0_7 p0_8 p0_9 p0_10 p0_11 p0_12 s0) 7 [(0, .ref p0_0), (1, .int v1), (2, .int v2), (3, .int v3), (4, .int v4)] []) : ∀ (v1 : Int32) (v2 : Int32) (v3 : Int32) (v4 : Int32), f_X6_lesserLater_39 k7 v1 v2 v3 v4 s0 = some res → J E 5 (wOrders (jg E) p0_0 p0_1 p0_2 p0_3 p0_4 p0_5 p0_6 p0_7 p0_8 p0_9 p0_10 p0_11 p0_12 s0) 39 [(0, .ref p0_0), (1, .int v1), (2, .int v2), (3, .int v3), (4, .int v4)] [] := by
  intro v1 v2 v3 v4 h
  unfold f_X6_lesserLater_39 at h
  refine j_iinc (pc' := 42) (j := 4) (v := (v4 + (1 : Int32))) (lv' := [(4, .int (v4 + (1 : Int32))), (0, .ref p0_0), (1, .int v1), (2, .int v2), (3, .int v3)]) K dX6_lesserLater_39 rfl rfl (by decide) rfl rfl ?_
  refine j_goto (tgt := 7) K dX6_lesserLater_42 (by decide) ?_
  refine j_sub [1, 2, 3, 4, 0] rfl ?_
  exact hk7 v1 v2 v3 (v4 + (1 : Int32)) h
set_option maxRecDepth 100000 in
set_option maxHeartbeats 4000000 in
theorem b_X6_lesserLater_7 {E : jE} (p0_0 p0_1 p0_2 p0_3 p0_4 p0_5 p0_6 p0_7 p0_8 p0_9 p0_10 p0_11 p0_12 : Nat) (s0 : OrdersS) {res : Int32} (K : jC E cX6_lesserLater 5 RX6 0) (HR : jRI E cX6_lesserLater 5 (wOrders (jg E) p0_0 p0_1 p0_2 p0_3 p0_4 p0_5 p0_6 p0_7 p0_8 p0_9 p0_10 p0_11 p0_12 s0) res) : ∀ (n : Nat) (v1 : Int32) (v2 : Int32) (v3 : Int32) (v4 : Int32), f_X6_lesserLater_7 n v1 v2 v3 v4 s0 = some res → J E 5 (wOrders (jg E) p0_0 p0_1 p0_2 p0_3 p0_4 p0_5 p0_6 p0_7 p0_8 p0_9 p0_10 p0_11 p0_12 s0) 7 [(0, .ref p0_0), (1, .int v1), (2, .int v2), (3, .int v3), (4, .int v4)] [] := by
  intro n
  induction n with
  | zero => intro _ _ _ _ h; cases h
  | succ n ih =>
    intro v1 v2 v3 v4 h
    rw [f_X6_lesserLater_7] at h
    refine j_iload (pc' := 9) K dX6_lesserLater_7 4 rfl rfl ?_
    refine j_iload_n (pc' := 10) K dX6_lesserLater_9 rfl 1 rfl rfl ?_
    refine j_icmp_ge (pc' := 13) (tgt := 45) K dX6_lesserLater_10 (by decide) rfl (fun hc => ?_) (fun hc => ?_)
    · have h := jit hc h
      refine j_iload_n (pc' := 46) K dX6_lesserLater_45 rfl 3 rfl rfl ?_
      obtain rfl := Option.some.inj h
      exact HR _ _ dX6_lesserLater_46
    · have h := jif hc h
      refine j_iload (pc' := 15) K dX6_lesserLater_13 4 rfl rfl ?_
      refine j_bipush (pc' := 17) (v := (8 : Int32)) K dX6_lesserLater_15 (by decide) rfl ?_
      refine j_icmp_ge (pc' := 20) (tgt := 45) K dX6_lesserLater_17 (by decide) rfl (fun hc => ?_) (fun hc => ?_)
      · have h := jit hc h
        refine j_iload_n (pc' := 46) K dX6_lesserLater_45 rfl 3 rfl rfl ?_
        obtain rfl := Option.some.inj h
        exact HR _ _ dX6_lesserLater_46
      · have h := jif hc h
        refine j_aload_n (pc' := 21) K dX6_lesserLater_20 rfl 0 rfl rfl ?_
        refine j_get (pc' := 24) K dX6_lesserLater_21 inX6 0 rfl rfl 0 (by decide) u_1_142 rfl rfl rfl ?_
        refine j_iload (pc' := 26) K dX6_lesserLater_24 4 rfl rfl ?_
        obtain ⟨hg, h⟩ := jgd_some h
        refine j_iald (pc' := 27) K dX6_lesserLater_26 1 rfl hg rfl ?_
        refine j_aload_n (pc' := 28) K dX6_lesserLater_27 rfl 0 rfl rfl ?_
        refine j_get (pc' := 31) K dX6_lesserLater_28 inX6 0 rfl rfl 0 (by decide) u_1_142 rfl rfl rfl ?_
        refine j_iload_n (pc' := 32) K dX6_lesserLater_31 rfl 2 rfl rfl ?_
        obtain ⟨hg, h⟩ := jgd_some h
        refine j_iald (pc' := 33) K dX6_lesserLater_32 1 rfl hg rfl ?_
        refine j_icmp_ge (pc' := 36) (tgt := 39) K dX6_lesserLater_33 (by decide) rfl (fun hc => ?_) (fun hc => ?_)
        · have h := jit hc h
          refine j_sub [0, 1, 2, 3, 4] rfl ?_
          exact b_X6_lesserLater_39 p0_0 p0_1 p0_2 p0_3 p0_4 p0_5 p0_6 p0_7 p0_8 p0_9 p0_10 p0_11 p0_12 s0 K HR (f_X6_lesserLater_7 n) (ih) v1 v2 v3 v4 h
        · have h := jif hc h
          refine j_iinc (pc' := 39) (j := 3) (v := (v3 + (1 : Int32))) (lv' := [(3, .int (v3 + (1 : Int32))), (0, .ref p0_0), (1, .int v1), (2, .int v2), (4, .int v4)]) K dX6_lesserLater_36 rfl rfl (by decide) rfl rfl ?_
          refine j_sub [1, 2, 3, 0, 4] rfl ?_
          exact b_X6_lesserLater_39 p0_0 p0_1 p0_2 p0_3 p0_4 p0_5 p0_6 p0_7 p0_8 p0_9 p0_10 p0_11 p0_12 s0 K HR (f_X6_lesserLater_7 n) (ih) v1 v2 (v3 + (1 : Int32)) v4 h
set_option maxRecDepth 100000 in
set_option maxHeartbeats 4000000 in
theorem b_X6_lesserLater {E : jE} (p0_0 p0_1 p0_2 p0_3 p0_4 p0_5 p0_6 p0_7 p0_8 p0_9 p0_10 p0_11 p0_12 : Nat) (s0 : OrdersS) {res : Int32} (K : jC E cX6_lesserLater 5 RX6 0) (HR : jRI E cX6_lesserLater 5 (wOrders (jg E) p0_0 p0_1 p0_2 p0_3 p0_4 p0_5 p0_6 p0_7 p0_8 p0_9 p0_10 p0_11 p0_12 s0) res) : ∀ (v1 : Int32) (v2 : Int32), f_X6_lesserLater v1 v2 s0 = some res → J E 5 (wOrders (jg E) p0_0 p0_1 p0_2 p0_3 p0_4 p0_5 p0_6 p0_7 p0_8 p0_9 p0_10 p0_11 p0_12 s0) 0 [(0, .ref p0_0), (1, .int v1), (2, .int v2)] [] := by
  intro v1 v2 h
  unfold f_X6_lesserLater at h
  refine j_iconst (pc' := 1) (v := (0 : Int32)) K dX6_lesserLater_0 (by decide) rfl ?_
  refine j_istore_n (pc' := 2) (lv' := [(3, .int (0 : Int32)), (0, .ref p0_0), (1, .int v1), (2, .int v2)]) K dX6_lesserLater_1 rfl (by decide) rfl rfl ?_
  refine j_iload_n (pc' := 3) K dX6_lesserLater_2 rfl 3 rfl rfl ?_
  refine j_iconst (pc' := 4) (v := (1 : Int32)) K dX6_lesserLater_3 (by decide) rfl ?_
  refine j_iadd (pc' := 5) K dX6_lesserLater_4 rfl ?_
  refine j_istore (pc' := 7) (lv' := [(4, .int (v2 + (1 : Int32))), (3, .int (0 : Int32)), (0, .ref p0_0), (1, .int v1), (2, .int v2)]) K dX6_lesserLater_5 (by decide) rfl rfl ?_
  refine j_sub [2, 3, 4, 1, 0] rfl ?_
  exact b_X6_lesserLater_7 p0_0 p0_1 p0_2 p0_3 p0_4 p0_5 p0_6 p0_7 p0_8 p0_9 p0_10 p0_11 p0_12 s0 K HR jFU v1 v2 (0 : Int32) (v2 + (1 : Int32)) h
set_option maxRecDepth 100000 in
set_option maxHeartbeats 4000000 in
theorem M_X6_lesserLater (l : Launch) (G : jG) (p0_0 p0_1 p0_2 p0_3 p0_4 p0_5 p0_6 p0_7 p0_8 p0_9 p0_10 p0_11 p0_12 : Nat) (v1 : Int32) (v2 : Int32) (s0 : OrdersS) {r : Int32} (h : f_X6_lesserLater v1 v2 s0 = some r) : MC l yX6_lesserLater cX6_lesserLater 5 (some .int) 0 G jNo False (wOrders G p0_0 p0_1 p0_2 p0_3 p0_4 p0_5 p0_6 p0_7 p0_8 p0_9 p0_10 p0_11 p0_12 s0) (wOrders G p0_0 p0_1 p0_2 p0_3 p0_4 p0_5 p0_6 p0_7 p0_8 p0_9 p0_10 p0_11 p0_12 s0) [.ref p0_0, .int v1, .int v2] (some (.int r)) := by
  refine mc_int (by decide +kernel) (Nat.le_of_ble_eq_true rfl) fun E hl hg hA hrw K HR => ?_
  subst hl
  subst hg
  exact b_X6_lesserLater p0_0 p0_1 p0_2 p0_3 p0_4 p0_5 p0_6 p0_7 p0_8 p0_9 p0_10 p0_11 p0_12 s0 K HR v1 v2 h
theorem ok_X6_rankOf : yX6_rankOf.cls ≠ "java/lang/invoke/MethodHandle" ∧ yX6_rankOf.cls ≠ "java/lang/invoke/VarHandle" ∧ (parseMethodDescriptor yX6_rankOf.desc).map (fun d => d.parameters.length) = some 2 := ⟨by decide, by decide, by decide +kernel⟩
def f_X6_rankOf_14 : Nat → Int32 → Int32 → Int32 → OrdersS → Option (Int32 × OrdersS)
  | 0, _, _, _, _ => none
  | n + 1, v1, v3, v4, s0 =>
   if v1 ≤ v4 then
   some (v3, s0)
  else
   if (8 : Int32) ≤ v4 then
    some (v3, s0)
   else
    jbd (f_X6_lesserLater v1 v4 s0) (fun r32 =>
     jgd ((v1 - (1 : Int32)) - v4) 9 (
      (f_X6_rankOf_14 n) v1 (v3 + (r32 * (jfac (Int32.toNatClampNeg ((v1 - (1 : Int32)) - v4))))) (v4 + (1 : Int32)) s0))
def f_X6_rankOf (v1 : Int32) (v2 : Int32) (s0 : OrdersS) : Option (Int32 × OrdersS) :=
   jbd (f_X6_unpack v1 v2 (Orders_row s0)) (fun r6 =>
   f_X6_rankOf_14 jFU v1 (0 : Int32) (0 : Int32) (Orders_row_s s0 r6))
set_option maxRecDepth 100000 in
set_option maxHeartbeats 4000000 in
theorem b_X6_rankOf_14 {E : jE} (p0_0 p0_1 p0_2 p0_3 p0_4 p0_5 p0_6 p0_7 p0_8 p0_9 p0_10 p0_11 p0_12 : Nat) {res : Int32 × OrdersS} (K : jC E cX6_rankOf 5 RX6 2) (hrw : jrw E) (HR : jRI E cX6_rankOf 5 (wOrders (jg E) p0_0 p0_1 p0_2 p0_3 p0_4 p0_5 p0_6 p0_7 p0_8 p0_9 p0_10 p0_11 p0_12 (res.2)) (res.1)) : ∀ (n : Nat) (v1 : Int32) (v3 : Int32) (v4 : Int32) (s0 : OrdersS), f_X6_rankOf_14 n v1 v3 v4 s0 = some res → J E 5 (wOrders (jg E) p0_0 p0_1 p0_2 p0_3 p0_4 p0_5 p0_6 p0_7 p0_8 p0_9 p0_10 p0_11 p0_12 s0) 14 [(0, .ref p0_0), (1, .int v1), (3, .int v3), (4, .int v4)] [] := by
  intro n
  induction n with
  | zero => intro _ _ _ _ h; cases h
  | succ n ih =>
    intro v1 v3 v4 s0 h
    rw [f_X6_rankOf_14] at h
    refine j_iload (pc' := 16) K dX6_rankOf_14 3 rfl rfl ?_
    refine j_iload_n (pc' := 17) K dX6_rankOf_16 rfl 1 rfl rfl ?_
    refine j_icmp_ge (pc' := 20) (tgt := 54) K dX6_rankOf_17 (by decide) rfl (fun hc => ?_) (fun hc => ?_)
    · have h := jit hc h
      refine j_iload_n (pc' := 55) K dX6_rankOf_54 rfl 2 rfl rfl ?_
      obtain rfl := Option.some.inj h
      exact HR _ _ dX6_rankOf_55
    · have h := jif hc h
      refine j_iload (pc' := 22) K dX6_rankOf_20 3 rfl rfl ?_
      refine j_bipush (pc' := 24) (v := (8 : Int32)) K dX6_rankOf_22 (by decide) rfl ?_
      refine j_icmp_ge (pc' := 27) (tgt := 54) K dX6_rankOf_24 (by decide) rfl (fun hc => ?_) (fun hc => ?_)
      · have h := jit hc h
        refine j_iload_n (pc' := 55) K dX6_rankOf_54 rfl 2 rfl rfl ?_
        obtain rfl := Option.some.inj h
        exact HR _ _ dX6_rankOf_55
      · have h := jif hc h
        refine j_iload_n (pc' := 28) K dX6_rankOf_27 rfl 2 rfl rfl ?_
        refine j_aload_n (pc' := 29) K dX6_rankOf_28 rfl 0 rfl rfl ?_
        refine j_iload_n (pc' := 30) K dX6_rankOf_29 rfl 1 rfl rfl ?_
        refine j_iload (pc' := 32) K dX6_rankOf_30 3 rfl rfl ?_
        obtain ⟨r32, hr32, h⟩ := jbd_some h
        refine j_ro (pc' := 35) K (fun H hP => jrun_V K dX6_rankOf_32 (M_X6_lesserLater (jl E) (jg E) p0_0 p0_1 p0_2 p0_3 p0_4 p0_5 p0_6 p0_7 p0_8 p0_9 p0_10 p0_11 p0_12 v1 v4 s0 hr32) u_3_123 u_3_120 u_3_122 u_p_13 u_1_4 ⟨ok_X6_lesserLater, by decide, by decide⟩ rfl (Nat.le_of_ble_eq_true rfl) 0 rfl rfl H hP) [0, 1, 2, 3, 4, 5, 6, 7, 8, 9, 10, 11, 12] (cl_1_f ..) rfl ?_
        refine j_getsN (pc' := 38) K dX6_rankOf_35 (host := "CountTriangles") (by decide) rfl ?_
        refine j_iload_n (pc' := 39) K dX6_rankOf_38 rfl 1 rfl rfl ?_
        refine j_iconst (pc' := 40) (v := (1 : Int32)) K dX6_rankOf_39 (by decide) rfl ?_
        refine j_isub (pc' := 41) K dX6_rankOf_40 rfl ?_
        refine j_iload (pc' := 43) K dX6_rankOf_41 3 rfl rfl ?_
        refine j_isub (pc' := 44) K dX6_rankOf_43 rfl ?_
        obtain ⟨hg, h⟩ := jgd_some h
        refine j_fald (pc' := 45) K dX6_rankOf_44 hg rfl ?_
        refine j_imul (pc' := 46) K dX6_rankOf_45 rfl ?_
        refine j_iadd (pc' := 47) K dX6_rankOf_46 rfl ?_
        refine j_istore_n (pc' := 48) (lv' := [(3, .int (v3 + (r32 * (jfac (Int32.toNatClampNeg ((v1 - (1 : Int32)) - v4)))))), (0, .ref p0_0), (1, .int v1), (4, .int v4)]) K dX6_rankOf_47 rfl (by decide) rfl rfl ?_
        refine j_iinc (pc' := 51) (j := 3) (v := (v4 + (1 : Int32))) (lv' := [(4, .int (v4 + (1 : Int32))), (3, .int (v3 + (r32 * (jfac (Int32.toNatClampNeg ((v1 - (1 : Int32)) - v4)))))), (0, .ref p0_0), (1, .int v1)]) K dX6_rankOf_48 rfl rfl (by decide) rfl rfl ?_
        refine j_goto (tgt := 14) K dX6_rankOf_51 (by decide) ?_
        refine j_sub [2, 3, 1, 0] rfl ?_
        exact ih v1 (v3 + (r32 * (jfac (Int32.toNatClampNeg ((v1 - (1 : Int32)) - v4))))) (v4 + (1 : Int32)) s0 h
set_option maxRecDepth 100000 in
set_option maxHeartbeats 4000000 in
theorem b_X6_rankOf {E : jE} (p0_0 p0_1 p0_2 p0_3 p0_4 p0_5 p0_6 p0_7 p0_8 p0_9 p0_10 p0_11 p0_12 : Nat) {res : Int32 × OrdersS} (K : jC E cX6_rankOf 5 RX6 2) (hrw : jrw E) (HR : jRI E cX6_rankOf 5 (wOrders (jg E) p0_0 p0_1 p0_2 p0_3 p0_4 p0_5 p0_6 p0_7 p0_8 p0_9 p0_10 p0_11 p0_12 (res.2)) (res.1)) : ∀ (v1 : Int32) (v2 : Int32) (s0 : OrdersS), f_X6_rankOf v1 v2 s0 = some res → J E 5 (wOrders (jg E) p0_0 p0_1 p0_2 p0_3 p0_4 p0_5 p0_6 p0_7 p0_8 p0_9 p0_10 p0_11 p0_12 s0) 0 [(0, .ref p0_0), (1, .int v1), (2, .int v2)] [] := by
  intro v1 v2 s0 h
  unfold f_X6_rankOf at h
  refine j_iload_n (pc' := 1) K dX6_rankOf_0 rfl 1 rfl rfl ?_
  refine j_iload_n (pc' := 2) K dX6_rankOf_1 rfl 2 rfl rfl ?_
  refine j_aload_n (pc' := 3) K dX6_rankOf_2 rfl 0 rfl rfl ?_
  refine j_get (pc' := 6) K dX6_rankOf_3 inX6 0 rfl rfl 0 (by decide) u_1_142 rfl rfl rfl ?_
  obtain ⟨r6, hr6, h⟩ := jbd_some h
  refine j_rw (pc' := 9) (ws' := (wOrders (jg E) p0_0 p0_1 p0_2 p0_3 p0_4 p0_5 p0_6 p0_7 p0_8 p0_9 p0_10 p0_11 p0_12 (Orders_row_s s0 r6))) K (fun H hP => jrun_S K dX6_rankOf_6 (M_X6_unpack (jl E) (jg E) p0_1 v1 v2 (Orders_row s0) hr6) u_3_119 u_3_117 u_3_118 u_1_4 ⟨ok_X6_unpack, by decide, by decide⟩ rfl (Nat.le_of_ble_eq_true rfl) H) hrw [1] rfl (cl_0_s ..) rfl (cl_0_m ..) (ad_Orders ..) rfl ?_
  refine j_iconst (pc' := 10) (v := (0 : Int32)) K dX6_rankOf_9 (by decide) rfl ?_
  refine j_istore_n (pc' := 11) (lv' := [(3, .int (0 : Int32)), (0, .ref p0_0), (1, .int v1), (2, .int v2)]) K dX6_rankOf_10 rfl (by decide) rfl rfl ?_
  refine j_iconst (pc' := 12) (v := (0 : Int32)) K dX6_rankOf_11 (by decide) rfl ?_
  refine j_istore (pc' := 14) (lv' := [(4, .int (0 : Int32)), (3, .int (0 : Int32)), (0, .ref p0_0), (1, .int v1), (2, .int v2)]) K dX6_rankOf_12 (by decide) rfl rfl ?_
  refine j_sub [2, 3, 1, 0] rfl ?_
  exact b_X6_rankOf_14 p0_0 p0_1 p0_2 p0_3 p0_4 p0_5 p0_6 p0_7 p0_8 p0_9 p0_10 p0_11 p0_12 K hrw HR jFU v1 (0 : Int32) (0 : Int32) (Orders_row_s s0 r6) h
set_option maxRecDepth 100000 in
set_option maxHeartbeats 4000000 in
theorem M_X6_rankOf (l : Launch) (G : jG) (p0_0 p0_1 p0_2 p0_3 p0_4 p0_5 p0_6 p0_7 p0_8 p0_9 p0_10 p0_11 p0_12 : Nat) (v1 : Int32) (v2 : Int32) (s0 : OrdersS) {r : Int32 × OrdersS} (h : f_X6_rankOf v1 v2 s0 = some r) : MC l yX6_rankOf cX6_rankOf 5 (some .int) 2 G (jad (wOrders G p0_0 p0_1 p0_2 p0_3 p0_4 p0_5 p0_6 p0_7 p0_8 p0_9 p0_10 p0_11 p0_12 s0)) True (wOrders G p0_0 p0_1 p0_2 p0_3 p0_4 p0_5 p0_6 p0_7 p0_8 p0_9 p0_10 p0_11 p0_12 s0) (wOrders G p0_0 p0_1 p0_2 p0_3 p0_4 p0_5 p0_6 p0_7 p0_8 p0_9 p0_10 p0_11 p0_12 (r.2)) [.ref p0_0, .int v1, .int v2] (some (.int (r.1))) := by
  refine mc_int (by decide +kernel) (Nat.le_of_ble_eq_true rfl) fun E hl hg hA hrw K HR => ?_
  subst hl
  subst hg
  have hrw : jrw E := by rw [hrw]; trivial
  exact b_X6_rankOf p0_0 p0_1 p0_2 p0_3 p0_4 p0_5 p0_6 p0_7 p0_8 p0_9 p0_10 p0_11 p0_12 K hrw HR v1 v2 s0 h
theorem ok_X6_turnedOver : yX6_turnedOver.cls ≠ "java/lang/invoke/MethodHandle" ∧ yX6_turnedOver.cls ≠ "java/lang/invoke/VarHandle" ∧ (parseMethodDescriptor yX6_turnedOver.desc).map (fun d => d.parameters.length) = some 2 := ⟨by decide, by decide, by decide +kernel⟩
def f_X6_turnedOver_40 (v1 : Int32) (s0 : OrdersS) : Option (Int32 × OrdersS) :=
   jbd (f_X6_packed v1 s0) (fun r42 =>
   some (r42, s0))
def f_X6_turnedOver_11 : Nat → Int32 → Int32 → OrdersS → Option (Int32 × OrdersS)
  | 0, _, _, _ => none
  | n + 1, v1, v3, s0 =>
   if v1 ≤ v3 then
   f_X6_turnedOver_40 v1 s0
  else
   if (8 : Int32) ≤ v3 then
    f_X6_turnedOver_40 v1 s0
   else
    jgd v3 8 (
     jgd ((Orders_source s0) (Int32.toNatClampNeg v3)) 8 (
      (f_X6_turnedOver_11 n) v1 (v3 + (1 : Int32)) (Orders_row_s s0 (upd (Orders_row s0) (Int32.toNatClampNeg ((Orders_source s0) (Int32.toNatClampNeg v3))) v3))))
def f_X6_turnedOver (v1 : Int32) (v2 : Int32) (s0 : OrdersS) : Option (Int32 × OrdersS) :=
   jbd (f_X6_unpack v1 v2 (Orders_source s0)) (fun r6 =>
   f_X6_turnedOver_11 jFU v1 (0 : Int32) (Orders_source_s s0 r6))
set_option maxRecDepth 100000 in
set_option maxHeartbeats 4000000 in
theorem b_X6_turnedOver_40 {E : jE} (p0_0 p0_1 p0_2 p0_3 p0_4 p0_5 p0_6 p0_7 p0_8 p0_9 p0_10 p0_11 p0_12 : Nat) {res : Int32 × OrdersS} (K : jC E cX6_turnedOver 4 RX6 2) (hrw : jrw E) (HR : jRI E cX6_turnedOver 4 (wOrders (jg E) p0_0 p0_1 p0_2 p0_3 p0_4 p0_5 p0_6 p0_7 p0_8 p0_9 p0_10 p0_11 p0_12 (res.2)) (res.1)) : ∀ (v1 : Int32) (s0 : OrdersS), f_X6_turnedOver_40 v1 s0 = some res → J E 4 (wOrders (jg E) p0_0 p0_1 p0_2 p0_3 p0_4 p0_5 p0_6 p0_7 p0_8 p0_9 p0_10 p0_11 p0_12 s0) 40 [(0, .ref p0_0), (1, .int v1)] [] := by
  intro v1 s0 h
  unfold f_X6_turnedOver_40 at h
  refine j_aload_n (pc' := 41) K dX6_turnedOver_40 rfl 0 rfl rfl ?_
  refine j_iload_n (pc' := 42) K dX6_turnedOver_41 rfl 1 rfl rfl ?_
  obtain ⟨r42, hr42, h⟩ := jbd_some h
  refine j_ro (pc' := 45) K (fun H hP => jrun_V K dX6_turnedOver_42 (M_X6_packed (jl E) (jg E) p0_0 p0_1 p0_2 p0_3 p0_4 p0_5 p0_6 p0_7 p0_8 p0_9 p0_10 p0_11 p0_12 v1 s0 hr42) u_3_98 u_3_95 u_3_97 u_p_11 u_1_4 ⟨ok_X6_packed, by decide, by decide⟩ rfl (Nat.le_of_ble_eq_true rfl) 0 rfl rfl H hP) [0, 1, 2, 3, 4, 5, 6, 7, 8, 9, 10, 11, 12] (cl_1_f ..) rfl ?_
  obtain rfl := Option.some.inj h
  exact HR _ _ dX6_turnedOver_45
set_option maxRecDepth 100000 in
set_option maxHeartbeats 4000000 in
theorem b_X6_turnedOver_11 {E : jE} (p0_0 p0_1 p0_2 p0_3 p0_4 p0_5 p0_6 p0_7 p0_8 p0_9 p0_10 p0_11 p0_12 : Nat) {res : Int32 × OrdersS} (K : jC E cX6_turnedOver 4 RX6 2) (hrw : jrw E) (HR : jRI E cX6_turnedOver 4 (wOrders (jg E) p0_0 p0_1 p0_2 p0_3 p0_4 p0_5 p0_6 p0_7 p0_8 p0_9 p0_10 p0_11 p0_12 (res.2)) (res.1)) : ∀ (n : Nat) (v1 : Int32) (v3 : Int32) (s0 : OrdersS), f_X6_turnedOver_11 n v1 v3 s0 = some res → J E 4 (wOrders (jg E) p0_0 p0_1 p0_2 p0_3 p0_4 p0_5 p0_6 p0_7 p0_8 p0_9 p0_10 p0_11 p0_12 s0) 11 [(0, .ref p0_0), (1, .int v1), (3, .int v3)] [] := by
  intro n
  induction n with
  | zero => intro _ _ _ h; cases h
  | succ n ih =>
    intro v1 v3 s0 h
    rw [f_X6_turnedOver_11] at h
    refine j_iload_n (pc' := 12) K dX6_turnedOver_11 rfl 2 rfl rfl ?_
    refine j_iload_n (pc' := 13) K dX6_turnedOver_12 rfl 1 rfl rfl ?_
    refine j_icmp_ge (pc' := 16) (tgt := 40) K dX6_turnedOver_13 (by decide) rfl (fun hc => ?_) (fun hc => ?_)
    · have h := jit hc h
      refine j_sub [0, 1] rfl ?_
      exact b_X6_turnedOver_40 p0_0 p0_1 p0_2 p0_3 p0_4 p0_5 p0_6 p0_7 p0_8 p0_9 p0_10 p0_11 p0_12 K hrw HR v1 s0 h
    · have h := jif hc h
      refine j_iload_n (pc' := 17) K dX6_turnedOver_16 rfl 2 rfl rfl ?_
      refine j_bipush (pc' := 19) (v := (8 : Int32)) K dX6_turnedOver_17 (by decide) rfl ?_
      refine j_icmp_ge (pc' := 22) (tgt := 40) K dX6_turnedOver_19 (by decide) rfl (fun hc => ?_) (fun hc => ?_)
      · have h := jit hc h
        refine j_sub [0, 1] rfl ?_
        exact b_X6_turnedOver_40 p0_0 p0_1 p0_2 p0_3 p0_4 p0_5 p0_6 p0_7 p0_8 p0_9 p0_10 p0_11 p0_12 K hrw HR v1 s0 h
      · have h := jif hc h
        refine j_aload_n (pc' := 23) K dX6_turnedOver_22 rfl 0 rfl rfl ?_
        refine j_get (pc' := 26) K dX6_turnedOver_23 inX6 0 rfl rfl 0 (by decide) u_1_142 rfl rfl rfl ?_
        refine j_aload_n (pc' := 27) K dX6_turnedOver_26 rfl 0 rfl rfl ?_
        refine j_get (pc' := 30) K dX6_turnedOver_27 inX6 0 rfl rfl 1 (by decide) u_1_143 rfl rfl rfl ?_
        refine j_iload_n (pc' := 31) K dX6_turnedOver_30 rfl 2 rfl rfl ?_
        obtain ⟨hg, h⟩ := jgd_some h
        refine j_iald (pc' := 32) K dX6_turnedOver_31 2 rfl hg rfl ?_
        refine j_iload_n (pc' := 33) K dX6_turnedOver_32 rfl 2 rfl rfl ?_
        obtain ⟨hg, h⟩ := jgd_some h
        refine j_iast (pc' := 34) (ws' := (wOrders (jg E) p0_0 p0_1 p0_2 p0_3 p0_4 p0_5 p0_6 p0_7 p0_8 p0_9 p0_10 p0_11 p0_12 (Orders_row_s s0 (upd (Orders_row s0) (Int32.toNatClampNeg ((Orders_source s0) (Int32.toNatClampNeg v3))) v3)))) K dX6_turnedOver_33 hrw 1 rfl hg (st_Orders_1 ..) rfl ?_
        refine j_iinc (pc' := 37) (j := 2) (v := (v3 + (1 : Int32))) (lv' := [(3, .int (v3 + (1 : Int32))), (0, .ref p0_0), (1, .int v1)]) K dX6_turnedOver_34 rfl rfl (by decide) rfl rfl ?_
        refine j_goto (tgt := 11) K dX6_turnedOver_37 (by decide) ?_
        refine j_sub [1, 2, 0] rfl ?_
        exact ih v1 (v3 + (1 : Int32)) (Orders_row_s s0 (upd (Orders_row s0) (Int32.toNatClampNeg ((Orders_source s0) (Int32.toNatClampNeg v3))) v3)) h
set_option maxRecDepth 100000 in
set_option maxHeartbeats 4000000 in
theorem b_X6_turnedOver {E : jE} (p0_0 p0_1 p0_2 p0_3 p0_4 p0_5 p0_6 p0_7 p0_8 p0_9 p0_10 p0_11 p0_12 : Nat) {res : Int32 × OrdersS} (K : jC E cX6_turnedOver 4 RX6 2) (hrw : jrw E) (HR : jRI E cX6_turnedOver 4 (wOrders (jg E) p0_0 p0_1 p0_2 p0_3 p0_4 p0_5 p0_6 p0_7 p0_8 p0_9 p0_10 p0_11 p0_12 (res.2)) (res.1)) : ∀ (v1 : Int32) (v2 : Int32) (s0 : OrdersS), f_X6_turnedOver v1 v2 s0 = some res → J E 4 (wOrders (jg E) p0_0 p0_1 p0_2 p0_3 p0_4 p0_5 p0_6 p0_7 p0_8 p0_9 p0_10 p0_11 p0_12 s0) 0 [(0, .ref p0_0), (1, .int v1), (2, .int v2)] [] := by
  intro v1 v2 s0 h
  unfold f_X6_turnedOver at h
  refine j_iload_n (pc' := 1) K dX6_turnedOver_0 rfl 1 rfl rfl ?_
  refine j_iload_n (pc' := 2) K dX6_turnedOver_1 rfl 2 rfl rfl ?_
  refine j_aload_n (pc' := 3) K dX6_turnedOver_2 rfl 0 rfl rfl ?_
  refine j_get (pc' := 6) K dX6_turnedOver_3 inX6 0 rfl rfl 1 (by decide) u_1_143 rfl rfl rfl ?_
  obtain ⟨r6, hr6, h⟩ := jbd_some h
  refine j_rw (pc' := 9) (ws' := (wOrders (jg E) p0_0 p0_1 p0_2 p0_3 p0_4 p0_5 p0_6 p0_7 p0_8 p0_9 p0_10 p0_11 p0_12 (Orders_source_s s0 r6))) K (fun H hP => jrun_S K dX6_turnedOver_6 (M_X6_unpack (jl E) (jg E) p0_2 v1 v2 (Orders_source s0) hr6) u_3_119 u_3_117 u_3_118 u_1_4 ⟨ok_X6_unpack, by decide, by decide⟩ rfl (Nat.le_of_ble_eq_true rfl) H) hrw [2] rfl (cl_2_s ..) rfl (cl_2_m ..) (ad_Orders ..) rfl ?_
  refine j_iconst (pc' := 10) (v := (0 : Int32)) K dX6_turnedOver_9 (by decide) rfl ?_
  refine j_istore_n (pc' := 11) (lv' := [(3, .int (0 : Int32)), (0, .ref p0_0), (1, .int v1), (2, .int v2)]) K dX6_turnedOver_10 rfl (by decide) rfl rfl ?_
  refine j_sub [1, 2, 0] rfl ?_
  exact b_X6_turnedOver_11 p0_0 p0_1 p0_2 p0_3 p0_4 p0_5 p0_6 p0_7 p0_8 p0_9 p0_10 p0_11 p0_12 K hrw HR jFU v1 (0 : Int32) (Orders_source_s s0 r6) h
set_option maxRecDepth 100000 in
set_option maxHeartbeats 4000000 in
theorem M_X6_turnedOver (l : Launch) (G : jG) (p0_0 p0_1 p0_2 p0_3 p0_4 p0_5 p0_6 p0_7 p0_8 p0_9 p0_10 p0_11 p0_12 : Nat) (v1 : Int32) (v2 : Int32) (s0 : OrdersS) {r : Int32 × OrdersS} (h : f_X6_turnedOver v1 v2 s0 = some r) : MC l yX6_turnedOver cX6_turnedOver 4 (some .int) 2 G (jad (wOrders G p0_0 p0_1 p0_2 p0_3 p0_4 p0_5 p0_6 p0_7 p0_8 p0_9 p0_10 p0_11 p0_12 s0)) True (wOrders G p0_0 p0_1 p0_2 p0_3 p0_4 p0_5 p0_6 p0_7 p0_8 p0_9 p0_10 p0_11 p0_12 s0) (wOrders G p0_0 p0_1 p0_2 p0_3 p0_4 p0_5 p0_6 p0_7 p0_8 p0_9 p0_10 p0_11 p0_12 (r.2)) [.ref p0_0, .int v1, .int v2] (some (.int (r.1))) := by
  refine mc_int (by decide +kernel) (Nat.le_of_ble_eq_true rfl) fun E hl hg hA hrw K HR => ?_
  subst hl
  subst hg
  have hrw : jrw E := by rw [hrw]; trivial
  exact b_X6_turnedOver p0_0 p0_1 p0_2 p0_3 p0_4 p0_5 p0_6 p0_7 p0_8 p0_9 p0_10 p0_11 p0_12 K hrw HR v1 v2 s0 h
theorem ok_X6_oneBehind : yX6_oneBehind.cls ≠ "java/lang/invoke/MethodHandle" ∧ yX6_oneBehind.cls ≠ "java/lang/invoke/VarHandle" ∧ (parseMethodDescriptor yX6_oneBehind.desc).map (fun d => d.parameters.length) = some 3 := ⟨by decide, by decide, by decide +kernel⟩
def f_X6_oneBehind_50 (v1 : Int32) (s0 : OrdersS) : Option (Int32 × OrdersS) :=
   jbd (f_X6_packed v1 s0) (fun r52 =>
   some (r52, s0))
def f_X6_oneBehind_12 : Nat → Int32 → Int32 → Int32 → OrdersS → Option (Int32 × OrdersS)
  | 0, _, _, _, _ => none
  | n + 1, v1, v3, v4, s0 =>
   if v1 ≤ v4 then
   f_X6_oneBehind_50 v1 s0
  else
   if (8 : Int32) ≤ v4 then
    f_X6_oneBehind_50 v1 s0
   else
    jbd (f_X11_digitAt v3 v1 v4) (fun r39 =>
     jgd r39 8 (
      jgd v4 8 (
       (f_X6_oneBehind_12 n) v1 v3 (v4 + (1 : Int32)) (Orders_row_s s0 (upd (Orders_row s0) (Int32.toNatClampNeg v4) ((Orders_source s0) (Int32.toNatClampNeg r39)))))))
def f_X6_oneBehind (v1 : Int32) (v2 : Int32) (v3 : Int32) (s0 : OrdersS) : Option (Int32 × OrdersS) :=
   jbd (f_X6_unpack v1 v2 (Orders_source s0)) (fun r6 =>
   f_X6_oneBehind_12 jFU v1 v3 (0 : Int32) (Orders_source_s s0 r6))
set_option maxRecDepth 100000 in
set_option maxHeartbeats 4000000 in
theorem b_X6_oneBehind_50 {E : jE} (p0_0 p0_1 p0_2 p0_3 p0_4 p0_5 p0_6 p0_7 p0_8 p0_9 p0_10 p0_11 p0_12 : Nat) {res : Int32 × OrdersS} (K : jC E cX6_oneBehind 5 RX6 2) (hrw : jrw E) (HR : jRI E cX6_oneBehind 5 (wOrders (jg E) p0_0 p0_1 p0_2 p0_3 p0_4 p0_5 p0_6 p0_7 p0_8 p0_9 p0_10 p0_11 p0_12 (res.2)) (res.1)) : ∀ (v1 : Int32) (s0 : OrdersS), f_X6_oneBehind_50 v1 s0 = some res → J E 5 (wOrders (jg E) p0_0 p0_1 p0_2 p0_3 p0_4 p0_5 p0_6 p0_7 p0_8 p0_9 p0_10 p0_11 p0_12 s0) 50 [(0, .ref p0_0), (1, .int v1)] [] := by
  intro v1 s0 h
  unfold f_X6_oneBehind_50 at h
  refine j_aload_n (pc' := 51) K dX6_oneBehind_50 rfl 0 rfl rfl ?_
  refine j_iload_n (pc' := 52) K dX6_oneBehind_51 rfl 1 rfl rfl ?_
  obtain ⟨r52, hr52, h⟩ := jbd_some h
  refine j_ro (pc' := 55) K (fun H hP => jrun_V K dX6_oneBehind_52 (M_X6_packed (jl E) (jg E) p0_0 p0_1 p0_2 p0_3 p0_4 p0_5 p0_6 p0_7 p0_8 p0_9 p0_10 p0_11 p0_12 v1 s0 hr52) u_3_98 u_3_95 u_3_97 u_p_11 u_1_4 ⟨ok_X6_packed, by decide, by decide⟩ rfl (Nat.le_of_ble_eq_true rfl) 0 rfl rfl H hP) [0, 1, 2, 3, 4, 5, 6, 7, 8, 9, 10, 11, 12] (cl_1_f ..) rfl ?_
  obtain rfl := Option.some.inj h
  exact HR _ _ dX6_oneBehind_55
set_option maxRecDepth 100000 in
set_option maxHeartbeats 4000000 in
theorem b_X6_oneBehind_12 {E : jE} (p0_0 p0_1 p0_2 p0_3 p0_4 p0_5 p0_6 p0_7 p0_8 p0_9 p0_10 p0_11 p0_12 : Nat) {res : Int32 × OrdersS} (K : jC E cX6_oneBehind 5 RX6 2) (hrw : jrw E) (HR : jRI E cX6_oneBehind 5 (wOrders (jg E) p0_0 p0_1 p0_2 p0_3 p0_4 p0_5 p0_6 p0_7 p0_8 p0_9 p0_10 p0_11 p0_12 (res.2)) (res.1)) : ∀ (n : Nat) (v1 : Int32) (v3 : Int32) (v4 : Int32) (s0 : OrdersS), f_X6_oneBehind_12 n v1 v3 v4 s0 = some res → J E 5 (wOrders (jg E) p0_0 p0_1 p0_2 p0_3 p0_4 p0_5 p0_6 p0_7 p0_8 p0_9 p0_10 p0_11 p0_12 s0) 12 [(0, .ref p0_0), (1, .int v1), (3, .int v3), (4, .int v4)] [] := by
  intro n
  induction n with
  | zero => intro _ _ _ _ h; cases h
  | succ n ih =>
    intro v1 v3 v4 s0 h
    rw [f_X6_oneBehind_12] at h
    refine j_iload (pc' := 14) K dX6_oneBehind_12 3 rfl rfl ?_
    refine j_iload_n (pc' := 15) K dX6_oneBehind_14 rfl 1 rfl rfl ?_
    refine j_icmp_ge (pc' := 18) (tgt := 50) K dX6_oneBehind_15 (by decide) rfl (fun hc => ?_) (fun hc => ?_)
    · have h := jit hc h
      refine j_sub [0, 1] rfl ?_
      exact b_X6_oneBehind_50 p0_0 p0_1 p0_2 p0_3 p0_4 p0_5 p0_6 p0_7 p0_8 p0_9 p0_10 p0_11 p0_12 K hrw HR v1 s0 h
    · have h := jif hc h
      refine j_iload (pc' := 20) K dX6_oneBehind_18 3 rfl rfl ?_
      refine j_bipush (pc' := 22) (v := (8 : Int32)) K dX6_oneBehind_20 (by decide) rfl ?_
      refine j_icmp_ge (pc' := 25) (tgt := 50) K dX6_oneBehind_22 (by decide) rfl (fun hc => ?_) (fun hc => ?_)
      · have h := jit hc h
        refine j_sub [0, 1] rfl ?_
        exact b_X6_oneBehind_50 p0_0 p0_1 p0_2 p0_3 p0_4 p0_5 p0_6 p0_7 p0_8 p0_9 p0_10 p0_11 p0_12 K hrw HR v1 s0 h
      · have h := jif hc h
        refine j_aload_n (pc' := 26) K dX6_oneBehind_25 rfl 0 rfl rfl ?_
        refine j_get (pc' := 29) K dX6_oneBehind_26 inX6 0 rfl rfl 0 (by decide) u_1_142 rfl rfl rfl ?_
        refine j_iload (pc' := 31) K dX6_oneBehind_29 3 rfl rfl ?_
        refine j_aload_n (pc' := 32) K dX6_oneBehind_31 rfl 0 rfl rfl ?_
        refine j_get (pc' := 35) K dX6_oneBehind_32 inX6 0 rfl rfl 1 (by decide) u_1_143 rfl rfl rfl ?_
        refine j_iload_n (pc' := 36) K dX6_oneBehind_35 rfl 2 rfl rfl ?_
        refine j_iload_n (pc' := 37) K dX6_oneBehind_36 rfl 1 rfl rfl ?_
        refine j_iload (pc' := 39) K dX6_oneBehind_37 3 rfl rfl ?_
        obtain ⟨r39, hr39, h⟩ := jbd_some h
        refine j_ro (pc' := 42) K (fun H hP => jrun_SN K dX6_oneBehind_39 (host := "CountTriangles") (M_X11_digitAt (jl E) (jg E) v3 v1 v4 hr39) u_2_223 (by decide) u_2_222 u_1_1 ⟨ok_X11_digitAt, by decide, by decide⟩ rfl (Nat.le_of_ble_eq_true rfl) H) [] rfl rfl ?_
        obtain ⟨hg, h⟩ := jgd_some h
        refine j_iald (pc' := 43) K dX6_oneBehind_42 2 rfl hg rfl ?_
        obtain ⟨hg, h⟩ := jgd_some h
        refine j_iast (pc' := 44) (ws' := (wOrders (jg E) p0_0 p0_1 p0_2 p0_3 p0_4 p0_5 p0_6 p0_7 p0_8 p0_9 p0_10 p0_11 p0_12 (Orders_row_s s0 (upd (Orders_row s0) (Int32.toNatClampNeg v4) ((Orders_source s0) (Int32.toNatClampNeg r39)))))) K dX6_oneBehind_43 hrw 1 rfl hg (st_Orders_1 ..) rfl ?_
        refine j_iinc (pc' := 47) (j := 3) (v := (v4 + (1 : Int32))) (lv' := [(4, .int (v4 + (1 : Int32))), (0, .ref p0_0), (1, .int v1), (3, .int v3)]) K dX6_oneBehind_44 rfl rfl (by decide) rfl rfl ?_
        refine j_goto (tgt := 12) K dX6_oneBehind_47 (by decide) ?_
        refine j_sub [1, 2, 3, 0] rfl ?_
        exact ih v1 v3 (v4 + (1 : Int32)) (Orders_row_s s0 (upd (Orders_row s0) (Int32.toNatClampNeg v4) ((Orders_source s0) (Int32.toNatClampNeg r39)))) h
set_option maxRecDepth 100000 in
set_option maxHeartbeats 4000000 in
theorem b_X6_oneBehind {E : jE} (p0_0 p0_1 p0_2 p0_3 p0_4 p0_5 p0_6 p0_7 p0_8 p0_9 p0_10 p0_11 p0_12 : Nat) {res : Int32 × OrdersS} (K : jC E cX6_oneBehind 5 RX6 2) (hrw : jrw E) (HR : jRI E cX6_oneBehind 5 (wOrders (jg E) p0_0 p0_1 p0_2 p0_3 p0_4 p0_5 p0_6 p0_7 p0_8 p0_9 p0_10 p0_11 p0_12 (res.2)) (res.1)) : ∀ (v1 : Int32) (v2 : Int32) (v3 : Int32) (s0 : OrdersS), f_X6_oneBehind v1 v2 v3 s0 = some res → J E 5 (wOrders (jg E) p0_0 p0_1 p0_2 p0_3 p0_4 p0_5 p0_6 p0_7 p0_8 p0_9 p0_10 p0_11 p0_12 s0) 0 [(0, .ref p0_0), (1, .int v1), (2, .int v2), (3, .int v3)] [] := by
  intro v1 v2 v3 s0 h
  unfold f_X6_oneBehind at h
  refine j_iload_n (pc' := 1) K dX6_oneBehind_0 rfl 1 rfl rfl ?_
  refine j_iload_n (pc' := 2) K dX6_oneBehind_1 rfl 2 rfl rfl ?_
  refine j_aload_n (pc' := 3) K dX6_oneBehind_2 rfl 0 rfl rfl ?_
  refine j_get (pc' := 6) K dX6_oneBehind_3 inX6 0 rfl rfl 1 (by decide) u_1_143 rfl rfl rfl ?_
  obtain ⟨r6, hr6, h⟩ := jbd_some h
  refine j_rw (pc' := 9) (ws' := (wOrders (jg E) p0_0 p0_1 p0_2 p0_3 p0_4 p0_5 p0_6 p0_7 p0_8 p0_9 p0_10 p0_11 p0_12 (Orders_source_s s0 r6))) K (fun H hP => jrun_S K dX6_oneBehind_6 (M_X6_unpack (jl E) (jg E) p0_2 v1 v2 (Orders_source s0) hr6) u_3_119 u_3_117 u_3_118 u_1_4 ⟨ok_X6_unpack, by decide, by decide⟩ rfl (Nat.le_of_ble_eq_true rfl) H) hrw [2] rfl (cl_2_s ..) rfl (cl_2_m ..) (ad_Orders ..) rfl ?_
  refine j_iconst (pc' := 10) (v := (0 : Int32)) K dX6_oneBehind_9 (by decide) rfl ?_
  refine j_istore (pc' := 12) (lv' := [(4, .int (0 : Int32)), (0, .ref p0_0), (1, .int v1), (2, .int v2), (3, .int v3)]) K dX6_oneBehind_10 (by decide) rfl rfl ?_
  refine j_sub [1, 2, 4, 0] rfl ?_
  exact b_X6_oneBehind_12 p0_0 p0_1 p0_2 p0_3 p0_4 p0_5 p0_6 p0_7 p0_8 p0_9 p0_10 p0_11 p0_12 K hrw HR jFU v1 v3 (0 : Int32) (Orders_source_s s0 r6) h
set_option maxRecDepth 100000 in
set_option maxHeartbeats 4000000 in
theorem M_X6_oneBehind (l : Launch) (G : jG) (p0_0 p0_1 p0_2 p0_3 p0_4 p0_5 p0_6 p0_7 p0_8 p0_9 p0_10 p0_11 p0_12 : Nat) (v1 : Int32) (v2 : Int32) (v3 : Int32) (s0 : OrdersS) {r : Int32 × OrdersS} (h : f_X6_oneBehind v1 v2 v3 s0 = some r) : MC l yX6_oneBehind cX6_oneBehind 5 (some .int) 2 G (jad (wOrders G p0_0 p0_1 p0_2 p0_3 p0_4 p0_5 p0_6 p0_7 p0_8 p0_9 p0_10 p0_11 p0_12 s0)) True (wOrders G p0_0 p0_1 p0_2 p0_3 p0_4 p0_5 p0_6 p0_7 p0_8 p0_9 p0_10 p0_11 p0_12 s0) (wOrders G p0_0 p0_1 p0_2 p0_3 p0_4 p0_5 p0_6 p0_7 p0_8 p0_9 p0_10 p0_11 p0_12 (r.2)) [.ref p0_0, .int v1, .int v2, .int v3] (some (.int (r.1))) := by
  refine mc_int (by decide +kernel) (Nat.le_of_ble_eq_true rfl) fun E hl hg hA hrw K HR => ?_
  subst hl
  subst hg
  have hrw : jrw E := by rw [hrw]; trivial
  exact b_X6_oneBehind p0_0 p0_1 p0_2 p0_3 p0_4 p0_5 p0_6 p0_7 p0_8 p0_9 p0_10 p0_11 p0_12 K hrw HR v1 v2 v3 s0 h
