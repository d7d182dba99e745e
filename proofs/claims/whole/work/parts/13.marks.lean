theorem ok_X9_start : yX9_start.cls ≠ "java/lang/invoke/MethodHandle" ∧ yX9_start.cls ≠ "java/lang/invoke/VarHandle" ∧ (parseMethodDescriptor yX9_start.desc).map (fun d => d.parameters.length) = some 1 := ⟨by decide, by decide, by decide +kernel⟩
def f_X9_start (v1 : Int32) : Option (Int32) :=
   some (0 : Int32)
set_option maxRecDepth 100000 in
set_option maxHeartbeats 4000000 in
theorem b_X9_start {E : jE}  (q0 : Nat) {res : Int32} (K : jC E cX9_start 2 RX9 0) (HR : jRI E cX9_start 2 ([] : va_W) res) : ∀ (v1 : Int32), f_X9_start v1 = some res → J E 2 ([] : va_W) 0 [(0, .ref q0), (1, .int v1)] [] := by
  intro v1 h
  unfold f_X9_start at h
  refine j_iconst (pc' := 1) (v := (0 : Int32)) K dX9_start_0 (by decide) rfl ?_
  obtain rfl := Option.some.inj h
  exact HR _ _ dX9_start_1
set_option maxRecDepth 100000 in
set_option maxHeartbeats 4000000 in
theorem M_X9_start (l : Launch) (G : jG)  (q0 : Nat) (v1 : Int32) {r : Int32} (h : f_X9_start v1 = some r) : MC l yX9_start cX9_start 2 (some .int) 0 G jNo False ([] : va_W) ([] : va_W) [.ref q0, .int v1] (some (.int r)) := by
  refine mc_int (by decide +kernel) (Nat.le_of_ble_eq_true rfl) fun E hl hg hA hrw K HR => ?_
  subst hl
  subst hg
  exact b_X9_start q0 K HR v1 h
theorem ok_X9_next : yX9_next.cls ≠ "java/lang/invoke/MethodHandle" ∧ yX9_next.cls ≠ "java/lang/invoke/VarHandle" ∧ (parseMethodDescriptor yX9_next.desc).map (fun d => d.parameters.length) = some 3 := ⟨by decide, by decide, by decide +kernel⟩
def f_X9_next (v1 : Int32) (v2 : Int32) (v3 : Int32) : Option (Int32) :=
   some (0 : Int32)
set_option maxRecDepth 100000 in
set_option maxHeartbeats 4000000 in
theorem b_X9_next {E : jE}  (q0 : Nat) {res : Int32} (K : jC E cX9_next 4 RX9 0) (HR : jRI E cX9_next 4 ([] : va_W) res) : ∀ (v1 : Int32) (v2 : Int32) (v3 : Int32), f_X9_next v1 v2 v3 = some res → J E 4 ([] : va_W) 0 [(0, .ref q0), (1, .int v1), (2, .int v2), (3, .int v3)] [] := by
  intro v1 v2 v3 h
  unfold f_X9_next at h
  refine j_iconst (pc' := 1) (v := (0 : Int32)) K dX9_next_0 (by decide) rfl ?_
  obtain rfl := Option.some.inj h
  exact HR _ _ dX9_next_1
set_option maxRecDepth 100000 in
set_option maxHeartbeats 4000000 in
theorem M_X9_next (l : Launch) (G : jG)  (q0 : Nat) (v1 : Int32) (v2 : Int32) (v3 : Int32) {r : Int32} (h : f_X9_next v1 v2 v3 = some r) : MC l yX9_next cX9_next 4 (some .int) 0 G jNo False ([] : va_W) ([] : va_W) [.ref q0, .int v1, .int v2, .int v3] (some (.int r)) := by
  refine mc_int (by decide +kernel) (Nat.le_of_ble_eq_true rfl) fun E hl hg hA hrw K HR => ?_
  subst hl
  subst hg
  exact b_X9_next q0 K HR v1 v2 v3 h
theorem ok_X9_ways : yX9_ways.cls ≠ "java/lang/invoke/MethodHandle" ∧ yX9_ways.cls ≠ "java/lang/invoke/VarHandle" ∧ (parseMethodDescriptor yX9_ways.desc).map (fun d => d.parameters.length) = some 3 := ⟨by decide, by decide, by decide +kernel⟩
def f_X9_ways (v1 : Int32) (v2 : Int32) (v3 : Int32) (s0 : RingsS) : Option (Int32) :=
   jbd (f_X11_within v2 (0 : Int32) (8 : Int32)) (fun r4 =>
   if r4 = 0 then
    some (0 : Int32)
   else
    jbd (f_X11_within v3 (0 : Int32) (8 : Int32)) (fun r14 =>
     if r14 = 0 then
      some (0 : Int32)
     else
      jgd ((v2 * (9 : Int32)) + v3) 81 (
       some (s0 (Int32.toNatClampNeg ((v2 * (9 : Int32)) + v3))))))
set_option maxRecDepth 100000 in
set_option maxHeartbeats 4000000 in
theorem b_X9_ways {E : jE} (p0_0 p0_1 : Nat) (s0 : RingsS) {res : Int32} (K : jC E cX9_ways 4 RX9 1) (HR : jRI E cX9_ways 4 (wRings (jg E) p0_0 p0_1 s0) res) : ∀ (v1 : Int32) (v2 : Int32) (v3 : Int32), f_X9_ways v1 v2 v3 s0 = some res → J E 4 (wRings (jg E) p0_0 p0_1 s0) 0 [(0, .ref p0_0), (1, .int v1), (2, .int v2), (3, .int v3)] [] := by
  intro v1 v2 v3 h
  unfold f_X9_ways at h
  refine j_iload_n (pc' := 1) K dX9_ways_0 rfl 2 rfl rfl ?_
  refine j_iconst (pc' := 2) (v := (0 : Int32)) K dX9_ways_1 (by decide) rfl ?_
  refine j_bipush (pc' := 4) (v := (8 : Int32)) K dX9_ways_2 (by decide) rfl ?_
  obtain ⟨r4, hr4, h⟩ := jbd_some h
  refine j_ro (pc' := 7) K (fun H hP => jrun_SN K dX9_ways_4 (host := "CountTriangles") (M_X11_within (jl E) (jg E) v2 (0 : Int32) (8 : Int32) hr4) u_1_76 (by decide) u_1_75 u_1_1 ⟨ok_X11_within, by decide, by decide⟩ rfl (Nat.le_of_ble_eq_true rfl) H) [] rfl rfl ?_
  refine j_if_eq (pc' := 10) (tgt := 34) K dX9_ways_7 (by decide) rfl (fun hc => ?_) (fun hc => ?_)
  · have h := jit hc h
    refine j_iconst (pc' := 35) (v := (0 : Int32)) K dX9_ways_34 (by decide) rfl ?_
    obtain rfl := Option.some.inj h
    exact HR _ _ dX9_ways_35
  · have h := jif hc h
    refine j_iload_n (pc' := 11) K dX9_ways_10 rfl 3 rfl rfl ?_
    refine j_iconst (pc' := 12) (v := (0 : Int32)) K dX9_ways_11 (by decide) rfl ?_
    refine j_bipush (pc' := 14) (v := (8 : Int32)) K dX9_ways_12 (by decide) rfl ?_
    obtain ⟨r14, hr14, h⟩ := jbd_some h
    refine j_ro (pc' := 17) K (fun H hP => jrun_SN K dX9_ways_14 (host := "CountTriangles") (M_X11_within (jl E) (jg E) v3 (0 : Int32) (8 : Int32) hr14) u_1_76 (by decide) u_1_75 u_1_1 ⟨ok_X11_within, by decide, by decide⟩ rfl (Nat.le_of_ble_eq_true rfl) H) [] rfl rfl ?_
    refine j_if_eq (pc' := 20) (tgt := 34) K dX9_ways_17 (by decide) rfl (fun hc => ?_) (fun hc => ?_)
    · have h := jit hc h
      refine j_iconst (pc' := 35) (v := (0 : Int32)) K dX9_ways_34 (by decide) rfl ?_
      obtain rfl := Option.some.inj h
      exact HR _ _ dX9_ways_35
    · have h := jif hc h
      refine j_aload_n (pc' := 21) K dX9_ways_20 rfl 0 rfl rfl ?_
      refine j_get (pc' := 24) K dX9_ways_21 inX9 0 rfl rfl 0 (by decide) u_1_77 rfl rfl rfl ?_
      refine j_iload_n (pc' := 25) K dX9_ways_24 rfl 2 rfl rfl ?_
      refine j_bipush (pc' := 27) (v := (9 : Int32)) K dX9_ways_25 (by decide) rfl ?_
      refine j_imul (pc' := 28) K dX9_ways_27 rfl ?_
      refine j_iload_n (pc' := 29) K dX9_ways_28 rfl 3 rfl rfl ?_
      refine j_iadd (pc' := 30) K dX9_ways_29 rfl ?_
      obtain ⟨hg, h⟩ := jgd_some h
      refine j_iald (pc' := 31) K dX9_ways_30 1 rfl hg rfl ?_
      refine j_goto (tgt := 35) K dX9_ways_31 (by decide) ?_
      obtain rfl := Option.some.inj h
      exact HR _ _ dX9_ways_35
set_option maxRecDepth 100000 in
set_option maxHeartbeats 4000000 in
theorem M_X9_ways (l : Launch) (G : jG) (p0_0 p0_1 : Nat) (v1 : Int32) (v2 : Int32) (v3 : Int32) (s0 : RingsS) {r : Int32} (h : f_X9_ways v1 v2 v3 s0 = some r) : MC l yX9_ways cX9_ways 4 (some .int) 1 G jNo False (wRings G p0_0 p0_1 s0) (wRings G p0_0 p0_1 s0) [.ref p0_0, .int v1, .int v2, .int v3] (some (.int r)) := by
  refine mc_int (by decide +kernel) (Nat.le_of_ble_eq_true rfl) fun E hl hg hA hrw K HR => ?_
  subst hl
  subst hg
  exact b_X9_ways p0_0 p0_1 s0 K HR v1 v2 v3 h
theorem ok_X9_growth : yX9_growth.cls ≠ "java/lang/invoke/MethodHandle" ∧ yX9_growth.cls ≠ "java/lang/invoke/VarHandle" ∧ (parseMethodDescriptor yX9_growth.desc).map (fun d => d.parameters.length) = some 5 := ⟨by decide, by decide, by decide +kernel⟩
def f_X9_growth_50 (v5 : Int32) (v6 : Int32) (s0 : ArrI8S) : Option (Int32) :=
   if v6 = v5 then
   some (1 : Int32)
  else
   some (0 : Int32)
def f_X9_growth_41 (v5 : Int32) (v6 : Int32) (s0 : ArrI8S) : Option (Int32) :=
   f_X9_growth_50 v5 v6 s0
def f_X9_growth_7 : Nat → Int32 → Int32 → Int32 → ArrI8S → Option (Int32)
  | 0, _, _, _, _ => none
  | n + 1, v5, v6, v7, s0 =>
   if v5 < v7 then
   f_X9_growth_50 v5 v6 s0
  else
   if v6 < 0 then
    f_X9_growth_50 v5 v6 s0
   else
    if (8 : Int32) ≤ v6 then
     f_X9_growth_50 v5 v6 s0
    else
     jgd v6 8 (
      if (s0 (Int32.toNatClampNeg v6)) < v5 then
       (f_X9_growth_7 n) v5 (s0 (Int32.toNatClampNeg v6)) (v7 + (1 : Int32)) s0
      else
       f_X9_growth_41 v5 (s0 (Int32.toNatClampNeg v6)) s0)
def f_X9_growth (v1 : Int32) (v2 : Int32) (v3 : Int32) (v5 : Int32) (s0 : ArrI8S) : Option (Int32) :=
   f_X9_growth_7 jFU v5 v5 (0 : Int32) s0
set_option maxRecDepth 100000 in
set_option maxHeartbeats 4000000 in
theorem b_X9_growth_50 {E : jE} (p0_0 : Nat) (q0 : Nat) (s0 : ArrI8S) {res : Int32} (K : jC E cX9_growth 8 RX9 0) (HR : jRI E cX9_growth 8 (wArrI8 (jg E) p0_0 s0) res) : ∀ (v5 : Int32) (v6 : Int32), f_X9_growth_50 v5 v6 s0 = some res → J E 8 (wArrI8 (jg E) p0_0 s0) 50 [(5, .int v5), (6, .int v6)] [] := by
  intro v5 v6 h
  unfold f_X9_growth_50 at h
  refine j_iload (pc' := 52) K dX9_growth_50 1 rfl rfl ?_
  refine j_iload (pc' := 54) K dX9_growth_52 0 rfl rfl ?_
  refine j_icmp_ne (pc' := 57) (tgt := 61) K dX9_growth_54 (by decide) rfl (fun hc => ?_) (fun hc => ?_)
  · have h := jif hc h
    refine j_iconst (pc' := 62) (v := (0 : Int32)) K dX9_growth_61 (by decide) rfl ?_
    obtain rfl := Option.some.inj h
    exact HR _ _ dX9_growth_62
  · have h := jit hc h
    refine j_iconst (pc' := 58) (v := (1 : Int32)) K dX9_growth_57 (by decide) rfl ?_
    refine j_goto (tgt := 62) K dX9_growth_58 (by decide) ?_
    obtain rfl := Option.some.inj h
    exact HR _ _ dX9_growth_62
set_option maxRecDepth 100000 in
set_option maxHeartbeats 4000000 in
theorem b_X9_growth_41 {E : jE} (p0_0 : Nat) (q0 : Nat) (s0 : ArrI8S) {res : Int32} (K : jC E cX9_growth 8 RX9 0) (HR : jRI E cX9_growth 8 (wArrI8 (jg E) p0_0 s0) res) : ∀ (v5 : Int32) (v6 : Int32), f_X9_growth_41 v5 v6 s0 = some res → J E 8 (wArrI8 (jg E) p0_0 s0) 41 [(5, .int v5), (6, .int v6)] [] := by
  intro v5 v6 h
  unfold f_X9_growth_41 at h
  refine j_goto (tgt := 50) K dX9_growth_41 (by decide) ?_
  refine j_sub [0, 1] rfl ?_
  exact b_X9_growth_50 p0_0 q0 s0 K HR v5 v6 h
set_option maxRecDepth 100000 in
set_option maxHeartbeats 4000000 in
theorem b_X9_growth_7 {E : jE} (p0_0 : Nat) (q0 : Nat) (s0 : ArrI8S) {res : Int32} (K : jC E cX9_growth 8 RX9 0) (HR : jRI E cX9_growth 8 (wArrI8 (jg E) p0_0 s0) res) : ∀ (n : Nat) (v5 : Int32) (v6 : Int32) (v7 : Int32), f_X9_growth_7 n v5 v6 v7 s0 = some res → J E 8 (wArrI8 (jg E) p0_0 s0) 7 [(4, .ref p0_0), (5, .int v5), (6, .int v6), (7, .int v7)] [] := by
  intro n
  induction n with
  | zero => intro _ _ _ h; cases h
  | succ n ih =>
    intro v5 v6 v7 h
    rw [f_X9_growth_7] at h
    refine j_iload (pc' := 9) K dX9_growth_7 3 rfl rfl ?_
    refine j_iload (pc' := 11) K dX9_growth_9 1 rfl rfl ?_
    refine j_icmp_gt (pc' := 14) (tgt := 50) K dX9_growth_11 (by decide) rfl (fun hc => ?_) (fun hc => ?_)
    · have h := jit hc h
      refine j_sub [1, 2] rfl ?_
      exact b_X9_growth_50 p0_0 q0 s0 K HR v5 v6 h
    · have h := jif hc h
      refine j_iload (pc' := 16) K dX9_growth_14 2 rfl rfl ?_
      refine j_if_lt (pc' := 19) (tgt := 50) K dX9_growth_16 (by decide) rfl (fun hc => ?_) (fun hc => ?_)
      · have h := jit hc h
        refine j_sub [1, 2] rfl ?_
        exact b_X9_growth_50 p0_0 q0 s0 K HR v5 v6 h
      · have h := jif hc h
        refine j_iload (pc' := 21) K dX9_growth_19 2 rfl rfl ?_
        refine j_aload (pc' := 23) K dX9_growth_21 0 rfl rfl ?_
        refine j_alen (pc' := 24) (v := (8 : Int32)) K dX9_growth_23 0 0 rfl rfl rfl rfl ?_
        refine j_icmp_ge (pc' := 27) (tgt := 50) K dX9_growth_24 (by decide) rfl (fun hc => ?_) (fun hc => ?_)
        · have h := jit hc h
          refine j_sub [1, 2] rfl ?_
          exact b_X9_growth_50 p0_0 q0 s0 K HR v5 v6 h
        · have h := jif hc h
          refine j_aload (pc' := 29) K dX9_growth_27 0 rfl rfl ?_
          refine j_iload (pc' := 31) K dX9_growth_29 2 rfl rfl ?_
          obtain ⟨hg, h⟩ := jgd_some h
          refine j_iald (pc' := 32) K dX9_growth_31 0 rfl hg rfl ?_
          refine j_istore (pc' := 34) (lv' := [(6, .int (s0 (Int32.toNatClampNeg v6))), (4, .ref p0_0), (5, .int v5), (7, .int v7)]) K dX9_growth_32 (by decide) rfl rfl ?_
          refine j_iload (pc' := 36) K dX9_growth_34 0 rfl rfl ?_
          refine j_iload (pc' := 38) K dX9_growth_36 2 rfl rfl ?_
          refine j_icmp_lt (pc' := 41) (tgt := 44) K dX9_growth_38 (by decide) rfl (fun hc => ?_) (fun hc => ?_)
          · have h := jit hc h
            refine j_iinc (pc' := 47) (j := 3) (v := (v7 + (1 : Int32))) (lv' := [(7, .int (v7 + (1 : Int32))), (6, .int (s0 (Int32.toNatClampNeg v6))), (4, .ref p0_0), (5, .int v5)]) K dX9_growth_44 rfl rfl (by decide) rfl rfl ?_
            refine j_goto (tgt := 7) K dX9_growth_47 (by decide) ?_
            refine j_sub [2, 3, 1, 0] rfl ?_
            exact ih v5 (s0 (Int32.toNatClampNeg v6)) (v7 + (1 : Int32)) h
          · have h := jif hc h
            refine j_sub [2, 0] rfl ?_
            exact b_X9_growth_41 p0_0 q0 s0 K HR v5 (s0 (Int32.toNatClampNeg v6)) h
set_option maxRecDepth 100000 in
set_option maxHeartbeats 4000000 in
theorem b_X9_growth {E : jE} (p0_0 : Nat) (q0 : Nat) (s0 : ArrI8S) {res : Int32} (K : jC E cX9_growth 8 RX9 0) (HR : jRI E cX9_growth 8 (wArrI8 (jg E) p0_0 s0) res) : ∀ (v1 : Int32) (v2 : Int32) (v3 : Int32) (v5 : Int32), f_X9_growth v1 v2 v3 v5 s0 = some res → J E 8 (wArrI8 (jg E) p0_0 s0) 0 [(0, .ref q0), (1, .int v1), (2, .int v2), (3, .int v3), (4, .ref p0_0), (5, .int v5)] [] := by
  intro v1 v2 v3 v5 h
  unfold f_X9_growth at h
  refine j_iload (pc' := 2) K dX9_growth_0 5 rfl rfl ?_
  refine j_istore (pc' := 4) (lv' := [(6, .int v5), (0, .ref q0), (1, .int v1), (2, .int v2), (3, .int v3), (4, .ref p0_0), (5, .int v5)]) K dX9_growth_2 (by decide) rfl rfl ?_
  refine j_iconst (pc' := 5) (v := (0 : Int32)) K dX9_growth_4 (by decide) rfl ?_
  refine j_istore (pc' := 7) (lv' := [(7, .int (0 : Int32)), (6, .int v5), (0, .ref q0), (1, .int v1), (2, .int v2), (3, .int v3), (4, .ref p0_0), (5, .int v5)]) K dX9_growth_5 (by decide) rfl rfl ?_
  refine j_sub [6, 7, 1, 0] rfl ?_
  exact b_X9_growth_7 p0_0 q0 s0 K HR jFU v5 v5 (0 : Int32) h
set_option maxRecDepth 100000 in
set_option maxHeartbeats 4000000 in
theorem M_X9_growth (l : Launch) (G : jG) (p0_0 : Nat) (q0 : Nat) (v1 : Int32) (v2 : Int32) (v3 : Int32) (v5 : Int32) (s0 : ArrI8S) {r : Int32} (h : f_X9_growth v1 v2 v3 v5 s0 = some r) : MC l yX9_growth cX9_growth 8 (some .int) 0 G jNo False (wArrI8 G p0_0 s0) (wArrI8 G p0_0 s0) [.ref q0, .int v1, .int v2, .int v3, .ref p0_0, .int v5] (some (.int r)) := by
  refine mc_int (by decide +kernel) (Nat.le_of_ble_eq_true rfl) fun E hl hg hA hrw K HR => ?_
  subst hl
  subst hg
  exact b_X9_growth p0_0 q0 s0 K HR v1 v2 v3 v5 h
theorem ok_X0_start : yX0_start.cls ≠ "java/lang/invoke/MethodHandle" ∧ yX0_start.cls ≠ "java/lang/invoke/VarHandle" ∧ (parseMethodDescriptor yX0_start.desc).map (fun d => d.parameters.length) = some 1 := ⟨by decide, by decide, by decide +kernel⟩
def f_X0_start (v1 : Int32) : Option (Int32) :=
   some (0 : Int32)
set_option maxRecDepth 100000 in
set_option maxHeartbeats 4000000 in
theorem b_X0_start {E : jE}  (q0 : Nat) {res : Int32} (K : jC E cX0_start 2 RX0 0) (HR : jRI E cX0_start 2 ([] : va_W) res) : ∀ (v1 : Int32), f_X0_start v1 = some res → J E 2 ([] : va_W) 0 [(0, .ref q0), (1, .int v1)] [] := by
  intro v1 h
  unfold f_X0_start at h
  refine j_iconst (pc' := 1) (v := (0 : Int32)) K dX0_start_0 (by decide) rfl ?_
  obtain rfl := Option.some.inj h
  exact HR _ _ dX0_start_1
set_option maxRecDepth 100000 in
set_option maxHeartbeats 4000000 in
theorem M_X0_start (l : Launch) (G : jG)  (q0 : Nat) (v1 : Int32) {r : Int32} (h : f_X0_start v1 = some r) : MC l yX0_start cX0_start 2 (some .int) 0 G jNo False ([] : va_W) ([] : va_W) [.ref q0, .int v1] (some (.int r)) := by
  refine mc_int (by decide +kernel) (Nat.le_of_ble_eq_true rfl) fun E hl hg hA hrw K HR => ?_
  subst hl
  subst hg
  exact b_X0_start q0 K HR v1 h
theorem ok_X0_growth : yX0_growth.cls ≠ "java/lang/invoke/MethodHandle" ∧ yX0_growth.cls ≠ "java/lang/invoke/VarHandle" ∧ (parseMethodDescriptor yX0_growth.desc).map (fun d => d.parameters.length) = some 5 := ⟨by decide, by decide, by decide +kernel⟩
def f_X0_growth (v1 : Int32) (v2 : Int32) (v3 : Int32) (v5 : Int32) : Option (Int32) :=
   if v1 ≤ v3 then
   some (0 : Int32)
  else
   some (1 : Int32)
set_option maxRecDepth 100000 in
set_option maxHeartbeats 4000000 in
theorem b_X0_growth {E : jE}  (q0 q1 : Nat) {res : Int32} (K : jC E cX0_growth 6 RX0 0) (HR : jRI E cX0_growth 6 ([] : va_W) res) : ∀ (v1 : Int32) (v2 : Int32) (v3 : Int32) (v5 : Int32), f_X0_growth v1 v2 v3 v5 = some res → J E 6 ([] : va_W) 0 [(0, .ref q0), (1, .int v1), (2, .int v2), (3, .int v3), (4, .ref q1), (5, .int v5)] [] := by
  intro v1 v2 v3 v5 h
  unfold f_X0_growth at h
  refine j_iload_n (pc' := 1) K dX0_growth_0 rfl 3 rfl rfl ?_
  refine j_iload_n (pc' := 2) K dX0_growth_1 rfl 1 rfl rfl ?_
  refine j_icmp_ge (pc' := 5) (tgt := 9) K dX0_growth_2 (by decide) rfl (fun hc => ?_) (fun hc => ?_)
  · have h := jit hc h
    refine j_iconst (pc' := 10) (v := (0 : Int32)) K dX0_growth_9 (by decide) rfl ?_
    obtain rfl := Option.some.inj h
    exact HR _ _ dX0_growth_10
  · have h := jif hc h
    refine j_iconst (pc' := 6) (v := (1 : Int32)) K dX0_growth_5 (by decide) rfl ?_
    refine j_goto (tgt := 10) K dX0_growth_6 (by decide) ?_
    obtain rfl := Option.some.inj h
    exact HR _ _ dX0_growth_10
set_option maxRecDepth 100000 in
set_option maxHeartbeats 4000000 in
theorem M_X0_growth (l : Launch) (G : jG)  (q0 q1 : Nat) (v1 : Int32) (v2 : Int32) (v3 : Int32) (v5 : Int32) {r : Int32} (h : f_X0_growth v1 v2 v3 v5 = some r) : MC l yX0_growth cX0_growth 6 (some .int) 0 G jNo False ([] : va_W) ([] : va_W) [.ref q0, .int v1, .int v2, .int v3, .ref q1, .int v5] (some (.int r)) := by
  refine mc_int (by decide +kernel) (Nat.le_of_ble_eq_true rfl) fun E hl hg hA hrw K HR => ?_
  subst hl
  subst hg
  exact b_X0_growth q0 q1 K HR v1 v2 v3 v5 h
theorem ok_X0_next : yX0_next.cls ≠ "java/lang/invoke/MethodHandle" ∧ yX0_next.cls ≠ "java/lang/invoke/VarHandle" ∧ (parseMethodDescriptor yX0_next.desc).map (fun d => d.parameters.length) = some 3 := ⟨by decide, by decide, by decide +kernel⟩
def f_X0_next (v1 : Int32) (v2 : Int32) (v3 : Int32) : Option (Int32) :=
   some v3
set_option maxRecDepth 100000 in
set_option maxHeartbeats 4000000 in
theorem b_X0_next {E : jE}  (q0 : Nat) {res : Int32} (K : jC E cX0_next 4 RX0 0) (HR : jRI E cX0_next 4 ([] : va_W) res) : ∀ (v1 : Int32) (v2 : Int32) (v3 : Int32), f_X0_next v1 v2 v3 = some res → J E 4 ([] : va_W) 0 [(0, .ref q0), (1, .int v1), (2, .int v2), (3, .int v3)] [] := by
  intro v1 v2 v3 h
  unfold f_X0_next at h
  refine j_iload_n (pc' := 1) K dX0_next_0 rfl 3 rfl rfl ?_
  obtain rfl := Option.some.inj h
  exact HR _ _ dX0_next_1
set_option maxRecDepth 100000 in
set_option maxHeartbeats 4000000 in
theorem M_X0_next (l : Launch) (G : jG)  (q0 : Nat) (v1 : Int32) (v2 : Int32) (v3 : Int32) {r : Int32} (h : f_X0_next v1 v2 v3 = some r) : MC l yX0_next cX0_next 4 (some .int) 0 G jNo False ([] : va_W) ([] : va_W) [.ref q0, .int v1, .int v2, .int v3] (some (.int r)) := by
  refine mc_int (by decide +kernel) (Nat.le_of_ble_eq_true rfl) fun E hl hg hA hrw K HR => ?_
  subst hl
  subst hg
  exact b_X0_next q0 K HR v1 v2 v3 h
theorem ok_X0_ways : yX0_ways.cls ≠ "java/lang/invoke/MethodHandle" ∧ yX0_ways.cls ≠ "java/lang/invoke/VarHandle" ∧ (parseMethodDescriptor yX0_ways.desc).map (fun d => d.parameters.length) = some 3 := ⟨by decide, by decide, by decide +kernel⟩
def f_X0_ways (v1 : Int32) (v2 : Int32) (v3 : Int32) (s0 : FallsS) : Option (Int32) :=
   jbd (f_X11_within v2 (0 : Int32) (8 : Int32)) (fun r4 =>
   if r4 = 0 then
    some (0 : Int32)
   else
    jbd (f_X11_within v1 (0 : Int32) v2) (fun r13 =>
     if r13 = 0 then
      some (0 : Int32)
     else
      jbd (f_X11_within v3 (0 : Int32) (8 : Int32)) (fun r23 =>
       if r23 = 0 then
        some (0 : Int32)
       else
        jgd ((((v2 * (9 : Int32)) + v1) * (9 : Int32)) + v3) 729 (
         some (s0 (Int32.toNatClampNeg ((((v2 * (9 : Int32)) + v1) * (9 : Int32)) + v3)))))))
set_option maxRecDepth 100000 in
set_option maxHeartbeats 4000000 in
theorem b_X0_ways {E : jE} (p0_0 p0_1 : Nat) (s0 : FallsS) {res : Int32} (K : jC E cX0_ways 4 RX0 1) (HR : jRI E cX0_ways 4 (wFalls (jg E) p0_0 p0_1 s0) res) : ∀ (v1 : Int32) (v2 : Int32) (v3 : Int32), f_X0_ways v1 v2 v3 s0 = some res → J E 4 (wFalls (jg E) p0_0 p0_1 s0) 0 [(0, .ref p0_0), (1, .int v1), (2, .int v2), (3, .int v3)] [] := by
  intro v1 v2 v3 h
  unfold f_X0_ways at h
  refine j_iload_n (pc' := 1) K dX0_ways_0 rfl 2 rfl rfl ?_
  refine j_iconst (pc' := 2) (v := (0 : Int32)) K dX0_ways_1 (by decide) rfl ?_
  refine j_bipush (pc' := 4) (v := (8 : Int32)) K dX0_ways_2 (by decide) rfl ?_
  obtain ⟨r4, hr4, h⟩ := jbd_some h
  refine j_ro (pc' := 7) K (fun H hP => jrun_SN K dX0_ways_4 (host := "CountTriangles") (M_X11_within (jl E) (jg E) v2 (0 : Int32) (8 : Int32) hr4) u_1_76 (by decide) u_1_75 u_1_1 ⟨ok_X11_within, by decide, by decide⟩ rfl (Nat.le_of_ble_eq_true rfl) H) [] rfl rfl ?_
  refine j_if_eq (pc' := 10) (tgt := 29) K dX0_ways_7 (by decide) rfl (fun hc => ?_) (fun hc => ?_)
  · have h := jit hc h
    refine j_iconst (pc' := 30) (v := (0 : Int32)) K dX0_ways_29 (by decide) rfl ?_
    obtain rfl := Option.some.inj h
    exact HR _ _ dX0_ways_30
  · have h := jif hc h
    refine j_iload_n (pc' := 11) K dX0_ways_10 rfl 1 rfl rfl ?_
    refine j_iconst (pc' := 12) (v := (0 : Int32)) K dX0_ways_11 (by decide) rfl ?_
    refine j_iload_n (pc' := 13) K dX0_ways_12 rfl 2 rfl rfl ?_
    obtain ⟨r13, hr13, h⟩ := jbd_some h
    refine j_ro (pc' := 16) K (fun H hP => jrun_SN K dX0_ways_13 (host := "CountTriangles") (M_X11_within (jl E) (jg E) v1 (0 : Int32) v2 hr13) u_1_76 (by decide) u_1_75 u_1_1 ⟨ok_X11_within, by decide, by decide⟩ rfl (Nat.le_of_ble_eq_true rfl) H) [] rfl rfl ?_
    refine j_if_eq (pc' := 19) (tgt := 29) K dX0_ways_16 (by decide) rfl (fun hc => ?_) (fun hc => ?_)
    · have h := jit hc h
      refine j_iconst (pc' := 30) (v := (0 : Int32)) K dX0_ways_29 (by decide) rfl ?_
      obtain rfl := Option.some.inj h
      exact HR _ _ dX0_ways_30
    · have h := jif hc h
      refine j_iload_n (pc' := 20) K dX0_ways_19 rfl 3 rfl rfl ?_
      refine j_iconst (pc' := 21) (v := (0 : Int32)) K dX0_ways_20 (by decide) rfl ?_
      refine j_bipush (pc' := 23) (v := (8 : Int32)) K dX0_ways_21 (by decide) rfl ?_
      obtain ⟨r23, hr23, h⟩ := jbd_some h
      refine j_ro (pc' := 26) K (fun H hP => jrun_SN K dX0_ways_23 (host := "CountTriangles") (M_X11_within (jl E) (jg E) v3 (0 : Int32) (8 : Int32) hr23) u_1_76 (by decide) u_1_75 u_1_1 ⟨ok_X11_within, by decide, by decide⟩ rfl (Nat.le_of_ble_eq_true rfl) H) [] rfl rfl ?_
      refine j_if_ne (pc' := 29) (tgt := 31) K dX0_ways_26 (by decide) rfl (fun hc => ?_) (fun hc => ?_)
      · have h := jif hc h
        refine j_aload_n (pc' := 32) K dX0_ways_31 rfl 0 rfl rfl ?_
        refine j_get (pc' := 35) K dX0_ways_32 inX0 0 rfl rfl 0 (by decide) u_1_96 rfl rfl rfl ?_
        refine j_iload_n (pc' := 36) K dX0_ways_35 rfl 2 rfl rfl ?_
        refine j_bipush (pc' := 38) (v := (9 : Int32)) K dX0_ways_36 (by decide) rfl ?_
        refine j_imul (pc' := 39) K dX0_ways_38 rfl ?_
        refine j_iload_n (pc' := 40) K dX0_ways_39 rfl 1 rfl rfl ?_
        refine j_iadd (pc' := 41) K dX0_ways_40 rfl ?_
        refine j_bipush (pc' := 43) (v := (9 : Int32)) K dX0_ways_41 (by decide) rfl ?_
        refine j_imul (pc' := 44) K dX0_ways_43 rfl ?_
        refine j_iload_n (pc' := 45) K dX0_ways_44 rfl 3 rfl rfl ?_
        refine j_iadd (pc' := 46) K dX0_ways_45 rfl ?_
        obtain ⟨hg, h⟩ := jgd_some h
        refine j_iald (pc' := 47) K dX0_ways_46 1 rfl hg rfl ?_
        obtain rfl := Option.some.inj h
        exact HR _ _ dX0_ways_47
      · have h := jit hc h
        refine j_iconst (pc' := 30) (v := (0 : Int32)) K dX0_ways_29 (by decide) rfl ?_
        obtain rfl := Option.some.inj h
        exact HR _ _ dX0_ways_30
set_option maxRecDepth 100000 in
set_option maxHeartbeats 4000000 in
theorem M_X0_ways (l : Launch) (G : jG) (p0_0 p0_1 : Nat) (v1 : Int32) (v2 : Int32) (v3 : Int32) (s0 : FallsS) {r : Int32} (h : f_X0_ways v1 v2 v3 s0 = some r) : MC l yX0_ways cX0_ways 4 (some .int) 1 G jNo False (wFalls G p0_0 p0_1 s0) (wFalls G p0_0 p0_1 s0) [.ref p0_0, .int v1, .int v2, .int v3] (some (.int r)) := by
  refine mc_int (by decide +kernel) (Nat.le_of_ble_eq_true rfl) fun E hl hg hA hrw K HR => ?_
  subst hl
  subst hg
  exact b_X0_ways p0_0 p0_1 s0 K HR v1 v2 v3 h
theorem ok_X0_waysByNext : yX0_waysByNext.cls ≠ "java/lang/invoke/MethodHandle" ∧ yX0_waysByNext.cls ≠ "java/lang/invoke/VarHandle" ∧ (parseMethodDescriptor yX0_waysByNext.desc).map (fun d => d.parameters.length) = some 3 := ⟨by decide, by decide, by decide +kernel⟩
def f_X0_waysByNext_33 (k6 : Int32 → Int32 → Int32 → Int32 → Int32 → FallsS → Option (Int32)) (v1 : Int32) (v2 : Int32) (v3 : Int32) (v5 : Int32) (t0 : Int32) (t2 : Int32) (t3 : Int32) (t4 : Int32) (s0 : FallsS) : Option (Int32) :=
   jbd (f_X0_ways t2 t3 t4 s0) (fun r33 =>
   k6 v1 v2 v3 (t0 + r33) (v5 + (1 : Int32)) s0)
def f_X0_waysByNext_6 : Nat → Int32 → Int32 → Int32 → Int32 → Int32 → FallsS → Option (Int32)
  | 0, _, _, _, _, _, _ => none
  | n + 1, v1, v2, v3, v4, v5, s0 =>
   if v2 ≤ v5 then
   some v4
  else
   if v1 ≤ v5 then
    f_X0_waysByNext_33 (f_X0_waysByNext_6 n) v1 v2 v3 v5 v4 v5 (v2 - (1 : Int32)) v3 s0
   else
    f_X0_waysByNext_33 (f_X0_waysByNext_6 n) v1 v2 v3 v5 v4 v5 (v2 - (1 : Int32)) (v3 - (1 : Int32)) s0
def f_X0_waysByNext (v1 : Int32) (v2 : Int32) (v3 : Int32) (s0 : FallsS) : Option (Int32) :=
   f_X0_waysByNext_6 jFU v1 v2 v3 (0 : Int32) (0 : Int32) s0
set_option maxRecDepth 100000 in
set_option maxHeartbeats 4000000 in
theorem b_X0_waysByNext_33 {E : jE} (p0_0 p0_1 : Nat) (s0 : FallsS) {res : Int32} (K : jC E cX0_waysByNext 6 RX0 2) (HR : jRI E cX0_waysByNext 6 (wFalls (jg E) p0_0 p0_1 s0) res) (k6 : Int32 → Int32 → Int32 → Int32 → Int32 → FallsS → Option (Int32)) (hk6 : ∀ (v1 : Int32) (v2 : Int32) (v3 : Int32) (v4 : Int32) (v5 : Int32), k6 v1 v2 v3 v4 v5 s0 = some res → J E 6 (wFalls (jg E) p0_0 p0_1 s0) 6 [(0, .ref p0_0), (1, .int v1), (2, .int v2), (3, .int v3), (4, .int v4), (5, .int v5)] []) : ∀ (v1 : Int32) (v2 : Int32) (v3 : Int32) (v5 : Int32) (t0 : Int32) (t2 : Int32) (t3 : Int32) (t4 : Int32), f_X0_waysByNext_33 k6 v1 v2 v3 v5 t0 t2 t3 t4 s0 = some res → J E 6 (wFalls (jg E) p0_0 p0_1 s0) 33 [(0, .ref p0_0), (1, .int v1), (2, .int v2), (3, .int v3), (5, .int v5)] [.int t4, .int t3, .int t2, .ref p0_0, .int t0] := by
  intro v1 v2 v3 v5 t0 t2 t3 t4 h
  unfold f_X0_waysByNext_33 at h
  obtain ⟨r33, hr33, h⟩ := jbd_some h
  refine j_ro (pc' := 36) K (fun H hP => jrun_V K dX0_waysByNext_33 (M_X0_ways (jl E) (jg E) p0_0 p0_1 t2 t3 t4 s0 hr33) u_1_94 u_1_91 u_1_92 u_1_93 u_1_7 ⟨ok_X0_ways, by decide, by decide⟩ rfl (Nat.le_of_ble_eq_true rfl) 0 rfl rfl H hP) [0, 1] rfl rfl ?_
  refine j_iadd (pc' := 37) K dX0_waysByNext_36 rfl ?_
  refine j_istore (pc' := 39) (lv' := [(4, .int (t0 + r33)), (0, .ref p0_0), (1, .int v1), (2, .int v2), (3, .int v3), (5, .int v5)]) K dX0_waysByNext_37 (by decide) rfl rfl ?_
  refine j_iinc (pc' := 42) (j := 5) (v := (v5 + (1 : Int32))) (lv' := [(5, .int (v5 + (1 : Int32))), (4, .int (t0 + r33)), (0, .ref p0_0), (1, .int v1), (2, .int v2), (3, .int v3)]) K dX0_waysByNext_39 rfl rfl (by decide) rfl rfl ?_
  refine j_goto (tgt := 6) K dX0_waysByNext_42 (by decide) ?_
  refine j_sub [2, 3, 4, 5, 1, 0] rfl ?_
  exact hk6 v1 v2 v3 (t0 + r33) (v5 + (1 : Int32)) h
set_option maxRecDepth 100000 in
set_option maxHeartbeats 4000000 in
theorem b_X0_waysByNext_6 {E : jE} (p0_0 p0_1 : Nat) (s0 : FallsS) {res : Int32} (K : jC E cX0_waysByNext 6 RX0 2) (HR : jRI E cX0_waysByNext 6 (wFalls (jg E) p0_0 p0_1 s0) res) : ∀ (n : Nat) (v1 : Int32) (v2 : Int32) (v3 : Int32) (v4 : Int32) (v5 : Int32), f_X0_waysByNext_6 n v1 v2 v3 v4 v5 s0 = some res → J E 6 (wFalls (jg E) p0_0 p0_1 s0) 6 [(0, .ref p0_0), (1, .int v1), (2, .int v2), (3, .int v3), (4, .int v4), (5, .int v5)] [] := by
  intro n
  induction n with
  | zero => intro _ _ _ _ _ h; cases h
  | succ n ih =>
    intro v1 v2 v3 v4 v5 h
    rw [f_X0_waysByNext_6] at h
    refine j_iload (pc' := 8) K dX0_waysByNext_6 5 rfl rfl ?_
    refine j_iload_n (pc' := 9) K dX0_waysByNext_8 rfl 2 rfl rfl ?_
    refine j_icmp_ge (pc' := 12) (tgt := 45) K dX0_waysByNext_9 (by decide) rfl (fun hc => ?_) (fun hc => ?_)
    · have h := jit hc h
      refine j_iload (pc' := 47) K dX0_waysByNext_45 4 rfl rfl ?_
      obtain rfl := Option.some.inj h
      exact HR _ _ dX0_waysByNext_47
    · have h := jif hc h
      refine j_iload (pc' := 14) K dX0_waysByNext_12 4 rfl rfl ?_
      refine j_aload_n (pc' := 15) K dX0_waysByNext_14 rfl 0 rfl rfl ?_
      refine j_iload (pc' := 17) K dX0_waysByNext_15 5 rfl rfl ?_
      refine j_iload_n (pc' := 18) K dX0_waysByNext_17 rfl 2 rfl rfl ?_
      refine j_iconst (pc' := 19) (v := (1 : Int32)) K dX0_waysByNext_18 (by decide) rfl ?_
      refine j_isub (pc' := 20) K dX0_waysByNext_19 rfl ?_
      refine j_iload (pc' := 22) K dX0_waysByNext_20 5 rfl rfl ?_
      refine j_iload_n (pc' := 23) K dX0_waysByNext_22 rfl 1 rfl rfl ?_
      refine j_icmp_ge (pc' := 26) (tgt := 32) K dX0_waysByNext_23 (by decide) rfl (fun hc => ?_) (fun hc => ?_)
      · have h := jit hc h
        refine j_iload_n (pc' := 33) K dX0_waysByNext_32 rfl 3 rfl rfl ?_
        refine j_sub [0, 1, 2, 3, 5] rfl ?_
        exact b_X0_waysByNext_33 p0_0 p0_1 s0 K HR (f_X0_waysByNext_6 n) (ih) v1 v2 v3 v5 v4 v5 (v2 - (1 : Int32)) v3 h
      · have h := jif hc h
        refine j_iload_n (pc' := 27) K dX0_waysByNext_26 rfl 3 rfl rfl ?_
        refine j_iconst (pc' := 28) (v := (1 : Int32)) K dX0_waysByNext_27 (by decide) rfl ?_
        refine j_isub (pc' := 29) K dX0_waysByNext_28 rfl ?_
        refine j_goto (tgt := 33) K dX0_waysByNext_29 (by decide) ?_
        refine j_sub [0, 1, 2, 3, 5] rfl ?_
        exact b_X0_waysByNext_33 p0_0 p0_1 s0 K HR (f_X0_waysByNext_6 n) (ih) v1 v2 v3 v5 v4 v5 (v2 - (1 : Int32)) (v3 - (1 : Int32)) h
set_option maxRecDepth 100000 in
set_option maxHeartbeats 4000000 in
theorem b_X0_waysByNext {E : jE} (p0_0 p0_1 : Nat) (s0 : FallsS) {res : Int32} (K : jC E cX0_waysByNext 6 RX0 2) (HR : jRI E cX0_waysByNext 6 (wFalls (jg E) p0_0 p0_1 s0) res) : ∀ (v1 : Int32) (v2 : Int32) (v3 : Int32), f_X0_waysByNext v1 v2 v3 s0 = some res → J E 6 (wFalls (jg E) p0_0 p0_1 s0) 0 [(0, .ref p0_0), (1, .int v1), (2, .int v2), (3, .int v3)] [] := by
  intro v1 v2 v3 h
  unfold f_X0_waysByNext at h
  refine j_iconst (pc' := 1) (v := (0 : Int32)) K dX0_waysByNext_0 (by decide) rfl ?_
  refine j_istore (pc' := 3) (lv' := [(4, .int (0 : Int32)), (0, .ref p0_0), (1, .int v1), (2, .int v2), (3, .int v3)]) K dX0_waysByNext_1 (by decide) rfl rfl ?_
  refine j_iconst (pc' := 4) (v := (0 : Int32)) K dX0_waysByNext_3 (by decide) rfl ?_
  refine j_istore (pc' := 6) (lv' := [(5, .int (0 : Int32)), (4, .int (0 : Int32)), (0, .ref p0_0), (1, .int v1), (2, .int v2), (3, .int v3)]) K dX0_waysByNext_4 (by decide) rfl rfl ?_
  refine j_sub [2, 3, 4, 5, 1, 0] rfl ?_
  exact b_X0_waysByNext_6 p0_0 p0_1 s0 K HR jFU v1 v2 v3 (0 : Int32) (0 : Int32) h
set_option maxRecDepth 100000 in
set_option maxHeartbeats 4000000 in
theorem M_X0_waysByNext (l : Launch) (G : jG) (p0_0 p0_1 : Nat) (v1 : Int32) (v2 : Int32) (v3 : Int32) (s0 : FallsS) {r : Int32} (h : f_X0_waysByNext v1 v2 v3 s0 = some r) : MC l yX0_waysByNext cX0_waysByNext 6 (some .int) 2 G jNo False (wFalls G p0_0 p0_1 s0) (wFalls G p0_0 p0_1 s0) [.ref p0_0, .int v1, .int v2, .int v3] (some (.int r)) := by
  refine mc_int (by decide +kernel) (Nat.le_of_ble_eq_true rfl) fun E hl hg hA hrw K HR => ?_
  subst hl
  subst hg
  exact b_X0_waysByNext p0_0 p0_1 s0 K HR v1 v2 v3 h
theorem ok_X3_start : yX3_start.cls ≠ "java/lang/invoke/MethodHandle" ∧ yX3_start.cls ≠ "java/lang/invoke/VarHandle" ∧ (parseMethodDescriptor yX3_start.desc).map (fun d => d.parameters.length) = some 1 := ⟨by decide, by decide, by decide +kernel⟩
def f_X3_start (v1 : Int32) : Option (Int32) :=
   some (0 : Int32)
set_option maxRecDepth 100000 in
set_option maxHeartbeats 4000000 in
theorem b_X3_start {E : jE}  (q0 : Nat) {res : Int32} (K : jC E cX3_start 2 RX3 0) (HR : jRI E cX3_start 2 ([] : va_W) res) : ∀ (v1 : Int32), f_X3_start v1 = some res → J E 2 ([] : va_W) 0 [(0, .ref q0), (1, .int v1)] [] := by
  intro v1 h
  unfold f_X3_start at h
  refine j_iconst (pc' := 1) (v := (0 : Int32)) K dX3_start_0 (by decide) rfl ?_
  obtain rfl := Option.some.inj h
  exact HR _ _ dX3_start_1
set_option maxRecDepth 100000 in
set_option maxHeartbeats 4000000 in
theorem M_X3_start (l : Launch) (G : jG)  (q0 : Nat) (v1 : Int32) {r : Int32} (h : f_X3_start v1 = some r) : MC l yX3_start cX3_start 2 (some .int) 0 G jNo False ([] : va_W) ([] : va_W) [.ref q0, .int v1] (some (.int r)) := by
  refine mc_int (by decide +kernel) (Nat.le_of_ble_eq_true rfl) fun E hl hg hA hrw K HR => ?_
  subst hl
  subst hg
  exact b_X3_start q0 K HR v1 h
theorem ok_X3_growth : yX3_growth.cls ≠ "java/lang/invoke/MethodHandle" ∧ yX3_growth.cls ≠ "java/lang/invoke/VarHandle" ∧ (parseMethodDescriptor yX3_growth.desc).map (fun d => d.parameters.length) = some 5 := ⟨by decide, by decide, by decide +kernel⟩
def f_X3_growth (v1 : Int32) (v2 : Int32) (v3 : Int32) (v5 : Int32) : Option (Int32) :=
   some v3
set_option maxRecDepth 100000 in
set_option maxHeartbeats 4000000 in
theorem b_X3_growth {E : jE}  (q0 q1 : Nat) {res : Int32} (K : jC E cX3_growth 6 RX3 0) (HR : jRI E cX3_growth 6 ([] : va_W) res) : ∀ (v1 : Int32) (v2 : Int32) (v3 : Int32) (v5 : Int32), f_X3_growth v1 v2 v3 v5 = some res → J E 6 ([] : va_W) 0 [(0, .ref q0), (1, .int v1), (2, .int v2), (3, .int v3), (4, .ref q1), (5, .int v5)] [] := by
  intro v1 v2 v3 v5 h
  unfold f_X3_growth at h
  refine j_iload_n (pc' := 1) K dX3_growth_0 rfl 3 rfl rfl ?_
  obtain rfl := Option.some.inj h
  exact HR _ _ dX3_growth_1
set_option maxRecDepth 100000 in
set_option maxHeartbeats 4000000 in
theorem M_X3_growth (l : Launch) (G : jG)  (q0 q1 : Nat) (v1 : Int32) (v2 : Int32) (v3 : Int32) (v5 : Int32) {r : Int32} (h : f_X3_growth v1 v2 v3 v5 = some r) : MC l yX3_growth cX3_growth 6 (some .int) 0 G jNo False ([] : va_W) ([] : va_W) [.ref q0, .int v1, .int v2, .int v3, .ref q1, .int v5] (some (.int r)) := by
  refine mc_int (by decide +kernel) (Nat.le_of_ble_eq_true rfl) fun E hl hg hA hrw K HR => ?_
  subst hl
  subst hg
  exact b_X3_growth q0 q1 K HR v1 v2 v3 v5 h
theorem ok_X3_next : yX3_next.cls ≠ "java/lang/invoke/MethodHandle" ∧ yX3_next.cls ≠ "java/lang/invoke/VarHandle" ∧ (parseMethodDescriptor yX3_next.desc).map (fun d => d.parameters.length) = some 3 := ⟨by decide, by decide, by decide +kernel⟩
def f_X3_next (v1 : Int32) (v2 : Int32) (v3 : Int32) : Option (Int32) :=
   some (0 : Int32)
set_option maxRecDepth 100000 in
set_option maxHeartbeats 4000000 in
theorem b_X3_next {E : jE}  (q0 : Nat) {res : Int32} (K : jC E cX3_next 4 RX3 0) (HR : jRI E cX3_next 4 ([] : va_W) res) : ∀ (v1 : Int32) (v2 : Int32) (v3 : Int32), f_X3_next v1 v2 v3 = some res → J E 4 ([] : va_W) 0 [(0, .ref q0), (1, .int v1), (2, .int v2), (3, .int v3)] [] := by
  intro v1 v2 v3 h
  unfold f_X3_next at h
  refine j_iconst (pc' := 1) (v := (0 : Int32)) K dX3_next_0 (by decide) rfl ?_
  obtain rfl := Option.some.inj h
  exact HR _ _ dX3_next_1
set_option maxRecDepth 100000 in
set_option maxHeartbeats 4000000 in
theorem M_X3_next (l : Launch) (G : jG)  (q0 : Nat) (v1 : Int32) (v2 : Int32) (v3 : Int32) {r : Int32} (h : f_X3_next v1 v2 v3 = some r) : MC l yX3_next cX3_next 4 (some .int) 0 G jNo False ([] : va_W) ([] : va_W) [.ref q0, .int v1, .int v2, .int v3] (some (.int r)) := by
  refine mc_int (by decide +kernel) (Nat.le_of_ble_eq_true rfl) fun E hl hg hA hrw K HR => ?_
  subst hl
  subst hg
  exact b_X3_next q0 K HR v1 v2 v3 h
theorem ok_X3_ways : yX3_ways.cls ≠ "java/lang/invoke/MethodHandle" ∧ yX3_ways.cls ≠ "java/lang/invoke/VarHandle" ∧ (parseMethodDescriptor yX3_ways.desc).map (fun d => d.parameters.length) = some 3 := ⟨by decide, by decide, by decide +kernel⟩
def f_X3_ways (v1 : Int32) (v2 : Int32) (v3 : Int32) (s0 : LesserPairsS) : Option (Int32) :=
   jbd (f_X11_within v2 (0 : Int32) (8 : Int32)) (fun r4 =>
   if r4 = 0 then
    some (0 : Int32)
   else
    jbd (f_X11_within v3 (0 : Int32) (28 : Int32)) (fun r14 =>
     if r14 = 0 then
      some (0 : Int32)
     else
      jgd ((v2 * (29 : Int32)) + v3) 261 (
       some (s0 (Int32.toNatClampNeg ((v2 * (29 : Int32)) + v3))))))
set_option maxRecDepth 100000 in
set_option maxHeartbeats 4000000 in
theorem b_X3_ways {E : jE} (p0_0 p0_1 : Nat) (s0 : LesserPairsS) {res : Int32} (K : jC E cX3_ways 4 RX3 1) (HR : jRI E cX3_ways 4 (wLesserPairs (jg E) p0_0 p0_1 s0) res) : ∀ (v1 : Int32) (v2 : Int32) (v3 : Int32), f_X3_ways v1 v2 v3 s0 = some res → J E 4 (wLesserPairs (jg E) p0_0 p0_1 s0) 0 [(0, .ref p0_0), (1, .int v1), (2, .int v2), (3, .int v3)] [] := by
  intro v1 v2 v3 h
  unfold f_X3_ways at h
  refine j_iload_n (pc' := 1) K dX3_ways_0 rfl 2 rfl rfl ?_
  refine j_iconst (pc' := 2) (v := (0 : Int32)) K dX3_ways_1 (by decide) rfl ?_
  refine j_bipush (pc' := 4) (v := (8 : Int32)) K dX3_ways_2 (by decide) rfl ?_
  obtain ⟨r4, hr4, h⟩ := jbd_some h
  refine j_ro (pc' := 7) K (fun H hP => jrun_SN K dX3_ways_4 (host := "CountTriangles") (M_X11_within (jl E) (jg E) v2 (0 : Int32) (8 : Int32) hr4) u_1_76 (by decide) u_1_75 u_1_1 ⟨ok_X11_within, by decide, by decide⟩ rfl (Nat.le_of_ble_eq_true rfl) H) [] rfl rfl ?_
  refine j_if_eq (pc' := 10) (tgt := 20) K dX3_ways_7 (by decide) rfl (fun hc => ?_) (fun hc => ?_)
  · have h := jit hc h
    refine j_iconst (pc' := 21) (v := (0 : Int32)) K dX3_ways_20 (by decide) rfl ?_
    obtain rfl := Option.some.inj h
    exact HR _ _ dX3_ways_21
  · have h := jif hc h
    refine j_iload_n (pc' := 11) K dX3_ways_10 rfl 3 rfl rfl ?_
    refine j_iconst (pc' := 12) (v := (0 : Int32)) K dX3_ways_11 (by decide) rfl ?_
    refine j_bipush (pc' := 14) (v := (28 : Int32)) K dX3_ways_12 (by decide) rfl ?_
    obtain ⟨r14, hr14, h⟩ := jbd_some h
    refine j_ro (pc' := 17) K (fun H hP => jrun_SN K dX3_ways_14 (host := "CountTriangles") (M_X11_within (jl E) (jg E) v3 (0 : Int32) (28 : Int32) hr14) u_1_76 (by decide) u_1_75 u_1_1 ⟨ok_X11_within, by decide, by decide⟩ rfl (Nat.le_of_ble_eq_true rfl) H) [] rfl rfl ?_
    refine j_if_ne (pc' := 20) (tgt := 22) K dX3_ways_17 (by decide) rfl (fun hc => ?_) (fun hc => ?_)
    · have h := jif hc h
      refine j_aload_n (pc' := 23) K dX3_ways_22 rfl 0 rfl rfl ?_
      refine j_get (pc' := 26) K dX3_ways_23 inX3 0 rfl rfl 0 (by decide) u_1_115 rfl rfl rfl ?_
      refine j_iload_n (pc' := 27) K dX3_ways_26 rfl 2 rfl rfl ?_
      refine j_bipush (pc' := 29) (v := (29 : Int32)) K dX3_ways_27 (by decide) rfl ?_
      refine j_imul (pc' := 30) K dX3_ways_29 rfl ?_
      refine j_iload_n (pc' := 31) K dX3_ways_30 rfl 3 rfl rfl ?_
      refine j_iadd (pc' := 32) K dX3_ways_31 rfl ?_
      obtain ⟨hg, h⟩ := jgd_some h
      refine j_iald (pc' := 33) K dX3_ways_32 1 rfl hg rfl ?_
      obtain rfl := Option.some.inj h
      exact HR _ _ dX3_ways_33
    · have h := jit hc h
      refine j_iconst (pc' := 21) (v := (0 : Int32)) K dX3_ways_20 (by decide) rfl ?_
      obtain rfl := Option.some.inj h
      exact HR _ _ dX3_ways_21
set_option maxRecDepth 100000 in
set_option maxHeartbeats 4000000 in
theorem M_X3_ways (l : Launch) (G : jG) (p0_0 p0_1 : Nat) (v1 : Int32) (v2 : Int32) (v3 : Int32) (s0 : LesserPairsS) {r : Int32} (h : f_X3_ways v1 v2 v3 s0 = some r) : MC l yX3_ways cX3_ways 4 (some .int) 1 G jNo False (wLesserPairs G p0_0 p0_1 s0) (wLesserPairs G p0_0 p0_1 s0) [.ref p0_0, .int v1, .int v2, .int v3] (some (.int r)) := by
  refine mc_int (by decide +kernel) (Nat.le_of_ble_eq_true rfl) fun E hl hg hA hrw K HR => ?_
  subst hl
  subst hg
  exact b_X3_ways p0_0 p0_1 s0 K HR v1 v2 v3 h
theorem ok_X3_waysByNext : yX3_waysByNext.cls ≠ "java/lang/invoke/MethodHandle" ∧ yX3_waysByNext.cls ≠ "java/lang/invoke/VarHandle" ∧ (parseMethodDescriptor yX3_waysByNext.desc).map (fun d => d.parameters.length) = some 2 := ⟨by decide, by decide, by decide +kernel⟩
def f_X3_waysByNext_5 : Nat → Int32 → Int32 → Int32 → Int32 → LesserPairsS → Option (Int32)
  | 0, _, _, _, _, _ => none
  | n + 1, v1, v2, v3, v4, s0 =>
   if v1 ≤ v4 then
   some v3
  else
   jbd (f_X3_ways (0 : Int32) (v1 - (1 : Int32)) (v2 - v4) s0) (fun r21 =>
    (f_X3_waysByNext_5 n) v1 v2 (v3 + r21) (v4 + (1 : Int32)) s0)
def f_X3_waysByNext (v1 : Int32) (v2 : Int32) (s0 : LesserPairsS) : Option (Int32) :=
   f_X3_waysByNext_5 jFU v1 v2 (0 : Int32) (0 : Int32) s0
set_option maxRecDepth 100000 in
set_option maxHeartbeats 4000000 in
theorem b_X3_waysByNext_5 {E : jE} (p0_0 p0_1 : Nat) (s0 : LesserPairsS) {res : Int32} (K : jC E cX3_waysByNext 5 RX3 2) (HR : jRI E cX3_waysByNext 5 (wLesserPairs (jg E) p0_0 p0_1 s0) res) : ∀ (n : Nat) (v1 : Int32) (v2 : Int32) (v3 : Int32) (v4 : Int32), f_X3_waysByNext_5 n v1 v2 v3 v4 s0 = some res → J E 5 (wLesserPairs (jg E) p0_0 p0_1 s0) 5 [(0, .ref p0_0), (1, .int v1), (2, .int v2), (3, .int v3), (4, .int v4)] [] := by
  intro n
  induction n with
  | zero => intro _ _ _ _ h; cases h
  | succ n ih =>
    intro v1 v2 v3 v4 h
    rw [f_X3_waysByNext_5] at h
    refine j_iload (pc' := 7) K dX3_waysByNext_5 4 rfl rfl ?_
    refine j_iload_n (pc' := 8) K dX3_waysByNext_7 rfl 1 rfl rfl ?_
    refine j_icmp_ge (pc' := 11) (tgt := 32) K dX3_waysByNext_8 (by decide) rfl (fun hc => ?_) (fun hc => ?_)
    · have h := jit hc h
      refine j_iload_n (pc' := 33) K dX3_waysByNext_32 rfl 3 rfl rfl ?_
      obtain rfl := Option.some.inj h
      exact HR _ _ dX3_waysByNext_33
    · have h := jif hc h
      refine j_iload_n (pc' := 12) K dX3_waysByNext_11 rfl 3 rfl rfl ?_
      refine j_aload_n (pc' := 13) K dX3_waysByNext_12 rfl 0 rfl rfl ?_
      refine j_iconst (pc' := 14) (v := (0 : Int32)) K dX3_waysByNext_13 (by decide) rfl ?_
      refine j_iload_n (pc' := 15) K dX3_waysByNext_14 rfl 1 rfl rfl ?_
      refine j_iconst (pc' := 16) (v := (1 : Int32)) K dX3_waysByNext_15 (by decide) rfl ?_
      refine j_isub (pc' := 17) K dX3_waysByNext_16 rfl ?_
      refine j_iload_n (pc' := 18) K dX3_waysByNext_17 rfl 2 rfl rfl ?_
      refine j_iload (pc' := 20) K dX3_waysByNext_18 4 rfl rfl ?_
      refine j_isub (pc' := 21) K dX3_waysByNext_20 rfl ?_
      obtain ⟨r21, hr21, h⟩ := jbd_some h
      refine j_ro (pc' := 24) K (fun H hP => jrun_V K dX3_waysByNext_21 (M_X3_ways (jl E) (jg E) p0_0 p0_1 (0 : Int32) (v1 - (1 : Int32)) (v2 - v4) s0 hr21) u_1_113 u_1_110 u_1_111 u_1_112 u_1_8 ⟨ok_X3_ways, by decide, by decide⟩ rfl (Nat.le_of_ble_eq_true rfl) 0 rfl rfl H hP) [0, 1] rfl rfl ?_
      refine j_iadd (pc' := 25) K dX3_waysByNext_24 rfl ?_
      refine j_istore_n (pc' := 26) (lv' := [(3, .int (v3 + r21)), (0, .ref p0_0), (1, .int v1), (2, .int v2), (4, .int v4)]) K dX3_waysByNext_25 rfl (by decide) rfl rfl ?_
      refine j_iinc (pc' := 29) (j := 4) (v := (v4 + (1 : Int32))) (lv' := [(4, .int (v4 + (1 : Int32))), (3, .int (v3 + r21)), (0, .ref p0_0), (1, .int v1), (2, .int v2)]) K dX3_waysByNext_26 rfl rfl (by decide) rfl rfl ?_
      refine j_goto (tgt := 5) K dX3_waysByNext_29 (by decide) ?_
      refine j_sub [2, 3, 4, 1, 0] rfl ?_
      exact ih v1 v2 (v3 + r21) (v4 + (1 : Int32)) h
set_option maxRecDepth 100000 in
set_option maxHeartbeats 4000000 in
theorem b_X3_waysByNext {E : jE} (p0_0 p0_1 : Nat) (s0 : LesserPairsS) {res : Int32} (K : jC E cX3_waysByNext 5 RX3 2) (HR : jRI E cX3_waysByNext 5 (wLesserPairs (jg E) p0_0 p0_1 s0) res) : ∀ (v1 : Int32) (v2 : Int32), f_X3_waysByNext v1 v2 s0 = some res → J E 5 (wLesserPairs (jg E) p0_0 p0_1 s0) 0 [(0, .ref p0_0), (1, .int v1), (2, .int v2)] [] := by
  intro v1 v2 h
  unfold f_X3_waysByNext at h
  refine j_iconst (pc' := 1) (v := (0 : Int32)) K dX3_waysByNext_0 (by decide) rfl ?_
  refine j_istore_n (pc' := 2) (lv' := [(3, .int (0 : Int32)), (0, .ref p0_0), (1, .int v1), (2, .int v2)]) K dX3_waysByNext_1 rfl (by decide) rfl rfl ?_
  refine j_iconst (pc' := 3) (v := (0 : Int32)) K dX3_waysByNext_2 (by decide) rfl ?_
  refine j_istore (pc' := 5) (lv' := [(4, .int (0 : Int32)), (3, .int (0 : Int32)), (0, .ref p0_0), (1, .int v1), (2, .int v2)]) K dX3_waysByNext_3 (by decide) rfl rfl ?_
  refine j_sub [2, 3, 4, 1, 0] rfl ?_
  exact b_X3_waysByNext_5 p0_0 p0_1 s0 K HR jFU v1 v2 (0 : Int32) (0 : Int32) h
set_option maxRecDepth 100000 in
set_option maxHeartbeats 4000000 in
theorem M_X3_waysByNext (l : Launch) (G : jG) (p0_0 p0_1 : Nat) (v1 : Int32) (v2 : Int32) (s0 : LesserPairsS) {r : Int32} (h : f_X3_waysByNext v1 v2 s0 = some r) : MC l yX3_waysByNext cX3_waysByNext 5 (some .int) 2 G jNo False (wLesserPairs G p0_0 p0_1 s0) (wLesserPairs G p0_0 p0_1 s0) [.ref p0_0, .int v1, .int v2] (some (.int r)) := by
  refine mc_int (by decide +kernel) (Nat.le_of_ble_eq_true rfl) fun E hl hg hA hrw K HR => ?_
  subst hl
  subst hg
  exact b_X3_waysByNext p0_0 p0_1 s0 K HR v1 v2 h
theorem ok_X1_start : yX1_start.cls ≠ "java/lang/invoke/MethodHandle" ∧ yX1_start.cls ≠ "java/lang/invoke/VarHandle" ∧ (parseMethodDescriptor yX1_start.desc).map (fun d => d.parameters.length) = some 1 := ⟨by decide, by decide, by decide +kernel⟩
def f_X1_start (v1 : Int32) : Option (Int32) :=
   some v1
set_option maxRecDepth 100000 in
set_option maxHeartbeats 4000000 in
theorem b_X1_start {E : jE}  (q0 : Nat) {res : Int32} (K : jC E cX1_start 2 RX1 0) (HR : jRI E cX1_start 2 ([] : va_W) res) : ∀ (v1 : Int32), f_X1_start v1 = some res → J E 2 ([] : va_W) 0 [(0, .ref q0), (1, .int v1)] [] := by
  intro v1 h
  unfold f_X1_start at h
  refine j_iload_n (pc' := 1) K dX1_start_0 rfl 1 rfl rfl ?_
  obtain rfl := Option.some.inj h
  exact HR _ _ dX1_start_1
set_option maxRecDepth 100000 in
set_option maxHeartbeats 4000000 in
theorem M_X1_start (l : Launch) (G : jG)  (q0 : Nat) (v1 : Int32) {r : Int32} (h : f_X1_start v1 = some r) : MC l yX1_start cX1_start 2 (some .int) 0 G jNo False ([] : va_W) ([] : va_W) [.ref q0, .int v1] (some (.int r)) := by
  refine mc_int (by decide +kernel) (Nat.le_of_ble_eq_true rfl) fun E hl hg hA hrw K HR => ?_
  subst hl
  subst hg
  exact b_X1_start q0 K HR v1 h
theorem ok_X1_growth : yX1_growth.cls ≠ "java/lang/invoke/MethodHandle" ∧ yX1_growth.cls ≠ "java/lang/invoke/VarHandle" ∧ (parseMethodDescriptor yX1_growth.desc).map (fun d => d.parameters.length) = some 5 := ⟨by decide, by decide, by decide +kernel⟩
def f_X1_growth (v1 : Int32) (v2 : Int32) (v3 : Int32) (v5 : Int32) : Option (Int32) :=
   if v3 < (v2 - v1) then
   some (0 : Int32)
  else
   some (1 : Int32)
set_option maxRecDepth 100000 in
set_option maxHeartbeats 4000000 in
theorem b_X1_growth {E : jE}  (q0 q1 : Nat) {res : Int32} (K : jC E cX1_growth 6 RX1 0) (HR : jRI E cX1_growth 6 ([] : va_W) res) : ∀ (v1 : Int32) (v2 : Int32) (v3 : Int32) (v5 : Int32), f_X1_growth v1 v2 v3 v5 = some res → J E 6 ([] : va_W) 0 [(0, .ref q0), (1, .int v1), (2, .int v2), (3, .int v3), (4, .ref q1), (5, .int v5)] [] := by
  intro v1 v2 v3 v5 h
  unfold f_X1_growth at h
  refine j_iload_n (pc' := 1) K dX1_growth_0 rfl 3 rfl rfl ?_
  refine j_iload_n (pc' := 2) K dX1_growth_1 rfl 2 rfl rfl ?_
  refine j_iload_n (pc' := 3) K dX1_growth_2 rfl 1 rfl rfl ?_
  refine j_isub (pc' := 4) K dX1_growth_3 rfl ?_
  refine j_icmp_lt (pc' := 7) (tgt := 11) K dX1_growth_4 (by decide) rfl (fun hc => ?_) (fun hc => ?_)
  · have h := jit hc h
    refine j_iconst (pc' := 12) (v := (0 : Int32)) K dX1_growth_11 (by decide) rfl ?_
    obtain rfl := Option.some.inj h
    exact HR _ _ dX1_growth_12
  · have h := jif hc h
    refine j_iconst (pc' := 8) (v := (1 : Int32)) K dX1_growth_7 (by decide) rfl ?_
    refine j_goto (tgt := 12) K dX1_growth_8 (by decide) ?_
    obtain rfl := Option.some.inj h
    exact HR _ _ dX1_growth_12
set_option maxRecDepth 100000 in
set_option maxHeartbeats 4000000 in
theorem M_X1_growth (l : Launch) (G : jG)  (q0 q1 : Nat) (v1 : Int32) (v2 : Int32) (v3 : Int32) (v5 : Int32) {r : Int32} (h : f_X1_growth v1 v2 v3 v5 = some r) : MC l yX1_growth cX1_growth 6 (some .int) 0 G jNo False ([] : va_W) ([] : va_W) [.ref q0, .int v1, .int v2, .int v3, .ref q1, .int v5] (some (.int r)) := by
  refine mc_int (by decide +kernel) (Nat.le_of_ble_eq_true rfl) fun E hl hg hA hrw K HR => ?_
  subst hl
  subst hg
  exact b_X1_growth q0 q1 K HR v1 v2 v3 v5 h
theorem ok_X1_next : yX1_next.cls ≠ "java/lang/invoke/MethodHandle" ∧ yX1_next.cls ≠ "java/lang/invoke/VarHandle" ∧ (parseMethodDescriptor yX1_next.desc).map (fun d => d.parameters.length) = some 3 := ⟨by decide, by decide, by decide +kernel⟩
def f_X1_next (v1 : Int32) (v2 : Int32) (v3 : Int32) : Option (Int32) :=
   jbd (f_J9_min_7cf53 v1 ((v2 - (1 : Int32)) - v3)) (fun r6 =>
   some r6)
set_option maxRecDepth 100000 in
set_option maxHeartbeats 4000000 in
theorem b_X1_next {E : jE}  (q0 : Nat) {res : Int32} (K : jC E cX1_next 4 RX1 1) (HR : jRI E cX1_next 4 ([] : va_W) res) : ∀ (v1 : Int32) (v2 : Int32) (v3 : Int32), f_X1_next v1 v2 v3 = some res → J E 4 ([] : va_W) 0 [(0, .ref q0), (1, .int v1), (2, .int v2), (3, .int v3)] [] := by
  intro v1 v2 v3 h
  unfold f_X1_next at h
  refine j_iload_n (pc' := 1) K dX1_next_0 rfl 1 rfl rfl ?_
  refine j_iload_n (pc' := 2) K dX1_next_1 rfl 2 rfl rfl ?_
  refine j_iconst (pc' := 3) (v := (1 : Int32)) K dX1_next_2 (by decide) rfl ?_
  refine j_isub (pc' := 4) K dX1_next_3 rfl ?_
  refine j_iload_n (pc' := 5) K dX1_next_4 rfl 3 rfl rfl ?_
  refine j_isub (pc' := 6) K dX1_next_5 rfl ?_
  obtain ⟨r6, hr6, h⟩ := jbd_some h
  refine j_ro (pc' := 9) K (fun H hP => jrun_S K dX1_next_6 (M_J9_min_7cf53 (jl E) (jg E) v1 ((v2 - (1 : Int32)) - v3) hr6) u_2_150 u_3_87 u_2_149 u_1_15 ⟨ok_J9_min_7cf53, by decide, by decide⟩ rfl (Nat.le_of_ble_eq_true rfl) H) [] rfl rfl ?_
  obtain rfl := Option.some.inj h
  exact HR _ _ dX1_next_9
set_option maxRecDepth 100000 in
set_option maxHeartbeats 4000000 in
theorem M_X1_next (l : Launch) (G : jG)  (q0 : Nat) (v1 : Int32) (v2 : Int32) (v3 : Int32) {r : Int32} (h : f_X1_next v1 v2 v3 = some r) : MC l yX1_next cX1_next 4 (some .int) 1 G jNo False ([] : va_W) ([] : va_W) [.ref q0, .int v1, .int v2, .int v3] (some (.int r)) := by
  refine mc_int (by decide +kernel) (Nat.le_of_ble_eq_true rfl) fun E hl hg hA hrw K HR => ?_
  subst hl
  subst hg
  exact b_X1_next q0 K HR v1 v2 v3 h
theorem ok_X1_ways : yX1_ways.cls ≠ "java/lang/invoke/MethodHandle" ∧ yX1_ways.cls ≠ "java/lang/invoke/VarHandle" ∧ (parseMethodDescriptor yX1_ways.desc).map (fun d => d.parameters.length) = some 3 := ⟨by decide, by decide, by decide +kernel⟩
def f_X1_ways (v1 : Int32) (v2 : Int32) (v3 : Int32) (s0 : HeightsS) : Option (Int32) :=
   jbd (f_X11_within v2 (0 : Int32) (8 : Int32)) (fun r4 =>
   if r4 = 0 then
    some (0 : Int32)
   else
    jbd (f_X11_within v1 (0 : Int32) v2) (fun r13 =>
     if r13 = 0 then
      some (0 : Int32)
     else
      jgd v2 9 (
       jgd v1 9 (
        jnz (jfac (Int32.toNatClampNeg v1)) (
         jbd (f_X9_ways (0 : Int32) v1 v3 s0) (fun r39 =>
          some (((jfac (Int32.toNatClampNeg v2)) / (jfac (Int32.toNatClampNeg v1))) * r39)))))))
set_option maxRecDepth 100000 in
set_option maxHeartbeats 4000000 in
theorem b_X1_ways {E : jE} (p0_0 p0_1 p0_2 : Nat) (s0 : HeightsS) {res : Int32} (K : jC E cX1_ways 4 RX1 2) (HR : jRI E cX1_ways 4 (wHeights (jg E) p0_0 p0_1 p0_2 s0) res) : ∀ (v1 : Int32) (v2 : Int32) (v3 : Int32), f_X1_ways v1 v2 v3 s0 = some res → J E 4 (wHeights (jg E) p0_0 p0_1 p0_2 s0) 0 [(0, .ref p0_0), (1, .int v1), (2, .int v2), (3, .int v3)] [] := by
  intro v1 v2 v3 h
  unfold f_X1_ways at h
  refine j_iload_n (pc' := 1) K dX1_ways_0 rfl 2 rfl rfl ?_
  refine j_iconst (pc' := 2) (v := (0 : Int32)) K dX1_ways_1 (by decide) rfl ?_
  refine j_bipush (pc' := 4) (v := (8 : Int32)) K dX1_ways_2 (by decide) rfl ?_
  obtain ⟨r4, hr4, h⟩ := jbd_some h
  refine j_ro (pc' := 7) K (fun H hP => jrun_SN K dX1_ways_4 (host := "CountTriangles") (M_X11_within (jl E) (jg E) v2 (0 : Int32) (8 : Int32) hr4) u_1_76 (by decide) u_1_75 u_1_1 ⟨ok_X11_within, by decide, by decide⟩ rfl (Nat.le_of_ble_eq_true rfl) H) [] rfl rfl ?_
  refine j_if_eq (pc' := 10) (tgt := 19) K dX1_ways_7 (by decide) rfl (fun hc => ?_) (fun hc => ?_)
  · have h := jit hc h
    refine j_iconst (pc' := 20) (v := (0 : Int32)) K dX1_ways_19 (by decide) rfl ?_
    obtain rfl := Option.some.inj h
    exact HR _ _ dX1_ways_20
  · have h := jif hc h
    refine j_iload_n (pc' := 11) K dX1_ways_10 rfl 1 rfl rfl ?_
    refine j_iconst (pc' := 12) (v := (0 : Int32)) K dX1_ways_11 (by decide) rfl ?_
    refine j_iload_n (pc' := 13) K dX1_ways_12 rfl 2 rfl rfl ?_
    obtain ⟨r13, hr13, h⟩ := jbd_some h
    refine j_ro (pc' := 16) K (fun H hP => jrun_SN K dX1_ways_13 (host := "CountTriangles") (M_X11_within (jl E) (jg E) v1 (0 : Int32) v2 hr13) u_1_76 (by decide) u_1_75 u_1_1 ⟨ok_X11_within, by decide, by decide⟩ rfl (Nat.le_of_ble_eq_true rfl) H) [] rfl rfl ?_
    refine j_if_ne (pc' := 19) (tgt := 21) K dX1_ways_16 (by decide) rfl (fun hc => ?_) (fun hc => ?_)
    · have h := jif hc h
      refine j_getsN (pc' := 24) K dX1_ways_21 (host := "CountTriangles") (by decide) rfl ?_
      refine j_iload_n (pc' := 25) K dX1_ways_24 rfl 2 rfl rfl ?_
      obtain ⟨hg, h⟩ := jgd_some h
      refine j_fald (pc' := 26) K dX1_ways_25 hg rfl ?_
      refine j_getsN (pc' := 29) K dX1_ways_26 (host := "CountTriangles") (by decide) rfl ?_
      refine j_iload_n (pc' := 30) K dX1_ways_29 rfl 1 rfl rfl ?_
      obtain ⟨hg, h⟩ := jgd_some h
      refine j_fald (pc' := 31) K dX1_ways_30 hg rfl ?_
      obtain ⟨hg, h⟩ := jnz_some h
      refine j_idiv (pc' := 32) K dX1_ways_31 hg rfl ?_
      refine j_aload_n (pc' := 33) K dX1_ways_32 rfl 0 rfl rfl ?_
      refine j_get (pc' := 36) K dX1_ways_33 inX1 0 rfl rfl 0 (by decide) u_1_125 rfl rfl rfl ?_
      refine j_iconst (pc' := 37) (v := (0 : Int32)) K dX1_ways_36 (by decide) rfl ?_
      refine j_iload_n (pc' := 38) K dX1_ways_37 rfl 1 rfl rfl ?_
      refine j_iload_n (pc' := 39) K dX1_ways_38 rfl 3 rfl rfl ?_
      obtain ⟨r39, hr39, h⟩ := jbd_some h
      refine j_ro (pc' := 42) K (fun H hP => jrun_V K dX1_ways_39 (M_X9_ways (jl E) (jg E) p0_1 p0_2 (0 : Int32) v1 v3 s0 hr39) u_1_73 u_3_24 u_1_71 u_1_72 u_1_6 ⟨ok_X9_ways, by decide, by decide⟩ rfl (Nat.le_of_ble_eq_true rfl) 1 rfl rfl H hP) [1, 2] rfl rfl ?_
      refine j_imul (pc' := 43) K dX1_ways_42 rfl ?_
      obtain rfl := Option.some.inj h
      exact HR _ _ dX1_ways_43
    · have h := jit hc h
      refine j_iconst (pc' := 20) (v := (0 : Int32)) K dX1_ways_19 (by decide) rfl ?_
      obtain rfl := Option.some.inj h
      exact HR _ _ dX1_ways_20
set_option maxRecDepth 100000 in
set_option maxHeartbeats 4000000 in
theorem M_X1_ways (l : Launch) (G : jG) (p0_0 p0_1 p0_2 : Nat) (v1 : Int32) (v2 : Int32) (v3 : Int32) (s0 : HeightsS) {r : Int32} (h : f_X1_ways v1 v2 v3 s0 = some r) : MC l yX1_ways cX1_ways 4 (some .int) 2 G jNo False (wHeights G p0_0 p0_1 p0_2 s0) (wHeights G p0_0 p0_1 p0_2 s0) [.ref p0_0, .int v1, .int v2, .int v3] (some (.int r)) := by
  refine mc_int (by decide +kernel) (Nat.le_of_ble_eq_true rfl) fun E hl hg hA hrw K HR => ?_
  subst hl
  subst hg
  exact b_X1_ways p0_0 p0_1 p0_2 s0 K HR v1 v2 v3 h
theorem ok_X4_withEnd : yX4_withEnd.cls ≠ "java/lang/invoke/MethodHandle" ∧ yX4_withEnd.cls ≠ "java/lang/invoke/VarHandle" ∧ (parseMethodDescriptor yX4_withEnd.desc).map (fun d => d.parameters.length) = some 2 := ⟨by decide, by decide, by decide +kernel⟩
def f_X4_withEnd (v0 : Int32) (v1 : Int32) : Option (Int32) :=
   if ((v0 &&& (-(v1 <<< ((1 : Int32) &&& 31)))) &&& (-(v0 &&& (-(v1 <<< ((1 : Int32) &&& 31)))))) ≤ (jushr v0 (1 : Int32)) then
   some (((jushr (v0 ||| v1) (1 : Int32)) &&& (-((v0 &&& (-(v1 <<< ((1 : Int32) &&& 31)))) &&& (-(v0 &&& (-(v1 <<< ((1 : Int32) &&& 31)))))))) ||| ((v0 ||| v1) &&& (((v0 &&& (-(v1 <<< ((1 : Int32) &&& 31)))) &&& (-(v0 &&& (-(v1 <<< ((1 : Int32) &&& 31)))))) - (1 : Int32))))
  else
   some (v0 ||| v1)
set_option maxRecDepth 100000 in
set_option maxHeartbeats 4000000 in
theorem b_X4_withEnd {E : jE}  {res : Int32} (K : jC E cX4_withEnd 5 RX4 0) (HR : jRI E cX4_withEnd 5 ([] : va_W) res) : ∀ (v0 : Int32) (v1 : Int32), f_X4_withEnd v0 v1 = some res → J E 5 ([] : va_W) 0 [(0, .int v0), (1, .int v1)] [] := by
  intro v0 v1 h
  unfold f_X4_withEnd at h
  refine j_iload_n (pc' := 1) K dX4_withEnd_0 rfl 0 rfl rfl ?_
  refine j_iload_n (pc' := 2) K dX4_withEnd_1 rfl 1 rfl rfl ?_
  refine j_ior (pc' := 3) K dX4_withEnd_2 rfl ?_
  refine j_istore_n (pc' := 4) (lv' := [(2, .int (v0 ||| v1)), (0, .int v0), (1, .int v1)]) K dX4_withEnd_3 rfl (by decide) rfl rfl ?_
  refine j_iload_n (pc' := 5) K dX4_withEnd_4 rfl 1 rfl rfl ?_
  refine j_iload_n (pc' := 6) K dX4_withEnd_5 rfl 2 rfl rfl ?_
  refine j_iconst (pc' := 7) (v := (1 : Int32)) K dX4_withEnd_6 (by decide) rfl ?_
  refine j_ishl (pc' := 8) K dX4_withEnd_7 rfl ?_
  refine j_ineg (pc' := 9) K dX4_withEnd_8 rfl ?_
  refine j_iand (pc' := 10) K dX4_withEnd_9 rfl ?_
  refine j_istore_n (pc' := 11) (lv' := [(3, .int (v0 &&& (-(v1 <<< ((1 : Int32) &&& 31))))), (2, .int (v0 ||| v1)), (0, .int v0), (1, .int v1)]) K dX4_withEnd_10 rfl (by decide) rfl rfl ?_
  refine j_iload_n (pc' := 12) K dX4_withEnd_11 rfl 0 rfl rfl ?_
  refine j_iload_n (pc' := 13) K dX4_withEnd_12 rfl 0 rfl rfl ?_
  refine j_ineg (pc' := 14) K dX4_withEnd_13 rfl ?_
  refine j_iand (pc' := 15) K dX4_withEnd_14 rfl ?_
  refine j_istore (pc' := 17) (lv' := [(4, .int ((v0 &&& (-(v1 <<< ((1 : Int32) &&& 31)))) &&& (-(v0 &&& (-(v1 <<< ((1 : Int32) &&& 31))))))), (3, .int (v0 &&& (-(v1 <<< ((1 : Int32) &&& 31))))), (2, .int (v0 ||| v1)), (0, .int v0), (1, .int v1)]) K dX4_withEnd_15 (by decide) rfl rfl ?_
  refine j_iload (pc' := 19) K dX4_withEnd_17 0 rfl rfl ?_
  refine j_iload_n (pc' := 20) K dX4_withEnd_19 rfl 3 rfl rfl ?_
  refine j_iconst (pc' := 21) (v := (1 : Int32)) K dX4_withEnd_20 (by decide) rfl ?_
  refine j_iushr (pc' := 22) K dX4_withEnd_21 rfl ?_
  refine j_icmp_le (pc' := 25) (tgt := 27) K dX4_withEnd_22 (by decide) rfl (fun hc => ?_) (fun hc => ?_)
  · have h := jit hc h
    refine j_iload_n (pc' := 28) K dX4_withEnd_27 rfl 2 rfl rfl ?_
    refine j_iconst (pc' := 29) (v := (1 : Int32)) K dX4_withEnd_28 (by decide) rfl ?_
    refine j_iushr (pc' := 30) K dX4_withEnd_29 rfl ?_
    refine j_iload (pc' := 32) K dX4_withEnd_30 0 rfl rfl ?_
    refine j_ineg (pc' := 33) K dX4_withEnd_32 rfl ?_
    refine j_iand (pc' := 34) K dX4_withEnd_33 rfl ?_
    refine j_iload_n (pc' := 35) K dX4_withEnd_34 rfl 2 rfl rfl ?_
    refine j_iload (pc' := 37) K dX4_withEnd_35 0 rfl rfl ?_
    refine j_iconst (pc' := 38) (v := (1 : Int32)) K dX4_withEnd_37 (by decide) rfl ?_
    refine j_isub (pc' := 39) K dX4_withEnd_38 rfl ?_
    refine j_iand (pc' := 40) K dX4_withEnd_39 rfl ?_
    refine j_ior (pc' := 41) K dX4_withEnd_40 rfl ?_
    obtain rfl := Option.some.inj h
    exact HR _ _ dX4_withEnd_41
  · have h := jif hc h
    refine j_iload_n (pc' := 26) K dX4_withEnd_25 rfl 2 rfl rfl ?_
    obtain rfl := Option.some.inj h
    exact HR _ _ dX4_withEnd_26
set_option maxRecDepth 100000 in
set_option maxHeartbeats 4000000 in
theorem M_X4_withEnd (l : Launch) (G : jG)  (v0 : Int32) (v1 : Int32) {r : Int32} (h : f_X4_withEnd v0 v1 = some r) : MC l yX4_withEnd cX4_withEnd 5 (some .int) 0 G jNo False ([] : va_W) ([] : va_W) [.int v0, .int v1] (some (.int r)) := by
  refine mc_int (by decide +kernel) (Nat.le_of_ble_eq_true rfl) fun E hl hg hA hrw K HR => ?_
  subst hl
  subst hg
  exact b_X4_withEnd K HR v0 v1 h
theorem ok_X4_start : yX4_start.cls ≠ "java/lang/invoke/MethodHandle" ∧ yX4_start.cls ≠ "java/lang/invoke/VarHandle" ∧ (parseMethodDescriptor yX4_start.desc).map (fun d => d.parameters.length) = some 1 := ⟨by decide, by decide, by decide +kernel⟩
def f_X4_start (v1 : Int32) : Option (Int32) :=
   some ((1 : Int32) <<< (v1 &&& 31))
set_option maxRecDepth 100000 in
set_option maxHeartbeats 4000000 in
theorem b_X4_start {E : jE}  (q0 : Nat) {res : Int32} (K : jC E cX4_start 2 RX4 0) (HR : jRI E cX4_start 2 ([] : va_W) res) : ∀ (v1 : Int32), f_X4_start v1 = some res → J E 2 ([] : va_W) 0 [(0, .ref q0), (1, .int v1)] [] := by
  intro v1 h
  unfold f_X4_start at h
  refine j_iconst (pc' := 1) (v := (1 : Int32)) K dX4_start_0 (by decide) rfl ?_
  refine j_iload_n (pc' := 2) K dX4_start_1 rfl 1 rfl rfl ?_
  refine j_ishl (pc' := 3) K dX4_start_2 rfl ?_
  obtain rfl := Option.some.inj h
  exact HR _ _ dX4_start_3
set_option maxRecDepth 100000 in
set_option maxHeartbeats 4000000 in
theorem M_X4_start (l : Launch) (G : jG)  (q0 : Nat) (v1 : Int32) {r : Int32} (h : f_X4_start v1 = some r) : MC l yX4_start cX4_start 2 (some .int) 0 G jNo False ([] : va_W) ([] : va_W) [.ref q0, .int v1] (some (.int r)) := by
  refine mc_int (by decide +kernel) (Nat.le_of_ble_eq_true rfl) fun E hl hg hA hrw K HR => ?_
  subst hl
  subst hg
  exact b_X4_start q0 K HR v1 h
theorem ok_X4_next : yX4_next.cls ≠ "java/lang/invoke/MethodHandle" ∧ yX4_next.cls ≠ "java/lang/invoke/VarHandle" ∧ (parseMethodDescriptor yX4_next.desc).map (fun d => d.parameters.length) = some 3 := ⟨by decide, by decide, by decide +kernel⟩
def f_X4_next_40 (k6 : Int32 → Int32 → Int32 → Int32 → Option (Int32)) (v1 : Int32) (v3 : Int32) (v4 : Int32) (v5 : Int32) : Option (Int32) :=
   k6 v1 v3 v4 (v5 + (1 : Int32))
def f_X4_next_28 (v1 : Int32) (v5 : Int32) : Option (Int32) :=
   jbd (f_X4_withEnd v1 ((1 : Int32) <<< (v5 &&& 31))) (fun r33 =>
   some r33)
def f_X4_next_6 : Nat → Int32 → Int32 → Int32 → Int32 → Option (Int32)
  | 0, _, _, _, _ => none
  | n + 1, v1, v3, v4, v5 =>
   if (8 : Int32) ≤ v5 then
   some v1
  else
   if ((jushr v1 v5) &&& (1 : Int32)) = 0 then
    if v4 = v3 then
     f_X4_next_28 v1 v5
    else
     f_X4_next_40 (f_X4_next_6 n) v1 v3 (v4 + (1 : Int32)) v5
   else
    f_X4_next_40 (f_X4_next_6 n) v1 v3 v4 v5
def f_X4_next (v1 : Int32) (v2 : Int32) (v3 : Int32) : Option (Int32) :=
   f_X4_next_6 jFU v1 v3 (0 : Int32) (0 : Int32)
set_option maxRecDepth 100000 in
set_option maxHeartbeats 4000000 in
theorem b_X4_next_40 {E : jE}  (q0 : Nat) {res : Int32} (K : jC E cX4_next 6 RX4 1) (HR : jRI E cX4_next 6 ([] : va_W) res) (k6 : Int32 → Int32 → Int32 → Int32 → Option (Int32)) (hk6 : ∀ (v1 : Int32) (v3 : Int32) (v4 : Int32) (v5 : Int32), k6 v1 v3 v4 v5 = some res → J E 6 ([] : va_W) 6 [(1, .int v1), (3, .int v3), (4, .int v4), (5, .int v5)] []) : ∀ (v1 : Int32) (v3 : Int32) (v4 : Int32) (v5 : Int32), f_X4_next_40 k6 v1 v3 v4 v5 = some res → J E 6 ([] : va_W) 40 [(1, .int v1), (3, .int v3), (4, .int v4), (5, .int v5)] [] := by
  intro v1 v3 v4 v5 h
  unfold f_X4_next_40 at h
  refine j_iinc (pc' := 43) (j := 3) (v := (v5 + (1 : Int32))) (lv' := [(5, .int (v5 + (1 : Int32))), (1, .int v1), (3, .int v3), (4, .int v4)]) K dX4_next_40 rfl rfl (by decide) rfl rfl ?_
  refine j_goto (tgt := 6) K dX4_next_43 (by decide) ?_
  refine j_sub [1, 2, 3, 0] rfl ?_
  exact hk6 v1 v3 v4 (v5 + (1 : Int32)) h
set_option maxRecDepth 100000 in
set_option maxHeartbeats 4000000 in
theorem b_X4_next_28 {E : jE}  (q0 : Nat) {res : Int32} (K : jC E cX4_next 6 RX4 1) (HR : jRI E cX4_next 6 ([] : va_W) res) : ∀ (v1 : Int32) (v5 : Int32), f_X4_next_28 v1 v5 = some res → J E 6 ([] : va_W) 28 [(1, .int v1), (5, .int v5)] [] := by
  intro v1 v5 h
  unfold f_X4_next_28 at h
  refine j_iload_n (pc' := 29) K dX4_next_28 rfl 0 rfl rfl ?_
  refine j_iconst (pc' := 30) (v := (1 : Int32)) K dX4_next_29 (by decide) rfl ?_
  refine j_iload (pc' := 32) K dX4_next_30 1 rfl rfl ?_
  refine j_ishl (pc' := 33) K dX4_next_32 rfl ?_
  obtain ⟨r33, hr33, h⟩ := jbd_some h
  refine j_ro (pc' := 36) K (fun H hP => jrun_S K dX4_next_33 (M_X4_withEnd (jl E) (jg E) v1 ((1 : Int32) <<< (v5 &&& 31)) hr33) u_3_46 u_3_44 u_3_45 u_1_10 ⟨ok_X4_withEnd, by decide, by decide⟩ rfl (Nat.le_of_ble_eq_true rfl) H) [] rfl rfl ?_
  obtain rfl := Option.some.inj h
  exact HR _ _ dX4_next_36
set_option maxRecDepth 100000 in
set_option maxHeartbeats 4000000 in
theorem b_X4_next_6 {E : jE}  (q0 : Nat) {res : Int32} (K : jC E cX4_next 6 RX4 1) (HR : jRI E cX4_next 6 ([] : va_W) res) : ∀ (n : Nat) (v1 : Int32) (v3 : Int32) (v4 : Int32) (v5 : Int32), f_X4_next_6 n v1 v3 v4 v5 = some res → J E 6 ([] : va_W) 6 [(1, .int v1), (3, .int v3), (4, .int v4), (5, .int v5)] [] := by
  intro n
  induction n with
  | zero => intro _ _ _ _ h; cases h
  | succ n ih =>
    intro v1 v3 v4 v5 h
    rw [f_X4_next_6] at h
    refine j_iload (pc' := 8) K dX4_next_6 3 rfl rfl ?_
    refine j_bipush (pc' := 10) (v := (8 : Int32)) K dX4_next_8 (by decide) rfl ?_
    refine j_icmp_ge (pc' := 13) (tgt := 46) K dX4_next_10 (by decide) rfl (fun hc => ?_) (fun hc => ?_)
    · have h := jit hc h
      refine j_iload_n (pc' := 47) K dX4_next_46 rfl 0 rfl rfl ?_
      obtain rfl := Option.some.inj h
      exact HR _ _ dX4_next_47
    · have h := jif hc h
      refine j_iload_n (pc' := 14) K dX4_next_13 rfl 0 rfl rfl ?_
      refine j_iload (pc' := 16) K dX4_next_14 3 rfl rfl ?_
      refine j_iushr (pc' := 17) K dX4_next_16 rfl ?_
      refine j_iconst (pc' := 18) (v := (1 : Int32)) K dX4_next_17 (by decide) rfl ?_
      refine j_iand (pc' := 19) K dX4_next_18 rfl ?_
      refine j_if_ne (pc' := 22) (tgt := 40) K dX4_next_19 (by decide) rfl (fun hc => ?_) (fun hc => ?_)
      · have h := jif hc h
        refine j_sub [0, 1, 2, 3] rfl ?_
        exact b_X4_next_40 q0 K HR (f_X4_next_6 n) (ih) v1 v3 v4 v5 h
      · have h := jit hc h
        refine j_iload (pc' := 24) K dX4_next_22 2 rfl rfl ?_
        refine j_iload_n (pc' := 25) K dX4_next_24 rfl 1 rfl rfl ?_
        refine j_icmp_ne (pc' := 28) (tgt := 37) K dX4_next_25 (by decide) rfl (fun hc => ?_) (fun hc => ?_)
        · have h := jif hc h
          refine j_iinc (pc' := 40) (j := 2) (v := (v4 + (1 : Int32))) (lv' := [(4, .int (v4 + (1 : Int32))), (1, .int v1), (3, .int v3), (5, .int v5)]) K dX4_next_37 rfl rfl (by decide) rfl rfl ?_
          refine j_sub [1, 2, 0, 3] rfl ?_
          exact b_X4_next_40 q0 K HR (f_X4_next_6 n) (ih) v1 v3 (v4 + (1 : Int32)) v5 h
        · have h := jit hc h
          refine j_sub [0, 3] rfl ?_
          exact b_X4_next_28 q0 K HR v1 v5 h
set_option maxRecDepth 100000 in
set_option maxHeartbeats 4000000 in
theorem b_X4_next {E : jE}  (q0 : Nat) {res : Int32} (K : jC E cX4_next 6 RX4 1) (HR : jRI E cX4_next 6 ([] : va_W) res) : ∀ (v1 : Int32) (v2 : Int32) (v3 : Int32), f_X4_next v1 v2 v3 = some res → J E 6 ([] : va_W) 0 [(0, .ref q0), (1, .int v1), (2, .int v2), (3, .int v3)] [] := by
  intro v1 v2 v3 h
  unfold f_X4_next at h
  refine j_iconst (pc' := 1) (v := (0 : Int32)) K dX4_next_0 (by decide) rfl ?_
  refine j_istore (pc' := 3) (lv' := [(4, .int (0 : Int32)), (0, .ref q0), (1, .int v1), (2, .int v2), (3, .int v3)]) K dX4_next_1 (by decide) rfl rfl ?_
  refine j_iconst (pc' := 4) (v := (0 : Int32)) K dX4_next_3 (by decide) rfl ?_
  refine j_istore (pc' := 6) (lv' := [(5, .int (0 : Int32)), (4, .int (0 : Int32)), (0, .ref q0), (1, .int v1), (2, .int v2), (3, .int v3)]) K dX4_next_4 (by decide) rfl rfl ?_
  refine j_sub [3, 5, 1, 0] rfl ?_
  exact b_X4_next_6 q0 K HR jFU v1 v3 (0 : Int32) (0 : Int32) h
set_option maxRecDepth 100000 in
set_option maxHeartbeats 4000000 in
theorem M_X4_next (l : Launch) (G : jG)  (q0 : Nat) (v1 : Int32) (v2 : Int32) (v3 : Int32) {r : Int32} (h : f_X4_next v1 v2 v3 = some r) : MC l yX4_next cX4_next 6 (some .int) 1 G jNo False ([] : va_W) ([] : va_W) [.ref q0, .int v1, .int v2, .int v3] (some (.int r)) := by
  refine mc_int (by decide +kernel) (Nat.le_of_ble_eq_true rfl) fun E hl hg hA hrw K HR => ?_
  subst hl
  subst hg
  exact b_X4_next q0 K HR v1 v2 v3 h
theorem ok_X4_growth : yX4_growth.cls ≠ "java/lang/invoke/MethodHandle" ∧ yX4_growth.cls ≠ "java/lang/invoke/VarHandle" ∧ (parseMethodDescriptor yX4_growth.desc).map (fun d => d.parameters.length) = some 5 := ⟨by decide, by decide, by decide +kernel⟩
def f_X4_growth (v1 : Int32) (v2 : Int32) (v3 : Int32) (v5 : Int32) (s0 : LongestRiseS) : Option (Int32) :=
   jbd (f_X4_next v1 v2 v3) (fun r4 =>
   jbd (f_J6_bitCount_0f7a4 r4) (fun r7 =>
    jbd (f_J6_bitCount_0f7a4 v1) (fun r11 =>
     some (r7 - r11))))
set_option maxRecDepth 100000 in
set_option maxHeartbeats 4000000 in
theorem b_X4_growth {E : jE} (p0_0 p0_1 : Nat) (q1 : Nat) (s0 : LongestRiseS) {res : Int32} (K : jC E cX4_growth 6 RX4 2) (HR : jRI E cX4_growth 6 (wLongestRise (jg E) p0_0 p0_1 s0) res) : ∀ (v1 : Int32) (v2 : Int32) (v3 : Int32) (v5 : Int32), f_X4_growth v1 v2 v3 v5 s0 = some res → J E 6 (wLongestRise (jg E) p0_0 p0_1 s0) 0 [(0, .ref p0_0), (1, .int v1), (2, .int v2), (3, .int v3), (4, .ref q1), (5, .int v5)] [] := by
  intro v1 v2 v3 v5 h
  unfold f_X4_growth at h
  refine j_aload_n (pc' := 1) K dX4_growth_0 rfl 0 rfl rfl ?_
  refine j_iload_n (pc' := 2) K dX4_growth_1 rfl 1 rfl rfl ?_
  refine j_iload_n (pc' := 3) K dX4_growth_2 rfl 2 rfl rfl ?_
  refine j_iload_n (pc' := 4) K dX4_growth_3 rfl 3 rfl rfl ?_
  obtain ⟨r4, hr4, h⟩ := jbd_some h
  refine j_ro (pc' := 7) K (fun H hP => jrun_V K dX4_growth_4 (M_X4_next (jl E) (jg E) p0_0 v1 v2 v3 hr4) u_3_74 u_3_71 u_3_72 u_3_73 u_1_10 ⟨ok_X4_next, by decide, by decide⟩ rfl (Nat.le_of_ble_eq_true rfl) 0 rfl rfl H hP) [] rfl rfl ?_
  obtain ⟨r7, hr7, h⟩ := jbd_some h
  refine j_ro (pc' := 10) K (fun H hP => jrun_S K dX4_growth_7 (M_J6_bitCount_0f7a4 (jl E) (jg E) r4 hr7) u_3_31 u_3_29 u_3_30 u_1_16 ⟨ok_J6_bitCount_0f7a4, by decide, by decide⟩ rfl (Nat.le_of_ble_eq_true rfl) H) [] rfl rfl ?_
  refine j_iload_n (pc' := 11) K dX4_growth_10 rfl 1 rfl rfl ?_
  obtain ⟨r11, hr11, h⟩ := jbd_some h
  refine j_ro (pc' := 14) K (fun H hP => jrun_S K dX4_growth_11 (M_J6_bitCount_0f7a4 (jl E) (jg E) v1 hr11) u_3_31 u_3_29 u_3_30 u_1_16 ⟨ok_J6_bitCount_0f7a4, by decide, by decide⟩ rfl (Nat.le_of_ble_eq_true rfl) H) [] rfl rfl ?_
  refine j_isub (pc' := 15) K dX4_growth_14 rfl ?_
  obtain rfl := Option.some.inj h
  exact HR _ _ dX4_growth_15
set_option maxRecDepth 100000 in
set_option maxHeartbeats 4000000 in
theorem M_X4_growth (l : Launch) (G : jG) (p0_0 p0_1 : Nat) (q1 : Nat) (v1 : Int32) (v2 : Int32) (v3 : Int32) (v5 : Int32) (s0 : LongestRiseS) {r : Int32} (h : f_X4_growth v1 v2 v3 v5 s0 = some r) : MC l yX4_growth cX4_growth 6 (some .int) 2 G jNo False (wLongestRise G p0_0 p0_1 s0) (wLongestRise G p0_0 p0_1 s0) [.ref p0_0, .int v1, .int v2, .int v3, .ref q1, .int v5] (some (.int r)) := by
  refine mc_int (by decide +kernel) (Nat.le_of_ble_eq_true rfl) fun E hl hg hA hrw K HR => ?_
  subst hl
  subst hg
  exact b_X4_growth p0_0 p0_1 q1 s0 K HR v1 v2 v3 v5 h
theorem ok_X4_waysByNext : yX4_waysByNext.cls ≠ "java/lang/invoke/MethodHandle" ∧ yX4_waysByNext.cls ≠ "java/lang/invoke/VarHandle" ∧ (parseMethodDescriptor yX4_waysByNext.desc).map (fun d => d.parameters.length) = some 2 := ⟨by decide, by decide, by decide +kernel⟩
def f_X4_waysByNext_56 (k5 : Int32 → Int32 → Int32 → Int32 → LongestRiseS → Option (Int32)) (v1 : Int32) (v2 : Int32) (v3 : Int32) (v4 : Int32) (s0 : LongestRiseS) : Option (Int32) :=
   k5 v1 v2 v3 (v4 + (1 : Int32)) s0
def f_X4_waysByNext_54 (k5 : Int32 → Int32 → Int32 → Int32 → LongestRiseS → Option (Int32)) (v1 : Int32) (v2 : Int32) (v4 : Int32) (t0 : Int32) (t1 : Int32) (s0 : LongestRiseS) : Option (Int32) :=
   f_X4_waysByNext_56 k5 v1 v2 (t0 + t1) v4 s0
def f_X4_waysByNext_5 : Nat → Int32 → Int32 → Int32 → Int32 → LongestRiseS → Option (Int32)
  | 0, _, _, _, _, _ => none
  | n + 1, v1, v2, v3, v4, s0 =>
   if v2 ≤ v4 then
   some v3
  else
   if ((jushr v1 v4) &&& (1 : Int32)) = 0 then
    jbd (f_X4_withEnd v1 ((1 : Int32) <<< (v4 &&& 31))) (fun r25 =>
     jbd (f_X11_within r25 (0 : Int32) (511 : Int32)) (fun r37 =>
      if r37 = 0 then
       f_X4_waysByNext_54 (f_X4_waysByNext_5 n) v1 v2 v4 v3 (0 : Int32) s0
      else
       jgd r25 512 (
        f_X4_waysByNext_54 (f_X4_waysByNext_5 n) v1 v2 v4 v3 ((LongestRise_table s0) (Int32.toNatClampNeg r25)) s0)))
   else
    f_X4_waysByNext_56 (f_X4_waysByNext_5 n) v1 v2 v3 v4 s0
def f_X4_waysByNext (v1 : Int32) (v2 : Int32) (s0 : LongestRiseS) : Option (Int32) :=
   f_X4_waysByNext_5 jFU v1 v2 (0 : Int32) (0 : Int32) s0
set_option maxRecDepth 100000 in
set_option maxHeartbeats 4000000 in
theorem b_X4_waysByNext_56 {E : jE} (p0_0 p0_1 : Nat) (s0 : LongestRiseS) {res : Int32} (K : jC E cX4_waysByNext 6 RX4 1) (HR : jRI E cX4_waysByNext 6 (wLongestRise (jg E) p0_0 p0_1 s0) res) (k5 : Int32 → Int32 → Int32 → Int32 → LongestRiseS → Option (Int32)) (hk5 : ∀ (v1 : Int32) (v2 : Int32) (v3 : Int32) (v4 : Int32), k5 v1 v2 v3 v4 s0 = some res → J E 6 (wLongestRise (jg E) p0_0 p0_1 s0) 5 [(0, .ref p0_0), (1, .int v1), (2, .int v2), (3, .int v3), (4, .int v4)] []) : ∀ (v1 : Int32) (v2 : Int32) (v3 : Int32) (v4 : Int32), f_X4_waysByNext_56 k5 v1 v2 v3 v4 s0 = some res → J E 6 (wLongestRise (jg E) p0_0 p0_1 s0) 56 [(0, .ref p0_0), (1, .int v1), (2, .int v2), (3, .int v3), (4, .int v4)] [] := by
  intro v1 v2 v3 v4 h
  unfold f_X4_waysByNext_56 at h
  refine j_iinc (pc' := 59) (j := 4) (v := (v4 + (1 : Int32))) (lv' := [(4, .int (v4 + (1 : Int32))), (0, .ref p0_0), (1, .int v1), (2, .int v2), (3, .int v3)]) K dX4_waysByNext_56 rfl rfl (by decide) rfl rfl ?_
  refine j_goto (tgt := 5) K dX4_waysByNext_59 (by decide) ?_
  refine j_sub [1, 2, 3, 4, 0] rfl ?_
  exact hk5 v1 v2 v3 (v4 + (1 : Int32)) h
set_option maxRecDepth 100000 in
set_option maxHeartbeats 4000000 in
theorem b_X4_waysByNext_54 {E : jE} (p0_0 p0_1 : Nat) (s0 : LongestRiseS) {res : Int32} (K : jC E cX4_waysByNext 6 RX4 1) (HR : jRI E cX4_waysByNext 6 (wLongestRise (jg E) p0_0 p0_1 s0) res) (k5 : Int32 → Int32 → Int32 → Int32 → LongestRiseS → Option (Int32)) (hk5 : ∀ (v1 : Int32) (v2 : Int32) (v3 : Int32) (v4 : Int32), k5 v1 v2 v3 v4 s0 = some res → J E 6 (wLongestRise (jg E) p0_0 p0_1 s0) 5 [(0, .ref p0_0), (1, .int v1), (2, .int v2), (3, .int v3), (4, .int v4)] []) : ∀ (v1 : Int32) (v2 : Int32) (v4 : Int32) (t0 : Int32) (t1 : Int32), f_X4_waysByNext_54 k5 v1 v2 v4 t0 t1 s0 = some res → J E 6 (wLongestRise (jg E) p0_0 p0_1 s0) 54 [(0, .ref p0_0), (1, .int v1), (2, .int v2), (4, .int v4)] [.int t1, .int t0] := by
  intro v1 v2 v4 t0 t1 h
  unfold f_X4_waysByNext_54 at h
  refine j_iadd (pc' := 55) K dX4_waysByNext_54 rfl ?_
  refine j_istore_n (pc' := 56) (lv' := [(3, .int (t0 + t1)), (0, .ref p0_0), (1, .int v1), (2, .int v2), (4, .int v4)]) K dX4_waysByNext_55 rfl (by decide) rfl rfl ?_
  refine j_sub [1, 2, 3, 0, 4] rfl ?_
  exact b_X4_waysByNext_56 p0_0 p0_1 s0 K HR k5 hk5 v1 v2 (t0 + t1) v4 h
set_option maxRecDepth 100000 in
set_option maxHeartbeats 4000000 in
theorem b_X4_waysByNext_5 {E : jE} (p0_0 p0_1 : Nat) (s0 : LongestRiseS) {res : Int32} (K : jC E cX4_waysByNext 6 RX4 1) (HR : jRI E cX4_waysByNext 6 (wLongestRise (jg E) p0_0 p0_1 s0) res) : ∀ (n : Nat) (v1 : Int32) (v2 : Int32) (v3 : Int32) (v4 : Int32), f_X4_waysByNext_5 n v1 v2 v3 v4 s0 = some res → J E 6 (wLongestRise (jg E) p0_0 p0_1 s0) 5 [(0, .ref p0_0), (1, .int v1), (2, .int v2), (3, .int v3), (4, .int v4)] [] := by
  intro n
  induction n with
  | zero => intro _ _ _ _ h; cases h
  | succ n ih =>
    intro v1 v2 v3 v4 h
    rw [f_X4_waysByNext_5] at h
    refine j_iload (pc' := 7) K dX4_waysByNext_5 4 rfl rfl ?_
    refine j_iload_n (pc' := 8) K dX4_waysByNext_7 rfl 2 rfl rfl ?_
    refine j_icmp_ge (pc' := 11) (tgt := 62) K dX4_waysByNext_8 (by decide) rfl (fun hc => ?_) (fun hc => ?_)
    · have h := jit hc h
      refine j_iload_n (pc' := 63) K dX4_waysByNext_62 rfl 3 rfl rfl ?_
      obtain rfl := Option.some.inj h
      exact HR _ _ dX4_waysByNext_63
    · have h := jif hc h
      refine j_iload_n (pc' := 12) K dX4_waysByNext_11 rfl 1 rfl rfl ?_
      refine j_iload (pc' := 14) K dX4_waysByNext_12 4 rfl rfl ?_
      refine j_iushr (pc' := 15) K dX4_waysByNext_14 rfl ?_
      refine j_iconst (pc' := 16) (v := (1 : Int32)) K dX4_waysByNext_15 (by decide) rfl ?_
      refine j_iand (pc' := 17) K dX4_waysByNext_16 rfl ?_
      refine j_if_ne (pc' := 20) (tgt := 56) K dX4_waysByNext_17 (by decide) rfl (fun hc => ?_) (fun hc => ?_)
      · have h := jif hc h
        refine j_sub [0, 1, 2, 3, 4] rfl ?_
        exact b_X4_waysByNext_56 p0_0 p0_1 s0 K HR (f_X4_waysByNext_5 n) (ih) v1 v2 v3 v4 h
      · have h := jit hc h
        refine j_iload_n (pc' := 21) K dX4_waysByNext_20 rfl 1 rfl rfl ?_
        refine j_iconst (pc' := 22) (v := (1 : Int32)) K dX4_waysByNext_21 (by decide) rfl ?_
        refine j_iload (pc' := 24) K dX4_waysByNext_22 4 rfl rfl ?_
        refine j_ishl (pc' := 25) K dX4_waysByNext_24 rfl ?_
        obtain ⟨r25, hr25, h⟩ := jbd_some h
        refine j_ro (pc' := 28) K (fun H hP => jrun_S K dX4_waysByNext_25 (M_X4_withEnd (jl E) (jg E) v1 ((1 : Int32) <<< (v4 &&& 31)) hr25) u_3_46 u_3_44 u_3_45 u_1_10 ⟨ok_X4_withEnd, by decide, by decide⟩ rfl (Nat.le_of_ble_eq_true rfl) H) [] rfl rfl ?_
        refine j_istore (pc' := 30) (lv' := [(5, .int r25), (0, .ref p0_0), (1, .int v1), (2, .int v2), (3, .int v3), (4, .int v4)]) K dX4_waysByNext_28 (by decide) rfl rfl ?_
        refine j_iload_n (pc' := 31) K dX4_waysByNext_30 rfl 4 rfl rfl ?_
        refine j_iload (pc' := 33) K dX4_waysByNext_31 0 rfl rfl ?_
        refine j_iconst (pc' := 34) (v := (0 : Int32)) K dX4_waysByNext_33 (by decide) rfl ?_
        refine j_sipush (pc' := 37) (v := (511 : Int32)) K dX4_waysByNext_34 (by decide) rfl ?_
        obtain ⟨r37, hr37, h⟩ := jbd_some h
        refine j_ro (pc' := 40) K (fun H hP => jrun_SN K dX4_waysByNext_37 (host := "CountTriangles") (M_X11_within (jl E) (jg E) r25 (0 : Int32) (511 : Int32) hr37) u_1_76 (by decide) u_1_75 u_1_1 ⟨ok_X11_within, by decide, by decide⟩ rfl (Nat.le_of_ble_eq_true rfl) H) [] rfl rfl ?_
        refine j_if_eq (pc' := 43) (tgt := 53) K dX4_waysByNext_40 (by decide) rfl (fun hc => ?_) (fun hc => ?_)
        · have h := jit hc h
          refine j_iconst (pc' := 54) (v := (0 : Int32)) K dX4_waysByNext_53 (by decide) rfl ?_
          refine j_sub [1, 2, 3, 5] rfl ?_
          exact b_X4_waysByNext_54 p0_0 p0_1 s0 K HR (f_X4_waysByNext_5 n) (ih) v1 v2 v4 v3 (0 : Int32) h
        · have h := jif hc h
          refine j_aload_n (pc' := 44) K dX4_waysByNext_43 rfl 1 rfl rfl ?_
          refine j_get (pc' := 47) K dX4_waysByNext_44 inX4 0 rfl rfl 0 (by decide) u_1_135 rfl rfl rfl ?_
          refine j_iload (pc' := 49) K dX4_waysByNext_47 0 rfl rfl ?_
          obtain ⟨hg, h⟩ := jgd_some h
          refine j_iald (pc' := 50) K dX4_waysByNext_49 1 rfl hg rfl ?_
          refine j_goto (tgt := 54) K dX4_waysByNext_50 (by decide) ?_
          refine j_sub [1, 2, 3, 5] rfl ?_
          exact b_X4_waysByNext_54 p0_0 p0_1 s0 K HR (f_X4_waysByNext_5 n) (ih) v1 v2 v4 v3 ((LongestRise_table s0) (Int32.toNatClampNeg r25)) h
set_option maxRecDepth 100000 in
set_option maxHeartbeats 4000000 in
theorem b_X4_waysByNext {E : jE} (p0_0 p0_1 : Nat) (s0 : LongestRiseS) {res : Int32} (K : jC E cX4_waysByNext 6 RX4 1) (HR : jRI E cX4_waysByNext 6 (wLongestRise (jg E) p0_0 p0_1 s0) res) : ∀ (v1 : Int32) (v2 : Int32), f_X4_waysByNext v1 v2 s0 = some res → J E 6 (wLongestRise (jg E) p0_0 p0_1 s0) 0 [(0, .ref p0_0), (1, .int v1), (2, .int v2)] [] := by
  intro v1 v2 h
  unfold f_X4_waysByNext at h
  refine j_iconst (pc' := 1) (v := (0 : Int32)) K dX4_waysByNext_0 (by decide) rfl ?_
  refine j_istore_n (pc' := 2) (lv' := [(3, .int (0 : Int32)), (0, .ref p0_0), (1, .int v1), (2, .int v2)]) K dX4_waysByNext_1 rfl (by decide) rfl rfl ?_
  refine j_iconst (pc' := 3) (v := (0 : Int32)) K dX4_waysByNext_2 (by decide) rfl ?_
  refine j_istore (pc' := 5) (lv' := [(4, .int (0 : Int32)), (3, .int (0 : Int32)), (0, .ref p0_0), (1, .int v1), (2, .int v2)]) K dX4_waysByNext_3 (by decide) rfl rfl ?_
  refine j_sub [2, 3, 4, 1, 0] rfl ?_
  exact b_X4_waysByNext_5 p0_0 p0_1 s0 K HR jFU v1 v2 (0 : Int32) (0 : Int32) h
set_option maxRecDepth 100000 in
set_option maxHeartbeats 4000000 in
theorem M_X4_waysByNext (l : Launch) (G : jG) (p0_0 p0_1 : Nat) (v1 : Int32) (v2 : Int32) (s0 : LongestRiseS) {r : Int32} (h : f_X4_waysByNext v1 v2 s0 = some r) : MC l yX4_waysByNext cX4_waysByNext 6 (some .int) 1 G jNo False (wLongestRise G p0_0 p0_1 s0) (wLongestRise G p0_0 p0_1 s0) [.ref p0_0, .int v1, .int v2] (some (.int r)) := by
  refine mc_int (by decide +kernel) (Nat.le_of_ble_eq_true rfl) fun E hl hg hA hrw K HR => ?_
  subst hl
  subst hg
  exact b_X4_waysByNext p0_0 p0_1 s0 K HR v1 v2 h
theorem ok_X4_fillTable : yX4_fillTable.cls ≠ "java/lang/invoke/MethodHandle" ∧ yX4_fillTable.cls ≠ "java/lang/invoke/VarHandle" ∧ (parseMethodDescriptor yX4_fillTable.desc).map (fun d => d.parameters.length) = some 0 := ⟨by decide, by decide, by decide +kernel⟩
def f_X4_fillTable_62 (k2 : Int32 → LongestRiseS → Option (LongestRiseS)) (v1 : Int32) (s0 : LongestRiseS) : Option (LongestRiseS) :=
   k2 (v1 + (1 : Int32)) s0
def f_X4_fillTable_37 (k2 : Int32 → LongestRiseS → Option (LongestRiseS)) : Nat → Int32 → Int32 → LongestRiseS → Option (LongestRiseS)
  | 0, _, _, _ => none
  | n + 1, v1, v3, s0 =>
   if v3 < ((1 : Int32) <<< (v1 &&& 31)) then
   f_X4_fillTable_62 k2 v1 s0
  else
   jbd (f_X4_waysByNext v3 v1 s0) (fun r52 =>
    jgd v3 512 (
     (f_X4_fillTable_37 k2 n) v1 (v3 + (-1 : Int32)) (LongestRise_table_s s0 (upd (LongestRise_table s0) (Int32.toNatClampNeg v3) r52))))
def f_X4_fillTable_32 (k2 : Int32 → LongestRiseS → Option (LongestRiseS)) (v1 : Int32) (v2 : Int32) (t1 : Int32) (t2 : Int32) (s0 : LongestRiseS) : Option (LongestRiseS) :=
   jgd t1 512 (
   f_X4_fillTable_37 k2 jFU v1 (v2 - (1 : Int32)) (LongestRise_table_s s0 (upd (LongestRise_table s0) (Int32.toNatClampNeg t1) t2)))
def f_X4_fillTable_2 : Nat → Int32 → LongestRiseS → Option (LongestRiseS)
  | 0, _, _ => none
  | n + 1, v1, s0 =>
   if (8 : Int32) < v1 then
   some s0
  else
   if v1 = (LongestRise_wanted s0) then
    f_X4_fillTable_32 (f_X4_fillTable_2 n) v1 (((2 : Int32) <<< (v1 &&& 31)) - (1 : Int32)) (((2 : Int32) <<< (v1 &&& 31)) - (1 : Int32)) (1 : Int32) s0
   else
    f_X4_fillTable_32 (f_X4_fillTable_2 n) v1 (((2 : Int32) <<< (v1 &&& 31)) - (1 : Int32)) (((2 : Int32) <<< (v1 &&& 31)) - (1 : Int32)) (0 : Int32) s0
def f_X4_fillTable (s0 : LongestRiseS) : Option (LongestRiseS) :=
   f_X4_fillTable_2 jFU (0 : Int32) s0
set_option maxRecDepth 100000 in
set_option maxHeartbeats 4000000 in
theorem b_X4_fillTable_62 {E : jE} (p0_0 p0_1 : Nat) {res : LongestRiseS} (K : jC E cX4_fillTable 4 RX4 2) (hrw : jrw E) (HR : jRV E cX4_fillTable 4 (wLongestRise (jg E) p0_0 p0_1 res)) (k2 : Int32 → LongestRiseS → Option (LongestRiseS)) (hk2 : ∀ (v1 : Int32) (s0 : LongestRiseS), k2 v1 s0 = some res → J E 4 (wLongestRise (jg E) p0_0 p0_1 s0) 2 [(0, .ref p0_0), (1, .int v1)] []) : ∀ (v1 : Int32) (s0 : LongestRiseS), f_X4_fillTable_62 k2 v1 s0 = some res → J E 4 (wLongestRise (jg E) p0_0 p0_1 s0) 62 [(0, .ref p0_0), (1, .int v1)] [] := by
  intro v1 s0 h
  unfold f_X4_fillTable_62 at h
  refine j_iinc (pc' := 65) (j := 1) (v := (v1 + (1 : Int32))) (lv' := [(1, .int (v1 + (1 : Int32))), (0, .ref p0_0)]) K dX4_fillTable_62 rfl rfl (by decide) rfl rfl ?_
  refine j_goto (tgt := 2) K dX4_fillTable_65 (by decide) ?_
  refine j_sub [1, 0] rfl ?_
  exact hk2 (v1 + (1 : Int32)) s0 h
set_option maxRecDepth 100000 in
set_option maxHeartbeats 4000000 in
theorem b_X4_fillTable_37 {E : jE} (p0_0 p0_1 : Nat) {res : LongestRiseS} (K : jC E cX4_fillTable 4 RX4 2) (hrw : jrw E) (HR : jRV E cX4_fillTable 4 (wLongestRise (jg E) p0_0 p0_1 res)) (k2 : Int32 → LongestRiseS → Option (LongestRiseS)) (hk2 : ∀ (v1 : Int32) (s0 : LongestRiseS), k2 v1 s0 = some res → J E 4 (wLongestRise (jg E) p0_0 p0_1 s0) 2 [(0, .ref p0_0), (1, .int v1)] []) : ∀ (n : Nat) (v1 : Int32) (v3 : Int32) (s0 : LongestRiseS), f_X4_fillTable_37 k2 n v1 v3 s0 = some res → J E 4 (wLongestRise (jg E) p0_0 p0_1 s0) 37 [(0, .ref p0_0), (1, .int v1), (3, .int v3)] [] := by
  intro n
  induction n with
  | zero => intro _ _ _ h; cases h
  | succ n ih =>
    intro v1 v3 s0 h
    rw [f_X4_fillTable_37] at h
    refine j_iload_n (pc' := 38) K dX4_fillTable_37 rfl 2 rfl rfl ?_
    refine j_iconst (pc' := 39) (v := (1 : Int32)) K dX4_fillTable_38 (by decide) rfl ?_
    refine j_iload_n (pc' := 40) K dX4_fillTable_39 rfl 1 rfl rfl ?_
    refine j_ishl (pc' := 41) K dX4_fillTable_40 rfl ?_
    refine j_icmp_lt (pc' := 44) (tgt := 62) K dX4_fillTable_41 (by decide) rfl (fun hc => ?_) (fun hc => ?_)
    · have h := jit hc h
      refine j_sub [0, 1] rfl ?_
      exact b_X4_fillTable_62 p0_0 p0_1 K hrw HR k2 hk2 v1 s0 h
    · have h := jif hc h
      refine j_aload_n (pc' := 45) K dX4_fillTable_44 rfl 0 rfl rfl ?_
      refine j_get (pc' := 48) K dX4_fillTable_45 inX4 0 rfl rfl 0 (by decide) u_1_135 rfl rfl rfl ?_
      refine j_iload_n (pc' := 49) K dX4_fillTable_48 rfl 2 rfl rfl ?_
      refine j_aload_n (pc' := 50) K dX4_fillTable_49 rfl 0 rfl rfl ?_
      refine j_iload_n (pc' := 51) K dX4_fillTable_50 rfl 2 rfl rfl ?_
      refine j_iload_n (pc' := 52) K dX4_fillTable_51 rfl 1 rfl rfl ?_
      obtain ⟨r52, hr52, h⟩ := jbd_some h
      refine j_ro (pc' := 55) K (fun H hP => jrun_V K dX4_fillTable_52 (M_X4_waysByNext (jl E) (jg E) p0_0 p0_1 v3 v1 s0 hr52) u_3_43 u_3_40 u_3_42 u_p_10 u_1_10 ⟨ok_X4_waysByNext, by decide, by decide⟩ rfl (Nat.le_of_ble_eq_true rfl) 0 rfl rfl H hP) [0, 1] rfl rfl ?_
      obtain ⟨hg, h⟩ := jgd_some h
      refine j_iast (pc' := 56) (ws' := (wLongestRise (jg E) p0_0 p0_1 (LongestRise_table_s s0 (upd (LongestRise_table s0) (Int32.toNatClampNeg v3) r52)))) K dX4_fillTable_55 hrw 1 rfl hg (st_LongestRise_1 ..) rfl ?_
      refine j_iinc (pc' := 59) (j := 2) (v := (v3 + (-1 : Int32))) (lv' := [(3, .int (v3 + (-1 : Int32))), (0, .ref p0_0), (1, .int v1)]) K dX4_fillTable_56 rfl rfl (by decide) rfl rfl ?_
      refine j_goto (tgt := 37) K dX4_fillTable_59 (by decide) ?_
      refine j_sub [1, 2, 0] rfl ?_
      exact ih v1 (v3 + (-1 : Int32)) (LongestRise_table_s s0 (upd (LongestRise_table s0) (Int32.toNatClampNeg v3) r52)) h
set_option maxRecDepth 100000 in
set_option maxHeartbeats 4000000 in
theorem b_X4_fillTable_32 {E : jE} (p0_0 p0_1 : Nat) {res : LongestRiseS} (K : jC E cX4_fillTable 4 RX4 2) (hrw : jrw E) (HR : jRV E cX4_fillTable 4 (wLongestRise (jg E) p0_0 p0_1 res)) (k2 : Int32 → LongestRiseS → Option (LongestRiseS)) (hk2 : ∀ (v1 : Int32) (s0 : LongestRiseS), k2 v1 s0 = some res → J E 4 (wLongestRise (jg E) p0_0 p0_1 s0) 2 [(0, .ref p0_0), (1, .int v1)] []) : ∀ (v1 : Int32) (v2 : Int32) (t1 : Int32) (t2 : Int32) (s0 : LongestRiseS), f_X4_fillTable_32 k2 v1 v2 t1 t2 s0 = some res → J E 4 (wLongestRise (jg E) p0_0 p0_1 s0) 32 [(0, .ref p0_0), (1, .int v1), (2, .int v2)] [.int t2, .int t1, .ref p0_1] := by
  intro v1 v2 t1 t2 s0 h
  unfold f_X4_fillTable_32 at h
  obtain ⟨hg, h⟩ := jgd_some h
  refine j_iast (pc' := 33) (ws' := (wLongestRise (jg E) p0_0 p0_1 (LongestRise_table_s s0 (upd (LongestRise_table s0) (Int32.toNatClampNeg t1) t2)))) K dX4_fillTable_32 hrw 1 rfl hg (st_LongestRise_1 ..) rfl ?_
  refine j_iload_n (pc' := 34) K dX4_fillTable_33 rfl 2 rfl rfl ?_
  refine j_iconst (pc' := 35) (v := (1 : Int32)) K dX4_fillTable_34 (by decide) rfl ?_
  refine j_isub (pc' := 36) K dX4_fillTable_35 rfl ?_
  refine j_istore_n (pc' := 37) (lv' := [(3, .int (v2 - (1 : Int32))), (0, .ref p0_0), (1, .int v1), (2, .int v2)]) K dX4_fillTable_36 rfl (by decide) rfl rfl ?_
  refine j_sub [1, 2, 0] rfl ?_
  exact b_X4_fillTable_37 p0_0 p0_1 K hrw HR k2 hk2 jFU v1 (v2 - (1 : Int32)) (LongestRise_table_s s0 (upd (LongestRise_table s0) (Int32.toNatClampNeg t1) t2)) h
set_option maxRecDepth 100000 in
set_option maxHeartbeats 4000000 in
theorem b_X4_fillTable_2 {E : jE} (p0_0 p0_1 : Nat) {res : LongestRiseS} (K : jC E cX4_fillTable 4 RX4 2) (hrw : jrw E) (HR : jRV E cX4_fillTable 4 (wLongestRise (jg E) p0_0 p0_1 res)) : ∀ (n : Nat) (v1 : Int32) (s0 : LongestRiseS), f_X4_fillTable_2 n v1 s0 = some res → J E 4 (wLongestRise (jg E) p0_0 p0_1 s0) 2 [(0, .ref p0_0), (1, .int v1)] [] := by
  intro n
  induction n with
  | zero => intro _ _ h; cases h
  | succ n ih =>
    intro v1 s0 h
    rw [f_X4_fillTable_2] at h
    refine j_iload_n (pc' := 3) K dX4_fillTable_2 rfl 1 rfl rfl ?_
    refine j_bipush (pc' := 5) (v := (8 : Int32)) K dX4_fillTable_3 (by decide) rfl ?_
    refine j_icmp_gt (pc' := 8) (tgt := 68) K dX4_fillTable_5 (by decide) rfl (fun hc => ?_) (fun hc => ?_)
    · have h := jit hc h
      obtain rfl := Option.some.inj h
      exact HR _ _ dX4_fillTable_68
    · have h := jif hc h
      refine j_iconst (pc' := 9) (v := (2 : Int32)) K dX4_fillTable_8 (by decide) rfl ?_
      refine j_iload_n (pc' := 10) K dX4_fillTable_9 rfl 1 rfl rfl ?_
      refine j_ishl (pc' := 11) K dX4_fillTable_10 rfl ?_
      refine j_iconst (pc' := 12) (v := (1 : Int32)) K dX4_fillTable_11 (by decide) rfl ?_
      refine j_isub (pc' := 13) K dX4_fillTable_12 rfl ?_
      refine j_istore_n (pc' := 14) (lv' := [(2, .int (((2 : Int32) <<< (v1 &&& 31)) - (1 : Int32))), (0, .ref p0_0), (1, .int v1)]) K dX4_fillTable_13 rfl (by decide) rfl rfl ?_
      refine j_aload_n (pc' := 15) K dX4_fillTable_14 rfl 1 rfl rfl ?_
      refine j_get (pc' := 18) K dX4_fillTable_15 inX4 0 rfl rfl 0 (by decide) u_1_135 rfl rfl rfl ?_
      refine j_iload_n (pc' := 19) K dX4_fillTable_18 rfl 0 rfl rfl ?_
      refine j_iload_n (pc' := 20) K dX4_fillTable_19 rfl 2 rfl rfl ?_
      refine j_aload_n (pc' := 21) K dX4_fillTable_20 rfl 1 rfl rfl ?_
      refine j_get (pc' := 24) K dX4_fillTable_21 inX4 0 rfl rfl 1 (by decide) u_1_136 rfl rfl rfl ?_
      refine j_icmp_ne (pc' := 27) (tgt := 31) K dX4_fillTable_24 (by decide) rfl (fun hc => ?_) (fun hc => ?_)
      · have h := jif hc h
        refine j_iconst (pc' := 32) (v := (0 : Int32)) K dX4_fillTable_31 (by decide) rfl ?_
        refine j_sub [1, 2, 0] rfl ?_
        exact b_X4_fillTable_32 p0_0 p0_1 K hrw HR (f_X4_fillTable_2 n) (ih) v1 (((2 : Int32) <<< (v1 &&& 31)) - (1 : Int32)) (((2 : Int32) <<< (v1 &&& 31)) - (1 : Int32)) (0 : Int32) s0 h
      · have h := jit hc h
        refine j_iconst (pc' := 28) (v := (1 : Int32)) K dX4_fillTable_27 (by decide) rfl ?_
        refine j_goto (tgt := 32) K dX4_fillTable_28 (by decide) ?_
        refine j_sub [1, 2, 0] rfl ?_
        exact b_X4_fillTable_32 p0_0 p0_1 K hrw HR (f_X4_fillTable_2 n) (ih) v1 (((2 : Int32) <<< (v1 &&& 31)) - (1 : Int32)) (((2 : Int32) <<< (v1 &&& 31)) - (1 : Int32)) (1 : Int32) s0 h
set_option maxRecDepth 100000 in
set_option maxHeartbeats 4000000 in
theorem b_X4_fillTable {E : jE} (p0_0 p0_1 : Nat) {res : LongestRiseS} (K : jC E cX4_fillTable 4 RX4 2) (hrw : jrw E) (HR : jRV E cX4_fillTable 4 (wLongestRise (jg E) p0_0 p0_1 res)) : ∀ (s0 : LongestRiseS), f_X4_fillTable s0 = some res → J E 4 (wLongestRise (jg E) p0_0 p0_1 s0) 0 [(0, .ref p0_0)] [] := by
  intro s0 h
  unfold f_X4_fillTable at h
  refine j_iconst (pc' := 1) (v := (0 : Int32)) K dX4_fillTable_0 (by decide) rfl ?_
  refine j_istore_n (pc' := 2) (lv' := [(1, .int (0 : Int32)), (0, .ref p0_0)]) K dX4_fillTable_1 rfl (by decide) rfl rfl ?_
  refine j_sub [1, 0] rfl ?_
  exact b_X4_fillTable_2 p0_0 p0_1 K hrw HR jFU (0 : Int32) s0 h
set_option maxRecDepth 100000 in
set_option maxHeartbeats 4000000 in
theorem M_X4_fillTable (l : Launch) (G : jG) (p0_0 p0_1 : Nat) (s0 : LongestRiseS) {r : LongestRiseS} (h : f_X4_fillTable s0 = some r) : MC l yX4_fillTable cX4_fillTable 4 none 2 G (jad (wLongestRise G p0_0 p0_1 s0)) True (wLongestRise G p0_0 p0_1 s0) (wLongestRise G p0_0 p0_1 r) [.ref p0_0] none := by
  refine mc_void (by decide +kernel) (Nat.le_of_ble_eq_true rfl) fun E hl hg hA hrw K HR => ?_
  subst hl
  subst hg
  have hrw : jrw E := by rw [hrw]; trivial
  exact b_X4_fillTable p0_0 p0_1 K hrw HR s0 h
theorem ok_X4_ways : yX4_ways.cls ≠ "java/lang/invoke/MethodHandle" ∧ yX4_ways.cls ≠ "java/lang/invoke/VarHandle" ∧ (parseMethodDescriptor yX4_ways.desc).map (fun d => d.parameters.length) = some 3 := ⟨by decide, by decide, by decide +kernel⟩
def f_X4_ways_57 (v1 : Int32) (s0 : LongestRiseS) : Option (Int32 × LongestRiseS) :=
   jgd v1 512 (
   some (((LongestRise_table s0) (Int32.toNatClampNeg v1)), s0))
def f_X4_ways (v1 : Int32) (v2 : Int32) (v3 : Int32) (s0 : LongestRiseS) : Option (Int32 × LongestRiseS) :=
   jbd (f_J6_bitCount_0f7a4 v1) (fun r1 =>
   jbd (f_X11_within v1 (1 : Int32) (511 : Int32)) (fun r15 =>
    if r15 = 0 then
     some ((0 : Int32), s0)
    else
     jbd (f_X11_within ((r1 - (1 : Int32)) + v3) (1 : Int32) (8 : Int32)) (fun r26 =>
      if r26 = 0 then
       some ((0 : Int32), s0)
      else
       if 0 ≤ v3 then
        if ((r1 - (1 : Int32)) + v3) = (LongestRise_wanted s0) then
         f_X4_ways_57 v1 s0
        else
         jbd (f_X4_fillTable (LongestRise_wanted_s s0 ((r1 - (1 : Int32)) + v3))) (fun r54 =>
          f_X4_ways_57 v1 r54)
       else
        some ((0 : Int32), s0))))
set_option maxRecDepth 100000 in
set_option maxHeartbeats 4000000 in
theorem b_X4_ways_57 {E : jE} (p0_0 p0_1 : Nat) {res : Int32 × LongestRiseS} (K : jC E cX4_ways 5 RX4 3) (hrw : jrw E) (HR : jRI E cX4_ways 5 (wLongestRise (jg E) p0_0 p0_1 (res.2)) (res.1)) : ∀ (v1 : Int32) (s0 : LongestRiseS), f_X4_ways_57 v1 s0 = some res → J E 5 (wLongestRise (jg E) p0_0 p0_1 s0) 57 [(0, .ref p0_0), (1, .int v1)] [] := by
  intro v1 s0 h
  unfold f_X4_ways_57 at h
  refine j_aload_n (pc' := 58) K dX4_ways_57 rfl 0 rfl rfl ?_
  refine j_get (pc' := 61) K dX4_ways_58 inX4 0 rfl rfl 0 (by decide) u_1_135 rfl rfl rfl ?_
  refine j_iload_n (pc' := 62) K dX4_ways_61 rfl 1 rfl rfl ?_
  obtain ⟨hg, h⟩ := jgd_some h
  refine j_iald (pc' := 63) K dX4_ways_62 1 rfl hg rfl ?_
  obtain rfl := Option.some.inj h
  exact HR _ _ dX4_ways_63
set_option maxRecDepth 100000 in
set_option maxHeartbeats 4000000 in
theorem b_X4_ways {E : jE} (p0_0 p0_1 : Nat) {res : Int32 × LongestRiseS} (K : jC E cX4_ways 5 RX4 3) (hrw : jrw E) (HR : jRI E cX4_ways 5 (wLongestRise (jg E) p0_0 p0_1 (res.2)) (res.1)) : ∀ (v1 : Int32) (v2 : Int32) (v3 : Int32) (s0 : LongestRiseS), f_X4_ways v1 v2 v3 s0 = some res → J E 5 (wLongestRise (jg E) p0_0 p0_1 s0) 0 [(0, .ref p0_0), (1, .int v1), (2, .int v2), (3, .int v3)] [] := by
  intro v1 v2 v3 s0 h
  unfold f_X4_ways at h
  refine j_iload_n (pc' := 1) K dX4_ways_0 rfl 1 rfl rfl ?_
  obtain ⟨r1, hr1, h⟩ := jbd_some h
  refine j_ro (pc' := 4) K (fun H hP => jrun_S K dX4_ways_1 (M_J6_bitCount_0f7a4 (jl E) (jg E) v1 hr1) u_3_31 u_3_29 u_3_30 u_1_16 ⟨ok_J6_bitCount_0f7a4, by decide, by decide⟩ rfl (Nat.le_of_ble_eq_true rfl) H) [] rfl rfl ?_
  refine j_iconst (pc' := 5) (v := (1 : Int32)) K dX4_ways_4 (by decide) rfl ?_
  refine j_isub (pc' := 6) K dX4_ways_5 rfl ?_
  refine j_iload_n (pc' := 7) K dX4_ways_6 rfl 3 rfl rfl ?_
  refine j_iadd (pc' := 8) K dX4_ways_7 rfl ?_
  refine j_istore (pc' := 10) (lv' := [(4, .int ((r1 - (1 : Int32)) + v3)), (0, .ref p0_0), (1, .int v1), (2, .int v2), (3, .int v3)]) K dX4_ways_8 (by decide) rfl rfl ?_
  refine j_iload_n (pc' := 11) K dX4_ways_10 rfl 2 rfl rfl ?_
  refine j_iconst (pc' := 12) (v := (1 : Int32)) K dX4_ways_11 (by decide) rfl ?_
  refine j_sipush (pc' := 15) (v := (511 : Int32)) K dX4_ways_12 (by decide) rfl ?_
  obtain ⟨r15, hr15, h⟩ := jbd_some h
  refine j_ro (pc' := 18) K (fun H hP => jrun_SN K dX4_ways_15 (host := "CountTriangles") (M_X11_within (jl E) (jg E) v1 (1 : Int32) (511 : Int32) hr15) u_1_76 (by decide) u_1_75 u_1_1 ⟨ok_X11_within, by decide, by decide⟩ rfl (Nat.le_of_ble_eq_true rfl) H) [] rfl rfl ?_
  refine j_if_eq (pc' := 21) (tgt := 36) K dX4_ways_18 (by decide) rfl (fun hc => ?_) (fun hc => ?_)
  · have h := jit hc h
    refine j_iconst (pc' := 37) (v := (0 : Int32)) K dX4_ways_36 (by decide) rfl ?_
    obtain rfl := Option.some.inj h
    exact HR _ _ dX4_ways_37
  · have h := jif hc h
    refine j_iload (pc' := 23) K dX4_ways_21 0 rfl rfl ?_
    refine j_iconst (pc' := 24) (v := (1 : Int32)) K dX4_ways_23 (by decide) rfl ?_
    refine j_bipush (pc' := 26) (v := (8 : Int32)) K dX4_ways_24 (by decide) rfl ?_
    obtain ⟨r26, hr26, h⟩ := jbd_some h
    refine j_ro (pc' := 29) K (fun H hP => jrun_SN K dX4_ways_26 (host := "CountTriangles") (M_X11_within (jl E) (jg E) ((r1 - (1 : Int32)) + v3) (1 : Int32) (8 : Int32) hr26) u_1_76 (by decide) u_1_75 u_1_1 ⟨ok_X11_within, by decide, by decide⟩ rfl (Nat.le_of_ble_eq_true rfl) H) [] rfl rfl ?_
    refine j_if_eq (pc' := 32) (tgt := 36) K dX4_ways_29 (by decide) rfl (fun hc => ?_) (fun hc => ?_)
    · have h := jit hc h
      refine j_iconst (pc' := 37) (v := (0 : Int32)) K dX4_ways_36 (by decide) rfl ?_
      obtain rfl := Option.some.inj h
      exact HR _ _ dX4_ways_37
    · have h := jif hc h
      refine j_iload_n (pc' := 33) K dX4_ways_32 rfl 4 rfl rfl ?_
      refine j_if_ge (pc' := 36) (tgt := 38) K dX4_ways_33 (by decide) rfl (fun hc => ?_) (fun hc => ?_)
      · have h := jit hc h
        refine j_iload (pc' := 40) K dX4_ways_38 0 rfl rfl ?_
        refine j_aload_n (pc' := 41) K dX4_ways_40 rfl 1 rfl rfl ?_
        refine j_get (pc' := 44) K dX4_ways_41 inX4 0 rfl rfl 1 (by decide) u_1_136 rfl rfl rfl ?_
        refine j_icmp_eq (pc' := 47) (tgt := 57) K dX4_ways_44 (by decide) rfl (fun hc => ?_) (fun hc => ?_)
        · have h := jit hc h
          refine j_sub [1, 2] rfl ?_
          exact b_X4_ways_57 p0_0 p0_1 K hrw HR v1 s0 h
        · have h := jif hc h
          refine j_aload_n (pc' := 48) K dX4_ways_47 rfl 1 rfl rfl ?_
          refine j_iload (pc' := 50) K dX4_ways_48 0 rfl rfl ?_
          refine j_put (pc' := 53) (ws' := (wLongestRise (jg E) p0_0 p0_1 (LongestRise_wanted_s s0 ((r1 - (1 : Int32)) + v3)))) K dX4_ways_50 hrw inX4 tyX4 tyX4_ok nmX4 0 rfl rfl 1 (by decide) u_1_136 rfl rfl rfl rfl (Nat.le_of_ble_eq_true rfl) (st_LongestRise_0_1 ..) rfl ?_
          refine j_aload_n (pc' := 54) K dX4_ways_53 rfl 1 rfl rfl ?_
          obtain ⟨r54, hr54, h⟩ := jbd_some h
          refine j_rw (pc' := 57) (ws' := (wLongestRise (jg E) p0_0 p0_1 r54)) K (fun H hP => jrun_V K dX4_ways_54 (M_X4_fillTable (jl E) (jg E) p0_0 p0_1 (LongestRise_wanted_s s0 ((r1 - (1 : Int32)) + v3)) hr54) u_3_39 u_3_36 u_3_38 u_p_9 u_1_10 ⟨ok_X4_fillTable, by decide, by decide⟩ rfl (Nat.le_of_ble_eq_true rfl) 0 rfl rfl H hP) hrw [0, 1] rfl rfl rfl rfl rfl rfl ?_
          refine j_sub [1, 2] rfl ?_
          exact b_X4_ways_57 p0_0 p0_1 K hrw HR v1 r54 h
      · have h := jif hc h
        refine j_iconst (pc' := 37) (v := (0 : Int32)) K dX4_ways_36 (by decide) rfl ?_
        obtain rfl := Option.some.inj h
        exact HR _ _ dX4_ways_37
set_option maxRecDepth 100000 in
set_option maxHeartbeats 4000000 in
theorem M_X4_ways (l : Launch) (G : jG) (p0_0 p0_1 : Nat) (v1 : Int32) (v2 : Int32) (v3 : Int32) (s0 : LongestRiseS) {r : Int32 × LongestRiseS} (h : f_X4_ways v1 v2 v3 s0 = some r) : MC l yX4_ways cX4_ways 5 (some .int) 3 G (jad (wLongestRise G p0_0 p0_1 s0)) True (wLongestRise G p0_0 p0_1 s0) (wLongestRise G p0_0 p0_1 (r.2)) [.ref p0_0, .int v1, .int v2, .int v3] (some (.int (r.1))) := by
  refine mc_int (by decide +kernel) (Nat.le_of_ble_eq_true rfl) fun E hl hg hA hrw K HR => ?_
  subst hl
  subst hg
  have hrw : jrw E := by rw [hrw]; trivial
  exact b_X4_ways p0_0 p0_1 K hrw HR v1 v2 v3 s0 h
