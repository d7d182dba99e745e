theorem lg0 (x : Int64) : lg_cmp x x = 0 := by
  unfold lg_cmp
  rw [if_neg (Int64.lt_irrefl), if_pos rfl]
theorem scr_in {L j k : Nat} {i : Int32} (hk : Int32.ofNat k = i) (h : j + k < L) (hL : L ≤ 2560) : vp_in (nI j + i) L := by
  rw [← hk]
  show vp_in (nI j + nI k) L
  rw [nI_add]
  exact vp_in_nI h (by omega)
set_option maxRecDepth 100000 in
set_option maxHeartbeats 4000000 in
theorem law_loop (xs : Nat → Int32) (L : Nat) (hL : L ≤ 2560) : ∀ (n j : Nat) (X : XS) (M : MS), j ≤ 2560 → 2600 < n + j → Rel X M → ∃ r : Int32 × XS × MS, f_L_law_18 n (nI j) X M xs L = some r ∧ r.1 = 1 := by
  intro n
  induction n with
  | zero => intro j X M h1 h2; omega
  | succ n ih =>
    intro j X M h1 h2 hR
    rw [f_L_law_18]
    by_cases hend : (Int32.ofNat L - (5 : Int32)) < nI j
    · rw [if_pos hend]
      exact ⟨(1, X, M), rfl, rfl⟩
    · rw [if_neg hend]
      have hj : j + 5 ≤ L := by
        have e1 : (Int32.ofNat L - (5 : Int32)).toInt = (L : Int) - 5 := by
          show (nI L - nI 5).toInt = _
          exact pk_sub_toInt (by omega) (by omega)
        have e2 := Int32.not_lt.mp hend
        rw [Int32.le_iff_toInt_le, nI_toInt (by omega), e1] at e2
        omega
      have g0 : vp_in (nI j) L := vp_in_nI (by omega) (by omega)
      have g1 : vp_in (nI j + (1 : Int32)) L := scr_in (k := 1) rfl (by omega) hL
      have g2 : vp_in (nI j + (2 : Int32)) L := scr_in (k := 2) rfl (by omega) hL
      have g3 : vp_in (nI j + (3 : Int32)) L := scr_in (k := 3) rfl (by omega) hL
      have g4 : vp_in (nI j + (4 : Int32)) L := scr_in (k := 4) rfl (by omega) hL
      have fin : ∀ (X' : XS) (M' : MS), Rel X' M' → ∃ r : Int32 × XS × MS, f_L_law_1204 (f_L_law_18 n) (nI j) X' M' xs L = some r ∧ r.1 = 1 := by
        intro X' M' hR'
        unfold f_L_law_1204
        have e : nI j + (5 : Int32) = nI (j + 5) := nI_add j 5
        rw [e]
        exact ih (j + 5) X' M' (by omega) (by omega) hR'
      rw [jgd_in g0]
      by_cases hc : (xs (Int32.toNatClampNeg (nI j)) &&& (31 : Int32)) = 0
      · rw [if_pos hc]
        rw [jgd_in g1]
        rw [jgd_in g2]
        rw [jgd_in g3]
        obtain ⟨v, X1, M1, e1, e2, hR1⟩ := op_write (xs (Int32.toNatClampNeg ((nI j) + (1 : Int32)))) (((Int32.toInt64 (xs (Int32.toNatClampNeg ((nI j) + (2 : Int32))))) <<< (Int32.toInt64 (32 : Int32) &&& 63)) ||| ((Int32.toInt64 (xs (Int32.toNatClampNeg ((nI j) + (3 : Int32))))) &&& (4294967295 : Int64))) X M hR
        rw [e1, jbd_s]
        rw [jgd_in g1]
        rw [jgd_in g2]
        rw [jgd_in g3]
        rw [e2, jbd_s]
        rw [if_pos rfl]
        exact fin X1 M1 hR1
      rw [if_neg hc]
      by_cases hc : (xs (Int32.toNatClampNeg (nI j)) &&& (31 : Int32)) = 1
      · rw [if_pos hc]
        obtain ⟨v, X1, M1, e1, e2, hR1⟩ := op_wipe  X M hR
        rw [e1, jbd_s]
        rw [e2, jbd_s]
        rw [if_pos rfl]
        exact fin X1 M1 hR1
      rw [if_neg hc]
      by_cases hc : (xs (Int32.toNatClampNeg (nI j)) &&& (31 : Int32)) = 2
      · rw [if_pos hc]
        obtain ⟨v, M1, e1, e2, hR1⟩ := op_fault  X M hR
        rw [e1, jbd_s]
        rw [e2, jbd_s]
        rw [if_pos rfl]
        exact fin X M1 hR1
      rw [if_neg hc]
      by_cases hc : (xs (Int32.toNatClampNeg (nI j)) &&& (31 : Int32)) = 3
      · rw [if_pos hc]
        rw [jgd_in g1]
        obtain ⟨v, X1, M1, e1, e2, hR1⟩ := op_lay (xs (Int32.toNatClampNeg ((nI j) + (1 : Int32)))) X M hR
        rw [e1, jbd_s]
        rw [jgd_in g1]
        rw [e2, jbd_s]
        rw [if_pos rfl]
        exact fin X1 M1 hR1
      rw [if_neg hc]
      by_cases hc : (xs (Int32.toNatClampNeg (nI j)) &&& (31 : Int32)) = 4
      · rw [if_pos hc]
        rw [jgd_in g1]
        rw [jgd_in g2]
        rw [jgd_in g3]
        obtain ⟨v, M1, e1, e2, hR1⟩ := op_number (xs (Int32.toNatClampNeg ((nI j) + (1 : Int32)))) (xs (Int32.toNatClampNeg ((nI j) + (2 : Int32)))) (xs (Int32.toNatClampNeg ((nI j) + (3 : Int32)))) X M hR
        rw [e1, jbd_s]
        rw [jgd_in g1]
        rw [jgd_in g2]
        rw [jgd_in g3]
        rw [e2, jbd_s]
        rw [if_pos (lg0 v)]
        exact fin X M1 hR1
      rw [if_neg hc]
      by_cases hc : (xs (Int32.toNatClampNeg (nI j)) &&& (31 : Int32)) = 5
      · rw [if_pos hc]
        rw [jgd_in g1]
        rw [jgd_in g2]
        rw [jgd_in g3]
        obtain ⟨v, M1, e1, e2, hR1⟩ := op_sum (xs (Int32.toNatClampNeg ((nI j) + (1 : Int32)))) (xs (Int32.toNatClampNeg ((nI j) + (2 : Int32)))) (xs (Int32.toNatClampNeg ((nI j) + (3 : Int32)))) X M hR
        rw [e1, jbd_s]
        rw [jgd_in g1]
        rw [jgd_in g2]
        rw [jgd_in g3]
        rw [e2, jbd_s]
        rw [if_pos (lg0 v)]
        exact fin X M1 hR1
      rw [if_neg hc]
      by_cases hc : (xs (Int32.toNatClampNeg (nI j)) &&& (31 : Int32)) = 6
      · rw [if_pos hc]
        rw [jgd_in g1]
        rw [jgd_in g2]
        rw [jgd_in g3]
        obtain ⟨v, M1, e1, e2, hR1⟩ := op_shape (xs (Int32.toNatClampNeg ((nI j) + (1 : Int32)))) (xs (Int32.toNatClampNeg ((nI j) + (2 : Int32)))) (xs (Int32.toNatClampNeg ((nI j) + (3 : Int32)))) X M hR
        rw [e1, jbd_s]
        rw [jgd_in g1]
        rw [jgd_in g2]
        rw [jgd_in g3]
        rw [e2, jbd_s]
        rw [if_pos rfl]
        exact fin X M1 hR1
      rw [if_neg hc]
      by_cases hc : (xs (Int32.toNatClampNeg (nI j)) &&& (31 : Int32)) = 7
      · rw [if_pos hc]
        rw [jgd_in g1]
        rw [jgd_in g2]
        rw [jgd_in g3]
        rw [jgd_in g4]
        obtain ⟨v, X1, M1, e1, e2, hR1⟩ := op_rest (xs (Int32.toNatClampNeg ((nI j) + (1 : Int32)))) (xs (Int32.toNatClampNeg ((nI j) + (2 : Int32)))) (xs (Int32.toNatClampNeg ((nI j) + (3 : Int32)))) (xs (Int32.toNatClampNeg ((nI j) + (4 : Int32)))) X M hR
        rw [e1, jbd_s]
        rw [jgd_in g1]
        rw [jgd_in g2]
        rw [jgd_in g3]
        rw [jgd_in g4]
        rw [e2, jbd_s]
        rw [if_pos rfl]
        exact fin X1 M1 hR1
      rw [if_neg hc]
      by_cases hc : (xs (Int32.toNatClampNeg (nI j)) &&& (31 : Int32)) = 8
      · rw [if_pos hc]
        rw [jgd_in g1]
        rw [jgd_in g2]
        rw [jgd_in g3]
        rw [jgd_in g4]
        obtain ⟨v, M1, e1, e2, hR1⟩ := op_times (xs (Int32.toNatClampNeg ((nI j) + (1 : Int32)))) (xs (Int32.toNatClampNeg ((nI j) + (2 : Int32)))) (xs (Int32.toNatClampNeg ((nI j) + (3 : Int32)))) (xs (Int32.toNatClampNeg ((nI j) + (4 : Int32)))) X M hR
        rw [e1, jbd_s]
        rw [jgd_in g1]
        rw [jgd_in g2]
        rw [jgd_in g3]
        rw [jgd_in g4]
        rw [e2, jbd_s]
        rw [if_pos (lg0 v)]
        exact fin X M1 hR1
      rw [if_neg hc]
      by_cases hc : (xs (Int32.toNatClampNeg (nI j)) &&& (31 : Int32)) = 9
      · rw [if_pos hc]
        rw [jgd_in g1]
        rw [jgd_in g2]
        rw [jgd_in g3]
        obtain ⟨v, M1, e1, e2, hR1⟩ := op_undoes (xs (Int32.toNatClampNeg ((nI j) + (1 : Int32)))) (xs (Int32.toNatClampNeg ((nI j) + (2 : Int32)))) (xs (Int32.toNatClampNeg ((nI j) + (3 : Int32)))) X M hR
        rw [e1, jbd_s]
        rw [jgd_in g1]
        rw [jgd_in g2]
        rw [jgd_in g3]
        rw [e2, jbd_s]
        rw [if_pos rfl]
        exact fin X M1 hR1
      rw [if_neg hc]
      by_cases hc : (xs (Int32.toNatClampNeg (nI j)) &&& (31 : Int32)) = 10
      · rw [if_pos hc]
        rw [jgd_in g1]
        rw [jgd_in g2]
        rw [jgd_in g3]
        obtain ⟨v, X1, M1, e1, e2, hR1⟩ := op_back (xs (Int32.toNatClampNeg ((nI j) + (1 : Int32)))) (xs (Int32.toNatClampNeg ((nI j) + (2 : Int32)))) (xs (Int32.toNatClampNeg ((nI j) + (3 : Int32)))) X M hR
        rw [e1, jbd_s]
        rw [jgd_in g1]
        rw [jgd_in g2]
        rw [jgd_in g3]
        rw [e2, jbd_s]
        rw [if_pos (lg0 v)]
        exact fin X1 M1 hR1
      rw [if_neg hc]
      by_cases hc : (xs (Int32.toNatClampNeg (nI j)) &&& (31 : Int32)) = 11
      · rw [if_pos hc]
        rw [jgd_in g1]
        rw [jgd_in g2]
        rw [jgd_in g3]
        obtain ⟨v, X1, M1, e1, e2, hR1⟩ := op_parting (xs (Int32.toNatClampNeg ((nI j) + (1 : Int32)))) (xs (Int32.toNatClampNeg ((nI j) + (2 : Int32)))) (xs (Int32.toNatClampNeg ((nI j) + (3 : Int32)))) X M hR
        rw [e1, jbd_s]
        rw [jgd_in g1]
        rw [jgd_in g2]
        rw [jgd_in g3]
        rw [e2, jbd_s]
        rw [if_pos rfl]
        exact fin X1 M1 hR1
      rw [if_neg hc]
      by_cases hc : (xs (Int32.toNatClampNeg (nI j)) &&& (31 : Int32)) = 12
      · rw [if_pos hc]
        rw [jgd_in g1]
        rw [jgd_in g2]
        obtain ⟨v, X1, M1, e1, e2, hR1⟩ := op_partRank (xs (Int32.toNatClampNeg ((nI j) + (1 : Int32)))) (xs (Int32.toNatClampNeg ((nI j) + (2 : Int32)))) X M hR
        rw [e1, jbd_s]
        rw [jgd_in g1]
        rw [jgd_in g2]
        rw [e2, jbd_s]
        rw [if_pos rfl]
        exact fin X1 M1 hR1
      rw [if_neg hc]
      by_cases hc : (xs (Int32.toNatClampNeg (nI j)) &&& (31 : Int32)) = 13
      · rw [if_pos hc]
        rw [jgd_in g1]
        rw [jgd_in g2]
        rw [jgd_in g3]
        rw [jgd_in g4]
        obtain ⟨v, X1, M1, e1, e2, hR1⟩ := op_orders (xs (Int32.toNatClampNeg ((nI j) + (1 : Int32)))) (xs (Int32.toNatClampNeg ((nI j) + (2 : Int32)))) (xs (Int32.toNatClampNeg ((nI j) + (3 : Int32)))) (xs (Int32.toNatClampNeg ((nI j) + (4 : Int32)))) X M hR
        rw [e1, jbd_s]
        rw [jgd_in g1]
        rw [jgd_in g2]
        rw [jgd_in g3]
        rw [jgd_in g4]
        rw [e2, jbd_s]
        rw [if_pos rfl]
        exact fin X1 M1 hR1
      rw [if_neg hc]
      by_cases hc : (xs (Int32.toNatClampNeg (nI j)) &&& (31 : Int32)) = 14
      · rw [if_pos hc]
        rw [jgd_in g1]
        rw [jgd_in g2]
        rw [jgd_in g3]
        obtain ⟨v, X1, M1, e1, e2, hR1⟩ := op_mark (xs (Int32.toNatClampNeg ((nI j) + (1 : Int32)))) (xs (Int32.toNatClampNeg ((nI j) + (2 : Int32)))) (xs (Int32.toNatClampNeg ((nI j) + (3 : Int32)))) X M hR
        rw [e1, jbd_s]
        rw [jgd_in g1]
        rw [jgd_in g2]
        rw [jgd_in g3]
        rw [e2, jbd_s]
        rw [if_pos rfl]
        exact fin X1 M1 hR1
      rw [if_neg hc]
      by_cases hc : (xs (Int32.toNatClampNeg (nI j)) &&& (31 : Int32)) = 15
      · rw [if_pos hc]
        rw [jgd_in g1]
        rw [jgd_in g2]
        obtain ⟨v, X1, M1, e1, e2, hR1⟩ := op_rank (xs (Int32.toNatClampNeg ((nI j) + (1 : Int32)))) (xs (Int32.toNatClampNeg ((nI j) + (2 : Int32)))) X M hR
        rw [e1, jbd_s]
        rw [jgd_in g1]
        rw [jgd_in g2]
        rw [e2, jbd_s]
        rw [if_pos rfl]
        exact fin X1 M1 hR1
      rw [if_neg hc]
      by_cases hc : (xs (Int32.toNatClampNeg (nI j)) &&& (31 : Int32)) = 16
      · rw [if_pos hc]
        rw [jgd_in g1]
        rw [jgd_in g2]
        obtain ⟨v, X1, M1, e1, e2, hR1⟩ := op_over (xs (Int32.toNatClampNeg ((nI j) + (1 : Int32)))) (xs (Int32.toNatClampNeg ((nI j) + (2 : Int32)))) X M hR
        rw [e1, jbd_s]
        rw [jgd_in g1]
        rw [jgd_in g2]
        rw [e2, jbd_s]
        rw [if_pos rfl]
        exact fin X1 M1 hR1
      rw [if_neg hc]
      by_cases hc : (xs (Int32.toNatClampNeg (nI j)) &&& (31 : Int32)) = 17
      · rw [if_pos hc]
        rw [jgd_in g1]
        rw [jgd_in g2]
        rw [jgd_in g3]
        obtain ⟨v, X1, M1, e1, e2, hR1⟩ := op_behind (xs (Int32.toNatClampNeg ((nI j) + (1 : Int32)))) (xs (Int32.toNatClampNeg ((nI j) + (2 : Int32)))) (xs (Int32.toNatClampNeg ((nI j) + (3 : Int32)))) X M hR
        rw [e1, jbd_s]
        rw [jgd_in g1]
        rw [jgd_in g2]
        rw [jgd_in g3]
        rw [e2, jbd_s]
        rw [if_pos rfl]
        exact fin X1 M1 hR1
      rw [if_neg hc]
      by_cases hc : (xs (Int32.toNatClampNeg (nI j)) &&& (31 : Int32)) = 18
      · rw [if_pos hc]
        rw [jgd_in g1]
        rw [jgd_in g2]
        obtain ⟨v, X1, M1, e1, e2, hR1⟩ := op_base (xs (Int32.toNatClampNeg ((nI j) + (1 : Int32)))) (xs (Int32.toNatClampNeg ((nI j) + (2 : Int32)))) X M hR
        rw [e1, jbd_s]
        rw [jgd_in g1]
        rw [jgd_in g2]
        rw [e2, jbd_s]
        rw [if_pos rfl]
        exact fin X1 M1 hR1
      rw [if_neg hc]
      by_cases hc : (xs (Int32.toNatClampNeg (nI j)) &&& (31 : Int32)) = 19
      · rw [if_pos hc]
        rw [jgd_in g1]
        rw [jgd_in g2]
        rw [jgd_in g3]
        rw [jgd_in g4]
        obtain ⟨v, X1, M1, e1, e2, hR1⟩ := op_set (xs (Int32.toNatClampNeg ((nI j) + (1 : Int32)))) (xs (Int32.toNatClampNeg ((nI j) + (2 : Int32)))) (((Int32.toInt64 (xs (Int32.toNatClampNeg ((nI j) + (3 : Int32))))) <<< (Int32.toInt64 (32 : Int32) &&& 63)) ||| ((Int32.toInt64 (xs (Int32.toNatClampNeg ((nI j) + (4 : Int32))))) &&& (4294967295 : Int64))) X M hR
        rw [e1, jbd_s]
        rw [jgd_in g1]
        rw [jgd_in g2]
        rw [jgd_in g3]
        rw [jgd_in g4]
        rw [e2, jbd_s]
        rw [if_pos (lg0 v)]
        exact fin X1 M1 hR1
      rw [if_neg hc]
      by_cases hc : (xs (Int32.toNatClampNeg (nI j)) &&& (31 : Int32)) = 20
      · rw [if_pos hc]
        rw [jgd_in g1]
        rw [jgd_in g2]
        obtain ⟨v, e1, e2⟩ := op_coefficient (xs (Int32.toNatClampNeg ((nI j) + (1 : Int32)))) (xs (Int32.toNatClampNeg ((nI j) + (2 : Int32)))) X M hR
        rw [e1, jbd_s]
        rw [jgd_in g1]
        rw [jgd_in g2]
        rw [e2, jbd_s]
        rw [if_pos (lg0 v)]
        exact fin X M hR
      rw [if_neg hc]
      by_cases hc : (xs (Int32.toNatClampNeg (nI j)) &&& (31 : Int32)) = 21
      · rw [if_pos hc]
        rw [jgd_in g1]
        rw [jgd_in g2]
        obtain ⟨v, e1, e2⟩ := op_told (xs (Int32.toNatClampNeg ((nI j) + (1 : Int32)))) (xs (Int32.toNatClampNeg ((nI j) + (2 : Int32)))) X M hR
        rw [e1, jbd_s]
        rw [jgd_in g1]
        rw [jgd_in g2]
        rw [e2, jbd_s]
        rw [if_pos rfl]
        exact fin X M hR
      rw [if_neg hc]
      by_cases hc : (xs (Int32.toNatClampNeg (nI j)) &&& (31 : Int32)) = 22
      · rw [if_pos hc]
        rw [jgd_in g1]
        rw [jgd_in g2]
        obtain ⟨v, X1, M1, e1, e2, hR1⟩ := op_turn (xs (Int32.toNatClampNeg ((nI j) + (1 : Int32)))) (xs (Int32.toNatClampNeg ((nI j) + (2 : Int32)))) X M hR
        rw [e1, jbd_s]
        rw [jgd_in g1]
        rw [jgd_in g2]
        rw [e2, jbd_s]
        rw [if_pos rfl]
        exact fin X1 M1 hR1
      rw [if_neg hc]
      by_cases hc : (xs (Int32.toNatClampNeg (nI j)) &&& (31 : Int32)) = 23
      · rw [if_pos hc]
        rw [jgd_in g1]
        rw [jgd_in g2]
        rw [jgd_in g3]
        obtain ⟨v, X1, M1, e1, e2, hR1⟩ := op_value (xs (Int32.toNatClampNeg ((nI j) + (1 : Int32)))) (xs (Int32.toNatClampNeg ((nI j) + (2 : Int32)))) (xs (Int32.toNatClampNeg ((nI j) + (3 : Int32)))) X M hR
        rw [e1, jbd_s]
        rw [jgd_in g1]
        rw [jgd_in g2]
        rw [jgd_in g3]
        rw [e2, jbd_s]
        rw [if_pos (lg0 v)]
        exact fin X1 M1 hR1
      rw [if_neg hc]
      by_cases hc : (xs (Int32.toNatClampNeg (nI j)) &&& (31 : Int32)) = 24
      · rw [if_pos hc]
        rw [jgd_in g1]
        obtain ⟨v, X1, M1, e1, e2, hR1⟩ := op_sumUp (xs (Int32.toNatClampNeg ((nI j) + (1 : Int32)))) X M hR
        rw [e1, jbd_s]
        rw [jgd_in g1]
        rw [e2, jbd_s]
        rw [if_pos rfl]
        exact fin X1 M1 hR1
      rw [if_neg hc]
      by_cases hc : (xs (Int32.toNatClampNeg (nI j)) &&& (31 : Int32)) = 25
      · rw [if_pos hc]
        rw [jgd_in g1]
        rw [jgd_in g2]
        obtain ⟨v, e1, e2⟩ := op_root (xs (Int32.toNatClampNeg ((nI j) + (1 : Int32)))) (xs (Int32.toNatClampNeg ((nI j) + (2 : Int32)))) X M hR
        rw [e1, jbd_s]
        rw [jgd_in g1]
        rw [jgd_in g2]
        rw [e2, jbd_s]
        rw [if_pos rfl]
        exact fin X M hR
      rw [if_neg hc]
      by_cases hc : (xs (Int32.toNatClampNeg (nI j)) &&& (31 : Int32)) = 26
      · rw [if_pos hc]
        rw [jgd_in g1]
        obtain ⟨v, e1, e2⟩ := op_count (xs (Int32.toNatClampNeg ((nI j) + (1 : Int32)))) X M hR
        rw [e1, jbd_s]
        rw [jgd_in g1]
        rw [e2, jbd_s]
        rw [if_pos rfl]
        exact fin X M hR
      rw [if_neg hc]
      exact fin X M hR
