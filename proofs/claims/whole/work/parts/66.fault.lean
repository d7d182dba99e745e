theorem itS_gt {b : Nat → Option Nat} {j a e : Nat} {vs : List Int32} (h : itS b j = some (a, vs, e)) : j < e ∧ e ≤ j + 10 := by
  unfold itS at h
  split at h
  · split at h
    · cases h
    · rename_i v e' hn
      have := numB_gt hn
      cases h
      omega
  · split at h
    · split at h
      · cases h
      · rename_i v0 e0 h0
        have g0 := numB_gt h0
        split at h
        · cases h
        · rename_i v1 e1 h1
          have g1 := numB_gt h1
          split at h
          · cases h
          · rename_i v2 e2 h2
            have g2 := numB_gt h2
            cases h
            omega
    · cases h
def prs (b : Nat → Option Nat) (N : Nat) : Nat → Nat → (Nat → Int32) → Nat → Nat ⊕ ((Nat → Int32) × Nat)
  | 0, _, rd, c => .inr (rd, c)
  | f + 1, j, rd, c => if N ≤ j then .inr (rd, c) else match itS b j with
    | none => .inl j
    | some (a, vs, e) => prs b N f e (putL rd a vs) (c + 1)
def encF (o : Nat ⊕ ((Nat → Int32) × Nat)) : Int32 := match o with
  | .inl q => nI q
  | .inr _ => -4
theorem nI_m1 {e : Nat} (h : e < 2 ^ 31) : ¬ nI e = -1 := by
  intro h1
  have h2 := congrArg Int32.toInt h1
  rw [nI_toInt h] at h2
  have h3 : (-1 : Int32).toInt = -1 := by decide
  omega
theorem opt3 {α β γ : Type} (o : Option (α × β × γ)) : o = none ∨ ∃ a b c, o = some (a, b, c) := by
  cases o with
  | none => exact Or.inl rfl
  | some q => exact Or.inr ⟨q.1, q.2.1, q.2.2, rfl⟩
theorem ffX {t : TextS} {N : Nat} (hN : N ≤ 120) (ht : Text_length t = nI N) : ∀ (f j i n : Nat) (rd : Nat → Int32) (c : Nat), N < f + j → i ≤ j → j ≤ N + 10 → N < n + j → 0 < n → f_X10_firstFault_4 n (nI j) (nI i) t = some (encF (prs (bS t N) N f j rd c)) := by
  intro f
  induction f with
  | zero =>
    intro j i n rd c h1 h2 h3 h4 h5
    obtain ⟨n, rfl⟩ : ∃ q, n = q + 1 := ⟨n - 1, by omega⟩
    show _ = some (-4)
    rw [f_X10_firstFault_4, ht]
    by_cases hi : 120 ≤ i
    · rw [if_pos (by show nI 120 ≤ nI i; exact nI_le hi (by omega))]
    · rw [if_neg (ge_lit (m := 120) (M := 120) rfl (by omega) (by decide)), if_pos (nI_le (by omega) (by omega))]
  | succ f ih =>
    intro j i n rd c h1 h2 h3 h4 h5
    obtain ⟨n, rfl⟩ : ∃ q, n = q + 1 := ⟨n - 1, by omega⟩
    rw [f_X10_firstFault_4, ht]
    by_cases hj : N ≤ j
    · show _ = some (encF (if N ≤ j then _ else _))
      rw [if_pos hj]
      by_cases hi : 120 ≤ i
      · rw [if_pos (by show nI 120 ≤ nI i; exact nI_le hi (by omega))]; rfl
      · rw [if_neg (ge_lit (m := 120) (M := 120) rfl (by omega) (by decide)), if_pos (nI_le hj (by omega))]; rfl
    · show _ = some (encF (if N ≤ j then _ else _))
      rw [if_neg hj, if_neg (ge_lit (m := 120) (M := 120) rfl (by omega) (by decide)), if_neg (nI_ge (by omega) (by omega)), itemEnd_eq hN ht j (by omega), jbd_s]
      rcases opt3 (itS (bS t N) j) with h0 | ⟨a, vs, e, h0⟩
      · rw [h0]
        show (if (-1 : Int32) = -1 then _ else _) = _
        rw [if_pos rfl]
        rfl
      · have hg := itS_gt h0
        rw [h0]
        show (if nI e = -1 then _ else _) = _
        rw [if_neg (nI_m1 (by omega))]
        have e1 : nI i + (1 : Int32) = nI (i + 1) := nI_1 i
        rw [e1]
        exact ih e (i + 1) n (putL rd a vs) (c + 1) (by omega) (by omega) (by omega) (by omega) (by omega)
theorem ffX_eq {t : TextS} {N : Nat} (hN : N ≤ 120) (ht : Text_length t = nI N) (rd : Nat → Int32) (c : Nat) : f_X10_firstFault t = some (encF (prs (bS t N) N 121 0 rd c)) := ffX hN ht 121 0 0 1000000 rd c (by omega) (by omega) (by omega) (by omega) (by decide)
theorem rdM {t : TextS} {N : Nat} (hN : N ≤ 120) : ∀ (f j m c : Nat) (M : MS), N < f + j → j ≤ N + 10 → N < m + j → 0 < m → tText t N M → M_position M = nI j → M_readMany M = nI c →
    ∃ M', core M' = core M ∧ match prs (bS t N) N f j (M_read M) c with
      | .inl q => f_X12_isRead_41 m M = some (0, M') ∧ M_begin M' = nI q
      | .inr r => f_X12_isRead_41 m M = some (1, M') ∧ M_read M' = r.1 ∧ M_readMany M' = nI r.2 := by
  intro f
  induction f with
  | zero =>
    intro j m c M h1 h2 h3 h4 hT hp hc
    obtain ⟨m, rfl⟩ : ∃ q, m = q + 1 := ⟨m - 1, by omega⟩
    refine ⟨M, rfl, ?_, rfl, hc⟩
    rw [f_X12_isRead_41, hT.1, hp, if_pos (nI_le (by omega) (by omega)), jzb_1]
  | succ f ih =>
    intro j m c M h1 h2 h3 h4 hT hp hc
    obtain ⟨m, rfl⟩ : ∃ q, m = q + 1 := ⟨m - 1, by omega⟩
    unfold prs
    rw [f_X12_isRead_41, hT.1, hp]
    by_cases hj : N ≤ j
    · rw [if_pos hj, if_pos (nI_le hj (by omega)), jzb_1]
      exact ⟨M, rfl, rfl, rfl, hc⟩
    · rw [if_neg hj, if_neg (nI_ge (by omega) (by omega))]
      obtain ⟨M1, g1, g2, g3⟩ := isItem_eq (t := t) (M := M_begin_s M (nI j)) hN hT (j := j) (by omega) hp
      rw [g1, jbd_s]
      rcases opt3 (itS (bS t N) j) with h0 | ⟨a, vs, e, h0⟩
      · rw [h0]
        refine ⟨M1, g2.1, ?_, g2.2.1⟩
        show (if (0 : Int32) = 0 then _ else _) = _
        rw [if_pos rfl, jzb_0]
      · have hg := itS_gt h0
        obtain ⟨k1, k2⟩ := g3 a vs e h0
        rw [h0]
        dsimp only
        have hrm : M_readMany M1 + (1 : Int32) = nI (c + 1) := by
          rw [g2.2.2]
          show M_readMany M + 1 = _
          rw [hc]
          exact nI_1 c
        obtain ⟨M', q1, q2⟩ := ih e m (c + 1) (M_readMany_s M1 (M_readMany M1 + 1)) (by omega) (by omega) (by omega) (by omega) (hT.core g2.1) k1 hrm
        have hrd : M_read (M_readMany_s M1 (M_readMany M1 + 1)) = putL (M_read M) a vs := k2
        rw [hrd] at q2
        refine ⟨M', q1.trans g2.1, ?_⟩
        rw [if_neg (show ¬ (okI (some (a, vs, e)), M1).1 = 0 from one_ne)]
        exact q2
theorem rd12 : ∀ (d i n : Nat) (M : MS), i + d = 7 → d < n → ∃ r : Nat → Int32, f_X12_isRead_12 n (nI i) M = f_X12_isRead_41 jFU (M_read_s M r) ∧ (∀ k, k < i → r k = M_read M k) ∧ ∀ k, i ≤ k → k < 7 → r k = if k = 6 then 1 else 0 := by
  intro d
  induction d with
  | zero =>
    intro i n M h1 hn
    obtain ⟨n, rfl⟩ : ∃ q, n = q + 1 := ⟨n - 1, by omega⟩
    refine ⟨M_read M, ?_, fun _ _ => rfl, fun k h1 h2 => by omega⟩
    rw [f_X12_isRead_12, if_pos (by show nI 7 ≤ nI i; exact nI_le (by omega) (by omega))]
    rfl
  | succ d ih =>
    intro i n M h1 hn
    obtain ⟨n, rfl⟩ : ∃ q, n = q + 1 := ⟨n - 1, by omega⟩
    have e1 : nI i + (1 : Int32) = nI (i + 1) := nI_1 i
    have step : ∀ v : Int32, f_X12_isRead_34 (f_X12_isRead_12 n) (nI i) (nI i) v M = f_X12_isRead_12 n (nI (i + 1)) (M_read_s M (upd (M_read M) i v)) := fun v => by
      unfold f_X12_isRead_34
      rw [jgd_n _ (show i < 7 by omega) (by decide), nI_clamp (by omega), e1]
    have fin : ∀ v : Int32, v = (if i = 6 then 1 else 0) → ∃ r : Nat → Int32, f_X12_isRead_34 (f_X12_isRead_12 n) (nI i) (nI i) v M = f_X12_isRead_41 jFU (M_read_s M r) ∧ (∀ k, k < i → r k = M_read M k) ∧ ∀ k, i ≤ k → k < 7 → r k = if k = 6 then 1 else 0 := by
      intro v hv
      obtain ⟨r, g1, g2, g3⟩ := ih (i + 1) n (M_read_s M (upd (M_read M) i v)) (by omega) (by omega)
      refine ⟨r, (step v).trans g1, fun k hk => ?_, fun k hk1 hk2 => ?_⟩
      · rw [g2 k (by omega)]
        show upd (M_read M) i v k = _
        rw [pk_un (by omega)]
      · by_cases hki : k = i
        · subst hki
          rw [g2 k (by omega)]
          show upd (M_read M) k v k = _
          rw [pk_us, hv]
        · exact g3 k (by omega) hk2
    rw [f_X12_isRead_12, if_neg (ge_lit (m := 7) (M := 7) rfl (by omega) (by decide))]
    by_cases h6 : i = 6
    · rw [if_pos (show nI i = 6 by rw [h6]; rfl)]
      exact fin 1 (by rw [if_pos h6])
    · rw [if_neg (show ¬ nI i = 6 from fun h => h6 ((nI_eq (by omega) (by decide)).mp h))]
      exact fin 0 (by rw [if_neg h6])
/-- what the reference reads, whole -/
theorem isRead_eq {t : TextS} {N : Nat} (hN : N ≤ 120) {M : MS} (hT : tText t N M) : ∃ (rd : Nat → Int32) (M' : MS), (∀ k, k < 7 → rd k = if k = 6 then 1 else 0) ∧ core M' = core M ∧ match prs (bS t N) N 121 0 rd 0 with
      | .inl q => f_X12_isRead M = some (0, M') ∧ M_begin M' = nI q
      | .inr r => f_X12_isRead M = some (1, M') ∧ M_read M' = r.1 ∧ M_readMany M' = nI r.2 := by
  obtain ⟨r, g1, -, g3⟩ := rd12 7 0 1000000 (M_readMany_s (M_position_s M 0) 0) (by decide) (by decide)
  obtain ⟨M', k1, k2⟩ := rdM (t := t) hN 121 0 1000000 0 (M_read_s (M_readMany_s (M_position_s M 0) 0) r) (by omega) (by omega) (by omega) (by decide) hT rfl rfl
  refine ⟨r, M', fun k hk => g3 k (by omega) hk, k1, ?_⟩
  have g1' : f_X12_isRead M = f_X12_isRead_41 1000000 (M_read_s (M_readMany_s (M_position_s M 0) 0) r) := g1
  rw [g1']
  exact k2
theorem op_fault  : oRW (f_X11_fault ) (f_X12_fault ) := by
  intro X M hR
  obtain ⟨N, h1, h2, h3, h4⟩ := hR.1
  obtain ⟨rd, M', g1, g2, g3⟩ := isRead_eq (t := X_text X) (M := M) h1 ⟨h3, h4⟩
  have hx := ffX_eq h1 h2 rd 0
  unfold f_X11_fault f_X12_fault
  rw [hx, jbd_s]
  cases hp : prs (bS (X_text X) N) N 121 0 rd 0 with
  | inl q =>
    rw [hp] at g3
    obtain ⟨k1, k2⟩ := g3
    rw [k1, jbd_s]
    refine ⟨nI q, M', rfl, ?_, hR.core g2⟩
    show (if (0 : Int32) = 0 then _ else _) = _
    rw [if_pos rfl, k2]
  | inr r =>
    rw [hp] at g3
    obtain ⟨k1, k2, k3⟩ := g3
    rw [k1, jbd_s]
    refine ⟨-4, M', rfl, ?_, hR.core g2⟩
    show (if (1 : Int32) = 0 then _ else _) = _
    rw [if_neg one_ne]
