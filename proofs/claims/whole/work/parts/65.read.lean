/-! the reference's reading -/
def sameC (M M' : MS) : Prop := core M' = core M ∧ M_begin M' = M_begin M ∧ M_readMany M' = M_readMany M
theorem sameC.trans {A B C : MS} (h1 : sameC A B) (h2 : sameC B C) : sameC A C := ⟨h2.1.trans h1.1, h2.2.1.trans h1.2.1, h2.2.2.trans h1.2.2⟩
/-- the reference's text is the class's -/
def tText (t : TextS) (N : Nat) (M : MS) : Prop := M_bytes M = nI N ∧ ∀ j, j < N → M_text M j = Text_bytes t j &&& 255
theorem tText.core {t : TextS} {N : Nat} {M M' : MS} (h : tText t N M) (hc : core M' = core M) : tText t N M' := by
  have e1 : M_bytes M' = M_bytes M := congrArg (fun z => z.1) hc
  have e2 : M_text M' = M_text M := congrArg (fun z => z.2.1) hc
  unfold tText
  rw [e1, e2]
  exact h
theorem dig (o : Option Nat) (ho : ∀ q, o = some q → q < 256) (lo : Nat) (hlo : lo ≤ 1) : ((lN lo) ≤ (mb o - (48 : Int32)).toInt64 ∧ (mb o - (48 : Int32)).toInt64 ≤ 9) ↔ ∃ d, o = some d ∧ 48 + lo ≤ d ∧ d ≤ 57 := by
  rw [i64_le, i64_ge, lN_toInt (by omega)]
  have e9 : (9 : Int64).toInt = 9 := by decide
  rw [e9]
  cases o with
  | none =>
    have : (mb none - (48 : Int32)).toInt = -52 := by decide
    rw [this]
    exact ⟨fun h => by omega, fun ⟨d, h, _⟩ => by cases h⟩
  | some q =>
    have hq := ho q rfl
    have : (mb (some q) - (48 : Int32)).toInt = (q : Int) - 48 := pk_sub_toInt (a := q) (b := 48) (by omega) (by omega)
    rw [this]
    exact ⟨fun h => ⟨q, rfl, by omega, by omega⟩, fun ⟨d, h, h1, h2⟩ => by cases h; omega⟩
theorem num82 {t : TextS} {N : Nat} (hN : N ≤ 120) {M : MS} (hT : tText t N M) {e at_ c : Nat} {C v : Int32} (he : e < 900) (hp : M_position M = nI e) (ha : at_ < 7) (hC : nI c = C) (hc : c < 256) :
    ∃ M', f_X12_isNumber_82 C (nI at_) v M = some (if bS t N (e + 1) = some c then 1 else 0, M') ∧ sameC M M' ∧ (bS t N (e + 1) = some c → M_position M' = nI (e + 2) ∧ M_read M' = upd (M_read M) at_ v) := by
  have hB : ∀ i q, bS t N i = some q → q < 256 := fun i q h => (bS_lt h).1
  unfold f_X12_isNumber_82
  rw [jgd_n _ ha (by decide), nI_clamp (by omega)]
  have e1 : M_position (M_read_s M (upd (M_read M) at_ v)) + (1 : Int32) = nI (e + 1) := by
    show M_position M + 1 = _
    rw [hp]
    exact nI_1 e
  rw [e1]
  rw [byteNow_eq (t := t) (M := M_position_s (M_read_s M (upd (M_read M) at_ v)) (nI (e + 1))) (j := e + 1) hN hT.1 hT.2 (by omega) rfl, jbd_s]
  by_cases h : bS t N (e + 1) = some c
  · rw [if_pos ((mb_eq hC hc (hB _)).mpr h), if_pos h, jzb_1]
    refine ⟨_, rfl, ⟨rfl, rfl, rfl⟩, fun _ => ⟨?_, rfl⟩⟩
    show nI (e + 1) + 1 = _
    exact nI_1 (e + 1)
  · rw [if_neg (fun z => h ((mb_eq hC hc (hB _)).mp z)), if_neg h, jzb_0]
    exact ⟨_, rfl, ⟨rfl, rfl, rfl⟩, fun z => absurd z h⟩
theorem num54 {t : TextS} {N : Nat} (hN : N ≤ 120) {M : MS} (hT : tText t N M) {e at_ c lo : Nat} {C m : Int32} (he : e < 900) (hp : M_position M = nI e) (ha : at_ < 7) (hC : nI c = C) (hc : c < 256) (hlo : lo ≤ 1) (hm : m = nI lo) :
    ∃ M', f_X12_isNumber_54 (nI at_) C m (mb (bS t N e) - 48) (mb (bS t N e) - 48).toInt64 (lN lo) M = some (match bS t N e with
      | none => 0
      | some d => if 48 + lo ≤ d ∧ d ≤ 57 then (if bS t N (e + 1) = some c then 1 else 0) else 0, M') ∧ sameC M M' ∧ ∀ d, bS t N e = some d → 48 + lo ≤ d → d ≤ 57 → bS t N (e + 1) = some c → M_position M' = nI (e + 2) ∧ M_read M' = upd (M_read M) at_ (if lo = 1 then -(nI d - 48) else nI d - 48) := by
  have hB : ∀ i q, bS t N i = some q → q < 256 := fun i q h => (bS_lt h).1
  unfold f_X12_isNumber_54
  rw [in_eq, jbd_s, b01_iff (dig (bS t N e) (hB e) lo hlo)]
  cases hq : bS t N e with
  | none =>
    rw [b01_f (fun ⟨d, h, _⟩ => by cases h), if_pos rfl, jzb_0]
    exact ⟨M, rfl, ⟨rfl, rfl, rfl⟩, fun d h => by cases h⟩
  | some d =>
    by_cases hd : 48 + lo ≤ d ∧ d ≤ 57
    · rw [b01_t ⟨d, rfl, hd⟩, if_neg one_ne]
      show ∃ M', _ = some (if 48 + lo ≤ d ∧ d ≤ 57 then (if bS t N (e + 1) = some c then 1 else 0) else 0, M') ∧ _
      rw [if_pos hd]
      subst hm
      rcases (show lo = 0 ∨ lo = 1 by omega) with rfl | rfl
      · rw [if_pos (by decide)]
        obtain ⟨M', g1, g2, g3⟩ := num82 (v := mb (some d) - 48) hN hT he hp ha hC hc
        refine ⟨M', g1, g2, fun d' h1 _ _ h4 => ?_⟩
        cases h1
        exact g3 h4
      · rw [if_neg (by decide)]
        obtain ⟨M', g1, g2, g3⟩ := num82 (v := -(mb (some d) - 48)) hN hT he hp ha hC hc
        refine ⟨M', g1, g2, fun d' h1 _ _ h4 => ?_⟩
        cases h1
        exact g3 h4
    · rw [b01_f (fun ⟨d', h, hd'⟩ => by cases h; exact hd hd'), if_pos rfl, jzb_0]
      show ∃ M', _ = some (if 48 + lo ≤ d ∧ d ≤ 57 then _ else 0, M') ∧ _
      rw [if_neg hd]
      exact ⟨M, rfl, ⟨rfl, rfl, rfl⟩, fun d' h h1 h2 => by cases h; exact absurd ⟨h1, h2⟩ hd⟩
theorem optc {α β : Type} (o : Option (α × β)) : o = none ∨ ∃ a b, o = some (a, b) := by
  cases o with
  | none => exact Or.inl rfl
  | some q => exact Or.inr ⟨q.1, q.2, rfl⟩
def okN (o : Option (Int32 × Nat)) : Int32 := if o.isSome then 1 else 0
theorem isNumber_eq {t : TextS} {N : Nat} (hN : N ≤ 120) {M : MS} (hT : tText t N M) {j at_ c : Nat} {C : Int32} (hj : j < 800) (hp : M_position M = nI j) (ha : at_ < 7) (hC : nI c = C) (hc : c < 256) :
    ∃ M', f_X12_isNumber (nI at_) C M = some (okN (numB (bS t N) j c), M') ∧ sameC M M' ∧ ∀ v e, numB (bS t N) j c = some (v, e) → M_position M' = nI e ∧ M_read M' = upd (M_read M) at_ v := by
  have hB : ∀ i q, bS t N i = some q → q < 256 := fun i q h => (bS_lt h).1
  unfold f_X12_isNumber f_X12_isNumber_14 f_X12_isNumber_29
  rw [byteNow_eq (t := t) hN hT.1 hT.2 (by omega) hp, jbd_s]
  by_cases h45 : bS t N j = some 45
  · rw [if_pos ((mb_eq (c := 45) (C := 45) rfl (by decide) (hB j)).mpr h45), if_neg one_ne, hp]
    have e1 : nI j + (1 : Int32) = nI (j + 1) := nI_1 j
    rw [e1, byteNow_eq (t := t) (M := M_position_s M (nI (j + 1))) (j := j + 1) hN hT.1 hT.2 (by omega) rfl, jbd_s, if_neg one_ne]
    obtain ⟨M', g1, g2, g3⟩ := num54 (lo := 1) (m := 1) (M := M_position_s M (nI (j + 1))) (e := j + 1) hN hT (by omega) rfl ha hC hc (by decide) rfl
    have g1' : f_X12_isNumber_54 (nI at_) C 1 (mb (bS t N (j + 1)) - 48) (mb (bS t N (j + 1)) - 48).toInt64 (1 : Int64) (M_position_s M (nI (j + 1))) = _ := g1
    rw [g1']
    unfold numB nuS
    rw [if_pos h45]
    cases hq : bS t N (j + 1) with
    | none => exact ⟨M', rfl, ⟨g2.1, g2.2.1, g2.2.2⟩, fun v e h => by cases h⟩
    | some d =>
      rw [hq] at g3
      dsimp only
      by_cases hd : 49 ≤ d ∧ d ≤ 57
      · rw [if_pos hd, if_pos (show 48 + 1 ≤ d ∧ d ≤ 57 from hd)]
        dsimp only
        by_cases hcc : bS t N (j + 1 + 1) = some c
        · rw [if_pos hcc, if_pos (show bS t N (j + 2) = some c from hcc)]
          refine ⟨M', rfl, ⟨g2.1, g2.2.1, g2.2.2⟩, fun v e h => ?_⟩
          cases h
          exact g3 d rfl hd.1 hd.2 hcc
        · rw [if_neg hcc, if_neg (show ¬ bS t N (j + 2) = some c from hcc)]
          exact ⟨M', rfl, ⟨g2.1, g2.2.1, g2.2.2⟩, fun v e h => by cases h⟩
      · rw [if_neg hd, if_neg (show ¬ (48 + 1 ≤ d ∧ d ≤ 57) from hd)]
        exact ⟨M', rfl, ⟨g2.1, g2.2.1, g2.2.2⟩, fun v e h => by cases h⟩
  · rw [if_neg (fun z => h45 ((mb_eq (c := 45) (C := 45) rfl (by decide) (hB j)).mp z)), if_pos rfl, hp, Int32.add_zero]
    rw [byteNow_eq (t := t) (M := M_position_s M (nI j)) (j := j) hN hT.1 hT.2 (by omega) rfl, jbd_s, if_pos rfl]
    obtain ⟨M', g1, g2, g3⟩ := num54 (lo := 0) (m := 0) (M := M_position_s M (nI j)) (e := j) hN hT (by omega) rfl ha hC hc (by decide) rfl
    have g1' : f_X12_isNumber_54 (nI at_) C 0 (mb (bS t N j) - 48) (mb (bS t N j) - 48).toInt64 (0 : Int64) (M_position_s M (nI j)) = _ := g1
    rw [g1']
    unfold numB nuS
    rw [if_neg h45]
    cases hq : bS t N j with
    | none => exact ⟨M', rfl, ⟨g2.1, g2.2.1, g2.2.2⟩, fun v e h => by cases h⟩
    | some d =>
      rw [hq] at g3
      dsimp only
      by_cases hd : 48 ≤ d ∧ d ≤ 57
      · rw [if_pos hd, if_pos (show 48 + 0 ≤ d ∧ d ≤ 57 from hd)]
        dsimp only
        by_cases hcc : bS t N (j + 1) = some c
        · rw [if_pos hcc, if_pos hcc]
          refine ⟨M', rfl, ⟨g2.1, g2.2.1, g2.2.2⟩, fun v e h => ?_⟩
          cases h
          exact g3 d rfl hd.1 hd.2 hcc
        · rw [if_neg hcc, if_neg hcc]
          exact ⟨M', rfl, ⟨g2.1, g2.2.1, g2.2.2⟩, fun v e h => by cases h⟩
      · rw [if_neg hd, if_neg (show ¬ (48 + 0 ≤ d ∧ d ≤ 57) from hd)]
        exact ⟨M', rfl, ⟨g2.1, g2.2.1, g2.2.2⟩, fun v e h => by cases h⟩
def okI (o : Option (Nat × List Int32 × Nat)) : Int32 := if o.isSome then 1 else 0
/-- values at at_, at_ + 1, .. -/
def putL (f : Nat → Int32) : Nat → List Int32 → Nat → Int32
  | _, [] => f
  | a, v :: vs => putL (upd f a v) (a + 1) vs
theorem isItem_eq {t : TextS} {N : Nat} (hN : N ≤ 120) {M : MS} (hT : tText t N M) {j : Nat} (hj : j < 700) (hp : M_position M = nI j) :
    ∃ M', f_X12_isItem M = some (okI (itS (bS t N) j), M') ∧ sameC M M' ∧ ∀ a vs e, itS (bS t N) j = some (a, vs, e) → M_position M' = nI e ∧ M_read M' = putL (M_read M) a vs := by
  have hB : ∀ i q, bS t N i = some q → q < 256 := fun i q h => (bS_lt h).1
  have e1 : M_position M + (1 : Int32) = nI (j + 1) := by rw [hp]; exact nI_1 j
  unfold f_X12_isItem f_X12_isItem_41 itS
  rw [byteNow_eq (t := t) hN hT.1 hT.2 (by omega) hp, jbd_s, e1]
  have three : ∀ (a : Nat), a ≤ 3 → ∃ M', f_X12_isItem_54 (nI a) (M_position_s M (nI (j + 1))) = some (okI (match numB (bS t N) (j + 1) 44 with
      | none => none
      | some (v0, e0) => match numB (bS t N) e0 44 with
        | none => none
        | some (v1, e1) => match numB (bS t N) e1 59 with
          | none => none
          | some (v2, e2) => (some (a, [v0, v1, v2], e2) : Option (Nat × List Int32 × Nat))), M') ∧ sameC M M' ∧ ∀ a' vs e, (match numB (bS t N) (j + 1) 44 with
      | none => none
      | some (v0, e0) => match numB (bS t N) e0 44 with
        | none => none
        | some (v1, e1) => match numB (bS t N) e1 59 with
          | none => none
          | some (v2, e2) => (some (a, [v0, v1, v2], e2) : Option (Nat × List Int32 × Nat))) = some (a', vs, e) → M_position M' = nI e ∧ M_read M' = putL (M_read M) a' vs := by
    intro a ha
    unfold f_X12_isItem_54
    obtain ⟨M1, p1, p2, p3⟩ := isNumber_eq (c := 44) (C := 44) (at_ := a) (j := j + 1) hN (M := M_position_s M (nI (j + 1))) hT (by omega) rfl (by omega) rfl (by decide)
    rw [p1, jbd_s]
    rcases optc (numB (bS t N) (j + 1) 44) with h0 | ⟨v0, e0, h0⟩
    · rw [h0]
      exact ⟨M1, rfl, ⟨p2.1, p2.2.1, p2.2.2⟩, fun a' vs e h => by cases h⟩
    · have g0 := numB_gt h0
      obtain ⟨k1, k2⟩ := p3 v0 e0 h0
      have ea : nI a + (1 : Int32) = nI (a + 1) := nI_1 a
      obtain ⟨M2, r1, r2, r3⟩ := isNumber_eq (c := 44) (C := 44) (at_ := a + 1) (j := e0) hN (M := M1) (hT.core p2.1) (by omega) k1 (by omega) rfl (by decide)
      rw [h0, if_neg (show ¬ (okN (some (v0, e0)), M1).1 = 0 from one_ne), ea]
      dsimp only
      rw [r1, jbd_s]
      rcases optc (numB (bS t N) e0 44) with h1 | ⟨v1, e1', h1⟩
      · rw [h1]
        exact ⟨M2, rfl, sameC.trans ⟨p2.1, p2.2.1, p2.2.2⟩ r2, fun a' vs e h => by cases h⟩
      · have g1 := numB_gt h1
        obtain ⟨l1, l2⟩ := r3 v1 e1' h1
        have eb : nI a + (2 : Int32) = nI (a + 2) := nI_add a 2
        obtain ⟨M3, s1, s2, s3⟩ := isNumber_eq (c := 59) (C := 59) (at_ := a + 2) (j := e1') hN (M := M2) ((hT.core p2.1).core r2.1) (by omega) l1 (by omega) rfl (by decide)
        rw [h1, if_neg (show ¬ (okN (some (v1, e1')), M2).1 = 0 from one_ne), eb]
        dsimp only
        rw [s1, jbd_s]
        have hsc : sameC M M3 := sameC.trans (sameC.trans ⟨p2.1, p2.2.1, p2.2.2⟩ r2) s2
        rcases optc (numB (bS t N) e1' 59) with h2 | ⟨v2, e2, h2⟩
        · rw [h2]
          exact ⟨M3, rfl, hsc, fun a' vs e h => by cases h⟩
        · obtain ⟨m1, m2⟩ := s3 v2 e2 h2
          rw [h2]
          refine ⟨M3, rfl, hsc, fun a' vs e h => ?_⟩
          cases h
          refine ⟨m1, ?_⟩
          rw [m2, l2, k2]
          rfl
  by_cases hs : bS t N j = some 115
  · rw [if_pos ((mb_eq (c := 115) (C := 115) rfl (by decide) (hB j)).mpr hs), if_pos hs]
    obtain ⟨M1, p1, p2, p3⟩ := isNumber_eq (c := 59) (C := 59) (at_ := 6) (j := j + 1) hN (M := M_position_s M (nI (j + 1))) hT (by omega) rfl (by decide) rfl (by decide)
    have p1' : f_X12_isNumber 6 59 (M_position_s M (nI (j + 1))) = _ := p1
    rw [p1', jbd_s]
    cases h0 : numB (bS t N) (j + 1) 59 with
    | none => exact ⟨M1, rfl, ⟨p2.1, p2.2.1, p2.2.2⟩, fun a vs e h => by cases h⟩
    | some q =>
      obtain ⟨v, e'⟩ := q
      obtain ⟨k1, k2⟩ := p3 v e' h0
      refine ⟨M1, rfl, ⟨p2.1, p2.2.1, p2.2.2⟩, fun a vs e h => ?_⟩
      cases h
      exact ⟨k1, k2⟩
  · rw [if_neg (fun z => hs ((mb_eq (c := 115) (C := 115) rfl (by decide) (hB j)).mp z)), if_neg hs]
    by_cases h97 : bS t N j = some 97
    · have m97 := (mb_eq (c := 97) (C := 97) rfl (by decide) (hB j)).mpr h97
      rw [if_pos m97, if_pos m97, if_pos (Or.inl h97)]
      simp only [if_pos h97]
      exact three 0 (by decide)
    · have m97 : ¬ mb (bS t N j) = 97 := fun z => h97 ((mb_eq (c := 97) (C := 97) rfl (by decide) (hB j)).mp z)
      rw [if_neg m97, if_neg m97]
      by_cases h98 : bS t N j = some 98
      · rw [if_pos ((mb_eq (c := 98) (C := 98) rfl (by decide) (hB j)).mpr h98), if_pos (Or.inr h98)]
        simp only [if_neg h97]
        exact three 3 (by decide)
      · rw [if_neg (fun z => h98 ((mb_eq (c := 98) (C := 98) rfl (by decide) (hB j)).mp z)), if_neg (show ¬ (bS t N j = some 97 ∨ bS t N j = some 98) from fun h => h.elim h97 h98), jzb_0]
        exact ⟨_, rfl, ⟨rfl, rfl, rfl⟩, fun a vs e h => by cases h⟩
