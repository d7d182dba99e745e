/-! the text's ITEMS: what both read -/
def bS (t : TextS) (N : Nat) (j : Nat) : Option Nat := if j < N then some ((Text_bytes t j).toBitVec.toNat % 256) else none
def xb (o : Option Nat) : Int32 := match o with
  | none => -1
  | some q => nI q
def mb (o : Option Nat) : Int32 := match o with
  | none => -4
  | some q => nI q
theorem bS_lt {t : TextS} {N j q : Nat} (h : bS t N j = some q) : q < 256 ∧ j < N := by
  unfold bS at h
  by_cases hj : j < N
  · rw [if_pos hj] at h
    have := Option.some.inj h
    omega
  · rw [if_neg hj] at h; cases h
theorem and255 (x : Int32) : x &&& 255 = nI (x.toBitVec.toNat % 256) := pk_and x 8 (by decide)
theorem byteAt_eq {t : TextS} {N : Nat} (hN : N ≤ 120) (ht : Text_length t = nI N) (j : Nat) (hj : j < 1000) : f_X10_byteAt (nI j) t = some (xb (bS t N j)) := by
  unfold f_X10_byteAt bS
  rw [if_neg (nI_pos (by omega)), ht]
  by_cases h : j < N
  · rw [if_neg (nI_ge h (by omega)), jgd_n _ (show j < 120 by omega) (by decide), nI_clamp (by omega), if_pos h, and255]
    rfl
  · rw [if_pos (nI_le (by omega) (by omega)), if_neg h]
    rfl
theorem byteAt_m1 (t : TextS) : f_X10_byteAt (-1) t = some (-1) := by
  unfold f_X10_byteAt
  rw [if_pos (by decide)]
theorem byteNow_eq {t : TextS} {M : MS} {N : Nat} (hN : N ≤ 120) (hb : M_bytes M = nI N) (hT : ∀ j, j < N → M_text M j = Text_bytes t j &&& 255) {j : Nat} (hj : j < 1000) (hp : M_position M = nI j) : f_X12_byteNow M = some (mb (bS t N j)) := by
  unfold f_X12_byteNow bS
  rw [hp, hb]
  by_cases h : j < N
  · rw [if_neg (nI_ge h (by omega)), jgd_n _ (show j < 120 by omega) (by decide), nI_clamp (by omega), if_pos h, hT j h, and255]
    rfl
  · rw [if_pos (nI_le (by omega) (by omega)), if_neg h]
    rfl
theorem xb_eq {o : Option Nat} {c : Nat} {C : Int32} (hC : nI c = C) (hc : c < 256) (ho : ∀ q, o = some q → q < 256) : xb o = C ↔ o = some c := by
  subst hC
  cases o with
  | none =>
    refine ⟨fun h => ?_, fun h => by cases h⟩
    have h1 := congrArg Int32.toInt h
    rw [nI_toInt (by omega)] at h1
    have h2 : (xb none).toInt = -1 := by decide
    omega
  | some q =>
    have := ho q rfl
    show nI q = nI c ↔ _
    rw [nI_eq (by omega) (by omega)]
    exact ⟨fun h => by rw [h], fun h => Option.some.inj h⟩
theorem mb_eq {o : Option Nat} {c : Nat} {C : Int32} (hC : nI c = C) (hc : c < 256) (ho : ∀ q, o = some q → q < 256) : mb o = C ↔ o = some c := by
  subst hC
  cases o with
  | none =>
    refine ⟨fun h => ?_, fun h => by cases h⟩
    have h1 := congrArg Int32.toInt h
    rw [nI_toInt (by omega)] at h1
    have h2 : (mb none).toInt = -4 := by decide
    omega
  | some q =>
    have := ho q rfl
    show nI q = nI c ↔ _
    rw [nI_eq (by omega) (by omega)]
    exact ⟨fun h => by rw [h], fun h => Option.some.inj h⟩
/-- a number that begins at j: its value, and the place behind it -/
def nuS (b : Nat → Option Nat) (j : Nat) : Option (Int32 × Nat) :=
  if b j = some 45 then (match b (j + 1) with
    | some d => if 49 ≤ d ∧ d ≤ 57 then some (-(nI d - 48), j + 2) else none
    | none => none)
  else (match b j with
    | some d => if 48 ≤ d ∧ d ≤ 57 then some (nI d - 48, j + 1) else none
    | none => none)
def enc1 (o : Option (Int32 × Nat)) : Int32 := match o with
  | none => -1
  | some q => nI q.2
theorem numberEnd_eq {t : TextS} {N : Nat} (hN : N ≤ 120) (ht : Text_length t = nI N) (j : Nat) (hj : j < 900) : f_X10_numberEnd (nI j) t = some (enc1 (nuS (bS t N) j)) := by
  unfold f_X10_numberEnd f_X10_numberEnd_15 f_X10_numberEnd_27 f_X10_numberEnd_48 nuS
  have hB : ∀ i q, bS t N i = some q → q < 256 := fun i q h => (bS_lt h).1
  have e1 : nI j + (1 : Int32) = nI (j + 1) := nI_1 j
  have e2 : nI (j + 1) + (1 : Int32) = nI (j + 2) := nI_1 (j + 1)
  rw [byteAt_eq hN ht j (by omega), jbd_s]
  by_cases h45 : bS t N j = some 45
  · rw [if_pos ((xb_eq (c := 45) (C := 45) rfl (by decide) (hB j)).mpr h45), if_pos h45, if_neg (by decide), e1, byteAt_eq hN ht (j + 1) (by omega), jbd_s, if_neg (by decide), e2]
    cases hq : bS t N (j + 1) with
    | none =>
      show (if (-1 : Int32) < 49 then _ else _) = some (-1)
      rw [if_pos (by decide)]
    | some d =>
      have hd := hB _ _ hq
      show (if nI d < nI 49 then _ else _) = some (enc1 (if 49 ≤ d ∧ d ≤ 57 then some (-(nI d - 48), j + 2) else none))
      by_cases h1 : 49 ≤ d
      · rw [if_neg (nI_nlt h1 (by omega))]
        show (if nI 57 < nI d then _ else _) = _
        by_cases h2 : d ≤ 57
        · rw [if_neg (nI_nlt h2 (by omega)), if_pos ⟨h1, h2⟩]; rfl
        · rw [if_pos (nI_lt (by omega) (by omega)), if_neg (fun h => h2 h.2)]; rfl
      · rw [if_pos (nI_lt (by omega) (by omega)), if_neg (fun h => h1 h.1)]; rfl
  · rw [if_neg (fun h => h45 ((xb_eq (c := 45) (C := 45) rfl (by decide) (hB j)).mp h)), if_neg h45, if_pos rfl, jbd_s, if_pos rfl, e1]
    cases hq : bS t N j with
    | none =>
      show (if (-1 : Int32) < 48 then _ else _) = some (-1)
      rw [if_pos (by decide)]
    | some d =>
      have hd := hB _ _ hq
      show (if nI d < nI 48 then _ else _) = some (enc1 (if 48 ≤ d ∧ d ≤ 57 then some (nI d - 48, j + 1) else none))
      by_cases h1 : 48 ≤ d
      · rw [if_neg (nI_nlt h1 (by omega))]
        show (if nI 57 < nI d then _ else _) = _
        by_cases h2 : d ≤ 57
        · rw [if_neg (nI_nlt h2 (by omega)), if_pos ⟨h1, h2⟩]; rfl
        · rw [if_pos (nI_lt (by omega) (by omega)), if_neg (fun h => h2 h.2)]; rfl
      · rw [if_pos (nI_lt (by omega) (by omega)), if_neg (fun h => h1 h.1)]; rfl
theorem nuS_gt {b : Nat → Option Nat} {j : Nat} {v : Int32} {e : Nat} (h : nuS b j = some (v, e)) : j < e ∧ e ≤ j + 2 := by
  unfold nuS at h
  split at h
  · split at h
    · split at h
      · cases h; omega
      · cases h
    · cases h
  · split at h
    · split at h
      · cases h; omega
      · cases h
    · cases h
/-- a number, and c behind it -/
def numB (b : Nat → Option Nat) (j c : Nat) : Option (Int32 × Nat) := match nuS b j with
  | none => none
  | some (v, e) => if b e = some c then some (v, e + 1) else none
theorem numB_gt {b : Nat → Option Nat} {j c : Nat} {v : Int32} {e : Nat} (h : numB b j c = some (v, e)) : j < e ∧ e ≤ j + 3 := by
  unfold numB at h
  split at h
  · cases h
  · rename_i v' e' hn
    have := nuS_gt hn
    split at h
    · cases h; omega
    · cases h
/-- how many numbers, where they go -/
def itS (b : Nat → Option Nat) (j : Nat) : Option (Nat × List Int32 × Nat) :=
  if b j = some 115 then (match numB b (j + 1) 59 with
    | none => none
    | some (v, e) => some (6, [v], e))
  else if b j = some 97 ∨ b j = some 98 then (match numB b (j + 1) 44 with
    | none => none
    | some (v0, e0) => match numB b e0 44 with
      | none => none
      | some (v1, e1) => match numB b e1 59 with
        | none => none
        | some (v2, e2) => some (if b j = some 97 then 0 else 3, [v0, v1, v2], e2))
  else none
def enc3 (o : Option (Nat × List Int32 × Nat)) : Int32 := match o with
  | none => -1
  | some q => nI q.2.2
/-- one number of an item, in the class -/
theorem itemStep {t : TextS} {N : Nat} (hN : N ≤ 120) (ht : Text_length t = nI N) {due i j c n : Nat} {C : Int32} (hj : j < 800) (hi : i ≤ due) (hd : due ≤ 3) (hC : nI c = C) (hc : c < 256) (hsel : C = if i < due then 44 else 59) :
    f_X10_itemEnd_22 (n + 1) (nI due) (nI j) (nI i) t = match numB (bS t N) j c with
      | none => some (-1)
      | some (_, e) => f_X10_itemEnd_22 n (nI due) (nI e) (nI (i + 1)) t := by
  have hB : ∀ i q, bS t N i = some q → q < 256 := fun i q h => (bS_lt h).1
  have e1 : nI i + (1 : Int32) = nI (i + 1) := nI_1 i
  rw [f_X10_itemEnd_22, if_neg (nI_nlt hi (by omega)), numberEnd_eq hN ht j (by omega), jbd_s]
  unfold numB f_X10_itemEnd_54
  cases hn : nuS (bS t N) j with
  | none =>
    show jbd (f_X10_byteAt (-1) t) _ = _
    rw [byteAt_m1, jbd_s]
    split
    · rw [if_neg (by decide)]
    · rw [if_neg (by decide)]
  | some q =>
    obtain ⟨v, e⟩ := q
    have hg := nuS_gt hn
    show jbd (f_X10_byteAt (nI e) t) _ = _
    rw [byteAt_eq hN ht e (by omega), jbd_s]
    have e2 : nI e + (1 : Int32) = nI (e + 1) := nI_1 e
    have key : (if xb (bS t N e) = C then f_X10_itemEnd_22 n (nI due) (nI e + 1) (nI i + 1) t else some (-1)) = (match (if bS t N e = some c then some (v, e + 1) else none : Option (Int32 × Nat)) with
      | none => some (-1)
      | some (_, e) => f_X10_itemEnd_22 n (nI due) (nI e) (nI (i + 1)) t) := by
      by_cases h : bS t N e = some c
      · rw [if_pos ((xb_eq hC hc (hB e)).mpr h), if_pos h, e1, e2]
      · rw [if_neg (fun z => h ((xb_eq hC hc (hB e)).mp z)), if_neg h]
    by_cases hlt : i < due
    · rw [if_neg (nI_ge hlt (by omega))]
      rw [if_pos hlt] at hsel
      subst hsel
      exact key
    · rw [if_pos (nI_le (by omega) (by omega))]
      rw [if_neg hlt] at hsel
      subst hsel
      exact key
theorem itemEnd_eq {t : TextS} {N : Nat} (hN : N ≤ 120) (ht : Text_length t = nI N) (j : Nat) (hj : j < 700) : f_X10_itemEnd (nI j) t = some (enc3 (itS (bS t N) j)) := by
  have hB : ∀ i q, bS t N i = some q → q < 256 := fun i q h => (bS_lt h).1
  have e1 : nI j + (1 : Int32) = nI (j + 1) := nI_1 j
  unfold f_X10_itemEnd f_X10_numbersBehind itS
  rw [byteAt_eq hN ht j (by omega), jbd_s]
  have last : ∀ (due e n : Nat), due ≤ 3 → f_X10_itemEnd_22 (n + 1) (nI due) (nI e) (nI (due + 1)) t = some (nI e) := fun due e n hd => by
    rw [f_X10_itemEnd_22, if_pos (nI_lt (by omega) (by omega))]
  have three : (if (3 : Int32) = 0 then some (-1) else f_X10_itemEnd_22 jFU 3 (nI j + 1) 1 t) = some (match numB (bS t N) (j + 1) 44 with
    | none => (-1 : Int32)
    | some (v0, e0) => match numB (bS t N) e0 44 with
      | none => (-1 : Int32)
      | some (v1, e1) => match numB (bS t N) e1 59 with
        | none => (-1 : Int32)
        | some (v2, e2) => nI e2) := by
    rw [if_neg (by decide), e1]
    refine Eq.trans (itemStep (due := 3) (i := 1) (c := 44) (n := 999999) hN ht (by omega) (by decide) (by decide) rfl (by decide) rfl) ?_
    cases h0 : numB (bS t N) (j + 1) 44 with
    | none => rfl
    | some q =>
      obtain ⟨v0, e0⟩ := q
      have g0 := numB_gt h0
      refine Eq.trans (itemStep (due := 3) (i := 2) (c := 44) (n := 999998) (j := e0) hN ht (by omega) (by decide) (by decide) rfl (by decide) rfl) ?_
      show _ = some (match numB (bS t N) e0 44 with
        | none => (-1 : Int32)
        | some (v1, e1) => match numB (bS t N) e1 59 with
          | none => (-1 : Int32)
          | some (v2, e2) => nI e2)
      cases h1 : numB (bS t N) e0 44 with
      | none => rfl
      | some q =>
        obtain ⟨v1, e1⟩ := q
        have g1 := numB_gt h1
        refine Eq.trans (itemStep (due := 3) (i := 3) (c := 59) (n := 999997) (j := e1) hN ht (by omega) (by decide) (by decide) rfl (by decide) rfl) ?_
        show _ = some (match numB (bS t N) e1 59 with
          | none => (-1 : Int32)
          | some (v2, e2) => nI e2)
        cases h2 : numB (bS t N) e1 59 with
        | none => rfl
        | some q =>
          obtain ⟨v2, e2⟩ := q
          exact last 3 e2 999996 (by decide)
  by_cases ha : bS t N j = some 97
  · rw [if_pos ((xb_eq (c := 97) (C := 97) rfl (by decide) (hB j)).mpr ha), jbd_s, if_neg (show ¬ bS t N j = some 115 by rw [ha]; decide), if_pos (Or.inl ha)]
    refine three.trans ?_
    cases h0 : numB (bS t N) (j + 1) 44 with
    | none => rfl
    | some q =>
      obtain ⟨v0, e0⟩ := q
      dsimp only
      cases h1 : numB (bS t N) e0 44 with
      | none => rfl
      | some q =>
        obtain ⟨v1, e1⟩ := q
        dsimp only
        cases h2 : numB (bS t N) e1 59 with
        | none => rfl
        | some q => rfl
  · rw [if_neg (fun h => ha ((xb_eq (c := 97) (C := 97) rfl (by decide) (hB j)).mp h))]
    by_cases hb : bS t N j = some 98
    · rw [if_pos ((xb_eq (c := 98) (C := 98) rfl (by decide) (hB j)).mpr hb), jbd_s, if_neg (show ¬ bS t N j = some 115 by rw [hb]; decide), if_pos (Or.inr hb)]
      refine three.trans ?_
      cases h0 : numB (bS t N) (j + 1) 44 with
      | none => rfl
      | some q =>
        obtain ⟨v0, e0⟩ := q
        dsimp only
        cases h1 : numB (bS t N) e0 44 with
        | none => rfl
        | some q =>
          obtain ⟨v1, e1⟩ := q
          dsimp only
          cases h2 : numB (bS t N) e1 59 with
          | none => rfl
          | some q => rfl
    · rw [if_neg (fun h => hb ((xb_eq (c := 98) (C := 98) rfl (by decide) (hB j)).mp h))]
      by_cases hs : bS t N j = some 115
      · rw [if_pos ((xb_eq (c := 115) (C := 115) rfl (by decide) (hB j)).mpr hs), jbd_s, if_pos hs, if_neg (by decide), e1]
        refine Eq.trans (itemStep (due := 1) (i := 1) (c := 59) (n := 999999) hN ht (by omega) (by decide) (by decide) rfl (by decide) rfl) ?_
        cases h0 : numB (bS t N) (j + 1) 59 with
        | none => rfl
        | some q =>
          obtain ⟨v, e⟩ := q
          exact last 1 e 999998 (by decide)
      · rw [if_neg (fun h => hs ((xb_eq (c := 115) (C := 115) rfl (by decide) (hB j)).mp h)), jbd_s, if_pos rfl, if_neg hs, if_neg (fun h => h.elim ha hb)]
        rfl
