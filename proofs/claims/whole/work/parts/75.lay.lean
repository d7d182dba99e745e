/-! laying a law -/
theorem b9_dig {d : Nat} (h1 : 48 ≤ d) (h2 : d ≤ 57) : b9 (nI d - 48) ∧ b9 (-(nI d - 48)) := by
  have e : (nI d - 48 : Int32) = nI (d - 48) := pk_sub (b := 48) h1
  rw [e]
  unfold b9
  rw [Int32.toInt_neg, nI_toInt (by omega), Int.bmod_def]
  omega
theorem nuS_b9 {b : Nat → Option Nat} {j : Nat} {v : Int32} {e : Nat} (h : nuS b j = some (v, e)) : b9 v := by
  unfold nuS at h
  split at h
  · split at h
    · split at h
      · rename_i hd; cases h; exact (b9_dig (by omega) hd.2).2
      · cases h
    · cases h
  · split at h
    · split at h
      · rename_i hd; cases h; exact (b9_dig hd.1 hd.2).1
      · cases h
    · cases h
theorem xb_some {q : Nat} : xb (some q) = nI q := rfl
section
variable {t : TextS} {N : Nat}
theorem numberFrom_eq (hN : N ≤ 120) (ht : Text_length t = nI N) {j : Nat} (hj : j < 800) {v : Int32} {e : Nat} (h : nuS (bS t N) j = some (v, e)) : f_X10_numberFrom (nI j) t = some v ∧ f_X10_nextNumber (nI j) t = some (nI (e + 1)) := by
  unfold f_X10_numberFrom f_X10_nextNumber
  rw [byteAt_eq hN ht j (by omega), jbd_s, jbd_s, nI_1, byteAt_eq hN ht (j + 1) (by omega), jbd_s, jbd_s]
  have h45 := xb_eq (o := bS t N j) (c := 45) (C := 45) rfl (by decide) (fun q hq => (bS_lt hq).1)
  unfold nuS at h
  by_cases c : bS t N j = some 45
  · rw [if_pos c] at h
    rw [if_pos (h45.mpr c), if_pos (h45.mpr c)]
    rcases e1 : bS t N (j + 1) with _ | d
    · rw [e1] at h; cases h
    · rw [e1] at h
      simp only at h
      split at h
      · cases h
        refine ⟨?_, ?_⟩
        · rw [xb_some, Int32.neg_sub]
        · rw [show (3 : Int32) = nI 3 from rfl, nI_add]
      · cases h
  · rw [if_neg c] at h
    rw [if_neg (fun e => c (h45.mp e)), if_neg (fun e => c (h45.mp e))]
    rcases e1 : bS t N j with _ | d
    · rw [e1] at h; cases h
    · rw [e1] at h
      simp only at h
      split at h
      · cases h
        refine ⟨rfl, ?_⟩
        rw [show (2 : Int32) = nI 2 from rfl, nI_add]
      · cases h
theorem numB_from (hN : N ≤ 120) (ht : Text_length t = nI N) {j c : Nat} (hj : j < 800) {v : Int32} {e : Nat} (h : numB (bS t N) j c = some (v, e)) : f_X10_numberFrom (nI j) t = some v ∧ f_X10_nextNumber (nI j) t = some (nI e) ∧ b9 v := by
  unfold numB at h
  rcases optc (nuS (bS t N) j) with e1 | ⟨v', e', e1⟩
  · rw [e1] at h; cases h
  · rw [e1] at h
    simp only at h
    split at h
    · cases h
      obtain ⟨q1, q2⟩ := numberFrom_eq hN ht hj e1
      exact ⟨q1, q2, nuS_b9 e1⟩
    · cases h
/-- the law's numbers as read -/
def wl (w : LawS) (rd : Nat → Int32) : Prop := (∀ k, k < 3 → Law_left w k = rd k) ∧ (∀ k, k < 3 → Law_above w k = rd (3 + k)) ∧ Law_top w = rd 6
theorem upd3 {f : Nat → Int32} {a : Nat} {v0 v1 v2 : Int32} : putL f a [v0, v1, v2] = upd (upd (upd f a v0) (a + 1) v1) (a + 2) v2 := rfl
theorem upd3_at {f : Nat → Int32} {a : Nat} {v0 v1 v2 : Int32} (k : Nat) : putL f a [v0, v1, v2] k = if k = a then v0 else if k = a + 1 then v1 else if k = a + 2 then v2 else f k := by
  rw [upd3]
  by_cases h2 : k = a + 2
  · subst h2
    rw [pk_us, if_neg (by omega), if_neg (by omega), if_pos rfl]
  · rw [pk_un h2, if_neg h2]
    by_cases h1 : k = a + 1
    · subst h1
      rw [pk_us, if_neg (by omega), if_pos rfl]
    · rw [pk_un h1, if_neg h1]
      by_cases h0 : k = a
      · subst h0; rw [pk_us, if_pos rfl]
      · rw [pk_un h0, if_neg h0]
theorem takeItem_eq (hN : N ≤ 120) (ht : Text_length t = nI N) {j : Nat} (hj : j < 700) (w : LawS) {rd : Nat → Int32} (hw : wl w rd) (hrd : ∀ k, k < 7 → b9 (rd k)) {a : Nat} {vs : List Int32} {e : Nat} (h : itS (bS t N) j = some (a, vs, e)) : ∃ w', f_X2_takeItem (nI j) w t = some w' ∧ wl w' (putL rd a vs) ∧ Law_items w' = Law_items w ∧ ∀ k, k < 7 → b9 (putL rd a vs k) := by
  obtain ⟨w1, w2, w3⟩ := hw
  have h115 := xb_eq (o := bS t N j) (c := 115) (C := 115) rfl (by decide) (fun q hq => (bS_lt hq).1)
  have h97 := xb_eq (o := bS t N j) (c := 97) (C := 97) rfl (by decide) (fun q hq => (bS_lt hq).1)
  unfold f_X2_takeItem
  rw [byteAt_eq hN ht j (by omega), jbd_s, nI_1]
  unfold itS at h
  by_cases c : bS t N j = some 115
  · rw [if_pos c] at h
    rw [if_pos (h115.mpr c)]
    rcases optc (numB (bS t N) (j + 1) 59) with e1 | ⟨v, e', e1⟩
    · rw [e1] at h; cases h
    · rw [e1] at h
      cases h
      obtain ⟨q1, q2, q3⟩ := numB_from hN ht (by omega) e1
      rw [q1, jbd_s]
      refine ⟨_, rfl, ⟨fun k hk => ?_, fun k hk => ?_, ?_⟩, rfl, fun k hk => ?_⟩
      · show Law_left w k = upd rd 6 v k
        rw [pk_un (by omega), w1 k hk]
      · show Law_above w k = upd rd 6 v (3 + k)
        rw [pk_un (by omega), w2 k hk]
      · show v = upd rd 6 v 6
        rw [pk_us]
      · show b9 (upd rd 6 v k)
        by_cases h6 : k = 6
        · subst h6; rw [pk_us]; exact q3
        · rw [pk_un h6]; exact hrd k hk
  · rw [if_neg c] at h
    rw [if_neg (fun e => c (h115.mp e))]
    by_cases c2 : bS t N j = some 97 ∨ bS t N j = some 98
    · rw [if_pos c2] at h
      rcases optc (numB (bS t N) (j + 1) 44) with e1 | ⟨v0, p0, e1⟩
      · rw [e1] at h; cases h
      · rw [e1] at h
        simp only at h
        rcases optc (numB (bS t N) p0 44) with e2 | ⟨v1, p1, e2⟩
        · rw [e2] at h; cases h
        · rw [e2] at h
          simp only at h
          rcases optc (numB (bS t N) p1 59) with e3 | ⟨v2, p2, e3⟩
          · rw [e3] at h; cases h
          · rw [e3] at h
            cases h
            have g1 := numB_gt e1
            have g2 := numB_gt e2
            obtain ⟨a1, a2, a3⟩ := numB_from hN ht (by omega) e1
            obtain ⟨b1, b2, b3⟩ := numB_from hN ht (by omega) e2
            obtain ⟨c1, c2', c3⟩ := numB_from hN ht (by omega) e3
            have hb9 : ∀ a, ∀ k, k < 7 → b9 (putL rd a [v0, v1, v2] k) := fun a k hk => by
              rw [upd3_at]
              split
              · exact a3
              · split
                · exact b3
                · split
                  · exact c3
                  · exact hrd k hk
            have cl : ∀ i : Nat, i < 3 → Int32.toNatClampNeg (nI i) = i := fun i hi => nI_clamp (by omega)
            by_cases c4 : bS t N j = some 97
            · rw [if_pos (h97.mpr c4), if_pos c4]
              unfold f_X2_takeItem_41a
              rw [nI_1, show jFU = 999996 + 1 + 1 + 1 + 1 from rfl, f_X2_takeItem_51a, if_neg (by decide), a1, jbd_s, show (0 : Int32) = nI 0 from rfl, jgd_n _ (by decide) (by decide), a2, jbd_s, nI_1, f_X2_takeItem_51a, if_neg (by decide), b1, jbd_s, jgd_n _ (by decide) (by decide), b2, jbd_s, nI_1, f_X2_takeItem_51a, if_neg (by decide), c1, jbd_s, jgd_n _ (by decide) (by decide), c2', jbd_s, nI_1, f_X2_takeItem_51a, if_pos (by decide), cl 0 (by decide), cl (0 + 1) (by decide), cl (0 + 1 + 1) (by decide)]
              refine ⟨_, rfl, ⟨fun k hk => ?_, fun k hk => ?_, ?_⟩, rfl, hb9 0⟩
              · show putL (Law_left w) 0 [v0, v1, v2] k = putL rd 0 [v0, v1, v2] k
                rw [upd3_at, upd3_at, w1 k hk]
              · show Law_above w k = _
                rw [upd3_at, if_neg (by omega), if_neg (by omega), if_neg (by omega), w2 k hk]
              · show Law_top w = _
                rw [upd3_at, if_neg (by omega), if_neg (by omega), if_neg (by omega), w3]
            · rw [if_neg (fun e => c4 (h97.mp e)), if_neg c4]
              unfold f_X2_takeItem_41
              rw [nI_1, show jFU = 999996 + 1 + 1 + 1 + 1 from rfl, f_X2_takeItem_51, if_neg (by decide), a1, jbd_s, show (0 : Int32) = nI 0 from rfl, jgd_n _ (by decide) (by decide), a2, jbd_s, nI_1, f_X2_takeItem_51, if_neg (by decide), b1, jbd_s, jgd_n _ (by decide) (by decide), b2, jbd_s, nI_1, f_X2_takeItem_51, if_neg (by decide), c1, jbd_s, jgd_n _ (by decide) (by decide), c2', jbd_s, nI_1, f_X2_takeItem_51, if_pos (by decide), cl 0 (by decide), cl (0 + 1) (by decide), cl (0 + 1 + 1) (by decide)]
              refine ⟨_, rfl, ⟨fun k hk => ?_, fun k hk => ?_, ?_⟩, rfl, hb9 3⟩
              · show Law_left w k = _
                rw [upd3_at, if_neg (by omega), if_neg (by omega), if_neg (by omega), w1 k hk]
              · show putL (Law_above w) 0 [v0, v1, v2] k = putL rd 3 [v0, v1, v2] (3 + k)
                rw [upd3_at, upd3_at, w2 k hk]
                rcases (show k = 0 ∨ k = 1 ∨ k = 2 by omega) with rfl | rfl | rfl <;> rfl
              · show Law_top w = _
                rw [upd3_at, if_neg (by omega), if_neg (by omega), if_neg (by omega), w3]
    · rw [if_neg c2] at h; cases h
theorem lay30 (hN : N ≤ 120) (ht : Text_length t = nI N) : ∀ (f j i n : Nat) (rd : Nat → Int32) (c : Nat) (w : LawS) (r : (Nat → Int32) × Nat), N < f + j → i ≤ j → j ≤ N + 10 → N < n + j → 0 < n → prs (bS t N) N f j rd c = .inr r → wl w rd → Law_items w = nI c → (∀ k, k < 7 → b9 (rd k)) →
    ∃ w', f_X2_layFrom_30 n (nI j) (nI i) w t = f_X2_layFrom_85 w' t ∧ wl w' r.1 ∧ Law_items w' = nI r.2 ∧ ∀ k, k < 7 → b9 (r.1 k) := by
  intro f
  induction f with
  | zero =>
    intro j i n rd c w r h1 h2 h3 h4 h5 hp hw hi hb
    obtain ⟨n, rfl⟩ : ∃ q, n = q + 1 := ⟨n - 1, by omega⟩
    cases hp
    refine ⟨w, ?_, hw, hi, hb⟩
    rw [f_X2_layFrom_30]
    by_cases c1 : (120 : Int32) ≤ nI i
    · rw [if_pos c1]
    · rw [if_neg c1, show f_X10_length t = some (Text_length t) from rfl, jbd_s, ht, if_pos (nI_le (by omega) (by omega))]
  | succ f ih =>
    intro j i n rd c w r h1 h2 h3 h4 h5 hp hw hi hb
    obtain ⟨n, rfl⟩ : ∃ q, n = q + 1 := ⟨n - 1, by omega⟩
    rw [prs] at hp
    by_cases hj : N ≤ j
    · rw [if_pos hj] at hp
      cases hp
      refine ⟨w, ?_, hw, hi, hb⟩
      rw [f_X2_layFrom_30]
      by_cases c1 : (120 : Int32) ≤ nI i
      · rw [if_pos c1]
      · rw [if_neg c1, show f_X10_length t = some (Text_length t) from rfl, jbd_s, ht, if_pos (nI_le (by omega) (by omega))]
    · rw [if_neg hj] at hp
      rcases opt3 (itS (bS t N) j) with e1 | ⟨a, vs, e, e1⟩
      · rw [e1] at hp; cases hp
      · rw [e1] at hp
        simp only at hp
        have gt := itS_gt e1
        obtain ⟨w1, q1, q2, q3, q4⟩ := takeItem_eq hN ht (by omega) w hw hb e1
        obtain ⟨w', g1, g2, g3, g4⟩ := ih e (i + 1) n (putL rd a vs) (c + 1) (Law_items_s w1 (Law_items w1 + 1)) r (by omega) (by omega) (by omega) (by omega) (by omega) hp q2 (by rw [← nI_1, ← hi, ← q3]; rfl) q4
        refine ⟨w', ?_, g2, g3, g4⟩
        rw [f_X2_layFrom_30, if_neg (ge_lit (m := 120) (M := 120) rfl (show i < 120 by omega) (by decide)), show f_X10_length t = some (Text_length t) from rfl, jbd_s, ht, if_neg (nI_ge (by omega) (by omega)), itemEnd_eq hN ht j (by omega), jbd_s, e1, show enc3 (some (a, vs, e)) = nI e from rfl, if_neg (nI_m1 (by omega)), q1, jbd_s, nI_1]
        exact g1
end
theorem fill3_eq (v : Int32) (s : ArrI3S) : ∃ s' : ArrI3S, f_J7_fill_53178_n3 v s = some s' ∧ ∀ k, k < 3 → s' k = v := by
  refine ⟨upd (upd (upd s 0 v) 1 v) 2 v, ?_, ?_⟩
  · unfold f_J7_fill_53178_n3
    rw [show jFU = 999996 + 1 + 1 + 1 + 1 from rfl, f_J7_fill_53178_n3_5, if_neg (by decide), show (0 : Int32) = nI 0 from rfl, jgd_n _ (by decide) (by decide), nI_1, f_J7_fill_53178_n3_5, if_neg (by decide), jgd_n _ (by decide) (by decide), nI_1, f_J7_fill_53178_n3_5, if_neg (by decide), jgd_n _ (by decide) (by decide), nI_1, f_J7_fill_53178_n3_5, if_pos (by decide)]
    rfl
  · intro k hk
    rcases (show k = 0 ∨ k = 1 ∨ k = 2 by omega) with rfl | rfl | rfl
    · rw [pk_un (by decide), pk_un (by decide), pk_us]
    · rw [pk_un (by decide), pk_us]
    · rw [pk_us]
theorem layFrom_eq {t : TextS} {N : Nat} (hN : N ≤ 120) (ht : Text_length t = nI N) (w : LawS) {rd : Nat → Int32} {r : (Nat → Int32) × Nat} (hrd : ∀ k, k < 7 → rd k = if k = 6 then 1 else 0) (hp : prs (bS t N) N 121 0 rd 0 = .inr r) : ∃ w', f_X2_layFrom w t = some w' ∧ wl w' r.1 ∧ Law_items w' = nI r.2 ∧ (∀ k, k < 7 → b9 (r.1 k)) ∧ ∀ n k, n ≤ 24 → k ≤ n → Law_numbers w' (tri n + k) = tEnc (tRow (lawA w') (lawB w') (Law_top w').toInt n k) := by
  obtain ⟨s1, f1, f2⟩ := fill3_eq 0 (Law_left w)
  obtain ⟨s2, f3, f4⟩ := fill3_eq 0 (Law_above (Law_left_s w s1))
  have hw0 : wl (Law_items_s (Law_top_s (Law_above_s (Law_left_s w s1) s2) 1) 0) rd := by
    refine ⟨fun k hk => ?_, fun k hk => ?_, ?_⟩
    · show s1 k = rd k
      rw [f2 k hk, hrd k (by omega), if_neg (by omega)]
    · show s2 k = rd (3 + k)
      rw [f4 k hk, hrd (3 + k) (by omega), if_neg (by omega)]
    · show (1 : Int32) = rd 6
      rw [hrd 6 (by omega), if_pos rfl]
  have hb0 : ∀ k, k < 7 → b9 (rd k) := fun k hk => by
    rw [hrd k hk]
    split
    · exact ⟨by decide, by decide⟩
    · exact ⟨by decide, by decide⟩
  obtain ⟨w', g1, g2, g3, g4⟩ := lay30 hN ht 121 0 0 1000000 rd 0 _ r (by omega) (by omega) (by omega) (by omega) (by omega) hp hw0 rfl hb0
  obtain ⟨l1, l2, l3⟩ := g2
  obtain ⟨nf, n1, n2⟩ := fillNumbers_eq w' ⟨fun i hi => by rw [l1 i hi]; exact g4 i (by omega), fun i hi => by rw [l2 i hi]; exact g4 (3 + i) (by omega), by rw [l3]; exact g4 6 (by omega)⟩
  refine ⟨Law_numbers_s w' nf, ?_, ⟨l1, l2, l3⟩, g3, g4, n2⟩
  unfold f_X2_layFrom
  rw [f1, jbd_s, f3, jbd_s]
  refine Eq.trans g1 ?_
  unfold f_X2_layFrom_85
  rw [n1, jbd_s]
theorem lay21 {l : Nat} (hl : l < 4) : ∀ (d i n : Nat) (M : MS), i + d = 7 → d < n → ∃ f : Nat → Int32, f_X12_lay_21 n (nI l) (nI i) M = some (M_readMany M, M_items_s (M_law_s M f) (upd (M_items M) l (M_readMany M))) ∧ (∀ q, (q < 7 * l + i ∨ 7 * l + 7 ≤ q) → f q = M_law M q) ∧ ∀ k, i ≤ k → k < 7 → f (7 * l + k) = M_read M k := by
  intro d
  induction d with
  | zero =>
    intro i n M h1 hn
    obtain ⟨n, rfl⟩ : ∃ q, n = q + 1 := ⟨n - 1, by omega⟩
    obtain rfl : i = 7 := by omega
    refine ⟨M_law M, ?_, fun _ _ => rfl, fun k h2 h3 => by omega⟩
    rw [f_X12_lay_21, if_pos (by decide)]
    unfold f_X12_lay_50
    rw [jgd_n _ hl (by decide), nI_clamp (by omega)]; rfl
  | succ d ih =>
    intro i n M h1 hn
    obtain ⟨n, rfl⟩ : ∃ q, n = q + 1 := ⟨n - 1, by omega⟩
    have e0 : (7 : Int32) * nI l + nI i = nI (7 * l + i) := by rw [show (7 : Int32) = nI 7 from rfl, pk_mul, nI_add]
    obtain ⟨f, g1, g2, g3⟩ := ih (i + 1) n (M_law_s M (upd (M_law M) (7 * l + i) (M_read M i))) (by omega) (by omega)
    refine ⟨f, ?_, fun q hq => ?_, fun k h2 h3 => ?_⟩
    · rw [f_X12_lay_21, if_neg (ge_lit (m := 7) (M := 7) rfl (by omega) (by decide)), jgd_n _ (by omega) (by decide), e0, jgd_n _ (by omega) (by decide), nI_clamp (by omega), nI_clamp (by omega), nI_1]
      exact g1
    · rw [g2 q (by omega)]
      exact pk_un (by omega)
    · by_cases hk : k = i
      · subst hk
        rw [g2 (7 * l + k) (by omega)]
        exact pk_us
      · rw [g3 k (by omega) h3]; rfl
theorem prs_le {b : Nat → Option Nat} {N : Nat} : ∀ {f j : Nat} {rd : Nat → Int32} {c q : Nat}, prs b N f j rd c = .inl q → q ≤ N
  | 0, j, rd, c, q, h => by cases h
  | f + 1, j, rd, c, q, h => by
    rw [prs] at h
    by_cases hj : N ≤ j
    · rw [if_pos hj] at h; cases h
    · rw [if_neg hj] at h
      rcases opt3 (itS b j) with e1 | ⟨a, vs, e, e1⟩
      · rw [e1] at h; cases h; omega
      · rw [e1] at h; exact prs_le h
theorem op_lay (a0 : Int32) : oWW (f_X11_lay a0) (f_X12_lay a0) := by
  intro X M hR
  obtain ⟨N, h1, h2, h3, h4⟩ := hR.1
  obtain ⟨rd, M1, g1, g2, g3⟩ := isRead_eq (t := X_text X) (M := M) h1 ⟨h3, h4⟩
  have hx := ffX_eq h1 h2 rd 0
  unfold f_X11_lay f_X12_lay
  rw [isLawX, isLawM, jbd_s, jbd_s]
  rcases rng (x := a0) (M := 3) (m := 3) (by decide) with ⟨l, hl, rfl⟩ | hbad
  · have hl4 : l < 4 := by omega
    rw [b01_in (m := 3) (M := 3) rfl hl (by decide), if_neg one_ne, if_neg one_ne, hx, jbd_s]
    have hR1 := hR.core g2
    cases hp : prs (bS (X_text X) N) N 121 0 rd 0 with
    | inl q =>
      rw [hp] at g3
      obtain ⟨k1, k2⟩ := g3
      rw [k1, jbd_s]
      refine ⟨-2, X, M1, ?_, ?_, hR1⟩
      · have hne : ¬ encF (.inl q) = -4 := by
          have := prs_le hp
          intro e
          have := congrArg Int32.toInt e
          rw [show encF (.inl q) = nI q from rfl, nI_toInt (by omega)] at this
          have e2 : (-4 : Int32).toInt = -4 := by decide
          rw [e2] at this
          omega
        rw [if_neg hne]
      · show (if (0 : Int32) = 0 then _ else _) = _
        rw [if_pos rfl]
    | inr r =>
      rw [hp] at g3
      obtain ⟨k1, k2, k3⟩ := g3
      rw [k1, jbd_s]
      obtain ⟨w', w1, w2, w3, w4, w5⟩ := layFrom_eq h1 h2 (xLaw X l) g1 hp
      obtain ⟨f, f1, f2, f3⟩ := lay21 hl4 7 0 1000000 M1 (by omega) (by omega)
      refine ⟨nI r.2, xLaw_s X l w', M_items_s (M_law_s M1 f) (upd (M_items M1) l (M_readMany M1)), ?_, ?_, ?_⟩
      · rw [if_pos (show encF (.inr r) = -4 from rfl), jgd_n _ hl4 (by decide)]
        simp only [jgd_n _ hl4 (show 4 < 2 ^ 31 by decide)]
        have fin : jbd (f_X2_layFrom (xLaw X l) (X_text X)) (fun r34 => jbd (f_X2_items r34) (fun r43 => some (r43, xLaw_s X l r34))) = some (nI r.2, xLaw_s X l w') := by
          rw [w1, jbd_s, show f_X2_items w' = some (Law_items w') from rfl, jbd_s, w3]
        rw [← fin]
        rcases (show l = 0 ∨ l = 1 ∨ l = 2 ∨ l = 3 by omega) with rfl | rfl | rfl | rfl <;> rfl
      · show (if (1 : Int32) = 0 then _ else _) = _
        rw [if_neg one_ne, ← k3]
        exact f1
      · have hlawq : ∀ k, k < 7 → M_law (M_items_s (M_law_s M1 f) (upd (M_items M1) l (M_readMany M1))) (7 * l + k) = r.1 k := fun k hk => by
          show f (7 * l + k) = _
          rw [f3 k (by omega) hk, k2]
        refine hR1.setLaw hl4 w' rfl rfl rfl rfl ?_ ?_
        · intro q v hq hne hv
          have e1 : ∀ k, k < 7 → M_law (M_items_s (M_law_s M1 f) (upd (M_items M1) l (M_readMany M1))) (7 * q + k) = M_law M1 (7 * q + k) := fun k hk => f2 (7 * q + k) (by omega)
          obtain ⟨v1, v2, v3, v4, v5, v6⟩ := hv
          refine ⟨fun k hk => by rw [e1 k (by omega)]; exact v1 k hk, fun k hk => by rw [Nat.add_assoc, e1 (3 + k) (by omega), ← Nat.add_assoc]; exact v2 k hk, by rw [e1 6 (by omega)]; exact v3, ?_, fun k hk => by rw [e1 k hk]; exact v5 k hk, v6⟩
          rw [v4]
          exact (pk_un hne).symm
        · obtain ⟨l1, l2, l3⟩ := w2
          refine ⟨fun k hk => by rw [hlawq k (by omega)]; exact l1 k hk, fun k hk => by rw [Nat.add_assoc, hlawq (3 + k) (by omega)]; exact l2 k hk, by rw [hlawq 6 (by omega)]; exact l3, ?_, fun k hk => by rw [hlawq k hk]; exact w4 k hk, w5⟩
          rw [w3, ← k3]
          exact pk_us.symm
  · rw [b01_f hbad, if_pos rfl, if_pos rfl]
    exact ⟨_, X, M, rfl, rfl, hR⟩
