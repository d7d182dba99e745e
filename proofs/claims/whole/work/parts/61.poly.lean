/-! set, base, count -/
theorem fill9_loop (v : Int64) : ∀ (i j n : Nat) (s : ArrL9S), i + j = 9 → i < n → ∃ s' : ArrL9S, f_J7_fill_d0a16_n9_6 n v (nI j) 9 s = some s' ∧ (∀ k, k < j → s' k = s k) ∧ (∀ k, j ≤ k → k < 9 → s' k = v) := by
  intro i
  induction i with
  | zero =>
    intro j n s hj hn
    obtain ⟨n, rfl⟩ : ∃ m, n = m + 1 := ⟨n - 1, by omega⟩
    have : j = 9 := by omega
    subst this
    exact ⟨s, by rw [f_J7_fill_d0a16_n9_6, if_pos (by decide)], fun _ _ => rfl, fun k h1 h2 => by omega⟩
  | succ i ih =>
    intro j n s hj hn
    obtain ⟨n, rfl⟩ : ∃ m, n = m + 1 := ⟨n - 1, by omega⟩
    obtain ⟨s', h1, h2, h3⟩ := ih (j + 1) n (vp_updL s j v) (by omega) (by omega)
    refine ⟨s', ?_, fun k hk => ?_, fun k hk1 hk2 => ?_⟩
    · rw [f_J7_fill_d0a16_n9_6, if_neg (ge_lit (m := 9) (M := 9) rfl (show j < 9 by omega) (by decide)), jgd_n _ (show j < 9 by omega) (by decide), nI_clamp (by omega)]
      have e : nI j + (1 : Int32) = nI (j + 1) := nI_1 j
      rw [e]
      exact h1
    · rw [h2 k (by omega), pk_uLn (by omega)]
    · by_cases hkj : k = j
      · subst hkj
        rw [h2 k (by omega), pk_uLs]
      · exact h3 k (by omega) hk2
theorem fill9_eq (v : Int64) (s : ArrL9S) : ∃ s' : ArrL9S, f_J7_fill_d0a16_n9 v s = some s' ∧ ∀ k, k < 9 → s' k = v := by
  obtain ⟨s', h1, -, h3⟩ := fill9_loop v 9 0 1000000 s (by decide) (by decide)
  exact ⟨s', h1, fun k hk => h3 k (by omega) hk⟩
theorem baseM_loop {p : Nat} (hp : p < 4) (r : Int32) : ∀ (i j n : Nat) (M : MS), i + j = 9 → i < n → ∃ f : Nat → Int64, f_X12_base_38 n (nI p) r (nI j) M = some (r, M_factor_s M f) ∧ (∀ k, k < 36 → ¬ (9 * p + j ≤ k ∧ k < 9 * p + 9) → f k = M_factor M k) ∧ (∀ k, 9 * p + j ≤ k → k < 9 * p + 9 → f k = 0) := by
  intro i
  induction i with
  | zero =>
    intro j n M hj hn
    obtain ⟨n, rfl⟩ : ∃ m, n = m + 1 := ⟨n - 1, by omega⟩
    have : j = 9 := by omega
    subst this
    exact ⟨M_factor M, by rw [f_X12_base_38, if_pos (by decide)]; rfl, fun _ _ _ => rfl, fun k h1 h2 => by omega⟩
  | succ i ih =>
    intro j n M hj hn
    obtain ⟨n, rfl⟩ : ∃ m, n = m + 1 := ⟨n - 1, by omega⟩
    obtain ⟨f, h1, h2, h3⟩ := ih (j + 1) n (M_factor_s M (vp_updL (M_factor M) (9 * p + j) 0)) (by omega) (by omega)
    refine ⟨f, ?_, fun k hk hk2 => ?_, fun k hk1 hk2 => ?_⟩
    · rw [f_X12_base_38, if_neg (ge_lit (m := 9) (M := 9) rfl (show j < 9 by omega) (by decide)), jgd_in (in36 hp (by omega)), cl9 hp (by omega)]
      have e : nI j + (1 : Int32) = nI (j + 1) := nI_1 j
      rw [e]
      exact h1
    · rw [h2 k hk (by omega)]
      show vp_updL (M_factor M) (9 * p + j) 0 k = _
      rw [pk_uLn (by omega)]
    · by_cases hkj : k = 9 * p + j
      · subst hkj
        rw [h2 _ (by omega) (by omega)]
        show vp_updL (M_factor M) (9 * p + j) 0 _ = _
        rw [pk_uLs]
      · exact h3 k (by omega) hk2
theorem clearIn_eq (b : Int32) (w : PolynomialS) : ∃ w' : PolynomialS, f_X8_clearIn b w = some w' ∧ Polynomial_base w' = b ∧ ∀ k, k < 9 → Polynomial_coefficients w' k = 0 := by
  obtain ⟨s', h1, h2⟩ := fill9_eq 0 (Polynomial_coefficients w)
  refine ⟨Polynomial_base_s (Polynomial_coefficients_s w s') b, ?_, rfl, h2⟩
  unfold f_X8_clearIn
  rw [h1, jbd_s]
theorem sel16 {α : Type} (p : Nat) (hp : p < 4) (F : Nat → Nat → α) : (if nI p = 0 then (if nI p = 0 then F 0 0 else if nI p = 1 then F 0 1 else if nI p = 2 then F 0 2 else F 0 3) else if nI p = 1 then (if nI p = 0 then F 1 0 else if nI p = 1 then F 1 1 else if nI p = 2 then F 1 2 else F 1 3) else if nI p = 2 then (if nI p = 0 then F 2 0 else if nI p = 1 then F 2 1 else if nI p = 2 then F 2 2 else F 2 3) else (if nI p = 0 then F 3 0 else if nI p = 1 then F 3 1 else if nI p = 2 then F 3 2 else F 3 3)) = F p p := by
  rcases (show p = 0 ∨ p = 1 ∨ p = 2 ∨ p = 3 by omega) with rfl | rfl | rfl | rfl <;> rfl
theorem baseX_in (X : XS) {p : Nat} (hp : p < 4) (b : Int32) (hb : 0 ≤ b ∧ b ≤ 3) : f_X11_base (nI p) b X = jbd (f_X8_clearIn b (xPoly X p)) (fun w => some (Polynomial_base (xPoly X p), xPoly_s X p w)) := by
  unfold f_X11_base
  rw [isPolyX, jbd_s, b01_in (m := 3) (M := 3) rfl (by omega) (by decide), if_neg one_ne, within_eq, jbd_s, b01_t hb, if_neg one_ne, jgd_n _ hp (by decide)]
  simp only [jgd_n _ hp (by decide)]
  exact sel16 p hp (fun q q2 => jbd (f_X8_baseNow (xPoly X q)) (fun r => jbd (f_X8_clearIn b (xPoly X q2)) (fun w => some (r, xPoly_s X q2 w))))
theorem op_base (a0 : Int32) (a1 : Int32) : oWW (f_X11_base a0 a1) (f_X12_base a0 a1) := by
  intro X M hR
  rcases rng (x := a0) (M := 3) (m := 3) (by decide) with ⟨p, hp, rfl⟩ | hbad
  · have hp4 : p < 4 := by omega
    by_cases hb : 0 ≤ a1 ∧ a1 ≤ 3
    · obtain ⟨b, hb3, rfl⟩ := nI_of2 (M := 3) (n := 3) (by decide) (Int32.not_lt.mpr hb.1) hb.2
      obtain ⟨w, h1, h2, h3⟩ := clearIn_eq (nI b) (xPoly X p)
      obtain ⟨f, g1, g2, g3⟩ := baseM_loop hp4 (M_base M p) 9 0 1000000 (M_base_s M (upd (M_base M) p (nI b))) (by decide) (by decide)
      refine ⟨M_base M p, xPoly_s X p w, M_factor_s (M_base_s M (upd (M_base M) p (nI b))) f, ?_, ?_, ?_⟩
      · rw [baseX_in X hp4 _ hb, h1, jbd_s, (hR.poly hp4).1]
      · unfold f_X12_base
        rw [isPolyM, jbd_s, b01_in (m := 3) (M := 3) rfl hp (by decide), if_neg one_ne, inI _ 3 3 (by decide), jbd_s, b01_t hb, if_neg one_ne, jgd_n _ hp4 (by decide), jgd_n _ hp4 (by decide), nI_clamp (by omega)]
        exact g1
      · refine hR.setPoly hp4 w rfl rfl rfl rfl (fun q hq hqp => ⟨?_, fun k hk => g2 _ (by omega) (by omega)⟩) ⟨?_, ⟨b, by omega, ?_⟩, fun k hk => ?_, fun k hk => ?_⟩
        · show upd (M_base M) p (nI b) q = _
          rw [pk_un hqp]
        · rw [h2]
          show _ = upd (M_base M) p (nI b) p
          rw [pk_us]
        · show upd (M_base M) p (nI b) p = _
          rw [pk_us]
        · rw [h3 k hk]
          exact (g3 _ (by omega) (by omega)).symm
        · have : M_factor (M_factor_s (M_base_s M (upd (M_base M) p (nI b))) f) (9 * p + k) = 0 := g3 _ (by omega) (by omega)
          rw [this]
          decide
    · refine ⟨-1, X, M, ?_, ?_, hR⟩
      · unfold f_X11_base
        rw [isPolyX, jbd_s, b01_in (m := 3) (M := 3) rfl hp (by decide), if_neg one_ne, within_eq, jbd_s, b01_f hb, if_pos rfl]
      · unfold f_X12_base
        rw [isPolyM, jbd_s, b01_in (m := 3) (M := 3) rfl hp (by decide), if_neg one_ne, inI _ 3 3 (by decide), jbd_s, b01_f hb, if_pos rfl]
  · refine ⟨-1, X, M, ?_, ?_, hR⟩
    · unfold f_X11_base
      rw [isPolyX, jbd_s, b01_f hbad, if_pos rfl]
    · unfold f_X12_base
      rw [isPolyM, jbd_s, b01_f hbad, if_pos rfl]
theorem op_set (a0 : Int32) (a1 : Int32) (a2 : Int64) : oWW (f_X11_set a0 a1 a2) (f_X12_set a0 a1 a2) := by
  intro X M hR
  unfold f_X11_set f_X12_set
  rw [isPolyX, isPolyM, jbd_s, jbd_s]
  rcases rng (x := a0) (M := 3) (m := 3) (by decide) with ⟨p, hp, rfl⟩ | hbad
  · have hp4 : p < 4 := by omega
    rw [b01_in (m := 3) (M := 3) rfl hp (by decide), if_neg one_ne, if_neg one_ne, within_eq, inI a1 8 8 (by decide), jbd_s, jbd_s]
    rcases rng (x := a1) (M := 8) (m := 8) (by decide) with ⟨k, hk, rfl⟩ | hbad
    · rw [b01_in (m := 8) (M := 8) rfl hk (by decide), if_neg one_ne, if_neg one_ne, beyond_eq _ _ (Or.inl (by decide)), in_eq, jbd_s, jbd_s]
      by_cases hv : -1000000 ≤ a2 ∧ a2 ≤ 1000000
      · have hv2 : ¬ (a2 > 1000000 ∨ a2 < -1000000) := fun h => h.elim (fun h => absurd h (Int64.not_lt.mpr hv.2)) (fun h => absurd h (Int64.not_lt.mpr hv.1))
        rw [b01_t hv, if_neg one_ne, b01_f hv2, if_pos rfl, jgd_n _ hp4 (by decide)]
        simp only [jgd_n _ hp4 (by decide), at_eq _ (show k < 9 by omega), put_eq _ _ (show k < 9 by omega), jbd_s, jgd_in (in36 hp4 (show k < 9 by omega)), cl9 hp4 (show k < 9 by omega)]
        refine ⟨M_factor M (9 * p + k), xPoly_s X p (Polynomial_coefficients_s (xPoly X p) (vp_updL (Polynomial_coefficients (xPoly X p)) k a2)), M_factor_s M (vp_updL (M_factor M) (9 * p + k) a2), ?_, rfl, ?_⟩
        · rw [← (hR.poly hp4).2.2.1 k (by omega)]
          exact sel16 p hp4 (fun q q2 => some (Polynomial_coefficients (xPoly X q) k, xPoly_s X q2 (Polynomial_coefficients_s (xPoly X q2) (vp_updL (Polynomial_coefficients (xPoly X q2)) k a2))))
        · obtain ⟨r1, r2, r3, r4⟩ := hR.poly hp4
          refine hR.setPoly hp4 _ rfl rfl rfl rfl (fun q hq hqp => ⟨rfl, fun j hj => ?_⟩) ⟨r1, r2, fun j hj => ?_, fun j hj => ?_⟩
          · show vp_updL (M_factor M) (9 * p + k) a2 _ = _
            rw [pk_uLn (by omega)]
          · show vp_updL (Polynomial_coefficients (xPoly X p)) k a2 j = vp_updL (M_factor M) (9 * p + k) a2 _
            by_cases hjk : j = k
            · subst hjk
              rw [pk_uLs, pk_uLs]
            · rw [pk_uLn hjk, pk_uLn (by omega)]
              exact r3 j hj
          · show -1000000 ≤ (vp_updL (M_factor M) (9 * p + k) a2 (9 * p + j)).toInt ∧ (vp_updL (M_factor M) (9 * p + k) a2 (9 * p + j)).toInt ≤ 1000000
            by_cases hjk : j = k
            · subst hjk
              rw [pk_uLs]
              exact ⟨by have := Int64.le_iff_toInt_le.mp hv.1; exact this, by have := Int64.le_iff_toInt_le.mp hv.2; exact this⟩
            · rw [pk_uLn (by omega)]
              exact r4 j hj
      · have hv2 : a2 > 1000000 ∨ a2 < -1000000 := by
          by_cases h : a2 > 1000000
          · exact Or.inl h
          · exact Or.inr (Int64.not_le.mp (fun h2 => hv ⟨h2, Int64.not_lt.mp h⟩))
        rw [b01_f hv, if_pos rfl, b01_t hv2, if_neg one_ne]
        exact ⟨_, X, M, rfl, rfl, hR⟩
    · rw [b01_f hbad, if_pos rfl, if_pos rfl]
      exact ⟨_, X, M, rfl, rfl, hR⟩
  · rw [b01_f hbad, if_pos rfl, if_pos rfl]
    exact ⟨_, X, M, rfl, rfl, hR⟩
theorem cg2 {a b c d : Int32} (h1 : a = b) (h2 : c = d) : a + c = b + d := by rw [h1, h2]
/-! count -/
def cntU (c : Nat → Int64) : Nat → Int32
  | 0 => 0
  | j + 1 => cntU c j + (if c j = 0 then 0 else 1)
theorem inUse_loop (w : PolynomialS) : ∀ (i j n : Nat), i + j = 9 → i < n → f_X8_inUse_4 n (cntU (Polynomial_coefficients w) j) (nI j) w = some (cntU (Polynomial_coefficients w) 9) := by
  intro i
  induction i with
  | zero =>
    intro j n hj hn
    obtain ⟨n, rfl⟩ : ∃ m, n = m + 1 := ⟨n - 1, by omega⟩
    have : j = 9 := by omega
    subst this
    rw [f_X8_inUse_4, if_pos (by decide)]
  | succ i ih =>
    intro j n hj hn
    obtain ⟨n, rfl⟩ : ∃ m, n = m + 1 := ⟨n - 1, by omega⟩
    have e : nI j + (1 : Int32) = nI (j + 1) := nI_1 j
    rw [f_X8_inUse_4, if_neg (by show ¬ nI 8 < nI j; exact nI_nlt (by omega) (by decide)), jgd_n _ (show j < 9 by omega) (by decide), nI_clamp (by omega)]
    unfold f_X8_inUse_24
    have := ih (j + 1) n (by omega) (by omega)
    by_cases h : Polynomial_coefficients w j = 0
    · rw [if_pos ((lg_eq0 _ _).mpr h), e]
      rw [show cntU (Polynomial_coefficients w) (j + 1) = cntU (Polynomial_coefficients w) j + 0 from congrArg _ (if_pos h), Int32.add_zero] at this
      exact this
    · rw [if_neg (fun e => h ((lg_eq0 _ _).mp e)), e]
      rw [show cntU (Polynomial_coefficients w) (j + 1) = cntU (Polynomial_coefficients w) j + 1 from congrArg _ (if_neg h)] at this
      exact this
theorem inUse_eq (w : PolynomialS) : f_X8_inUse w = some (cntU (Polynomial_coefficients w) 9) := inUse_loop w 9 0 1000000 (by decide) (by decide)
theorem cntM_loop (M : MS) : ∀ (i j n : Nat), i + j = 36 → i < n → f_X12_count_63 n (cntU (M_factor M) j) (nI j) M = some (cntU (M_factor M) 36) := by
  intro i
  induction i with
  | zero =>
    intro j n hj hn
    obtain ⟨n, rfl⟩ : ∃ m, n = m + 1 := ⟨n - 1, by omega⟩
    have : j = 36 := by omega
    subst this
    rw [f_X12_count_63, if_pos (by decide)]
  | succ i ih =>
    intro j n hj hn
    obtain ⟨n, rfl⟩ : ∃ m, n = m + 1 := ⟨n - 1, by omega⟩
    have e : nI j + (1 : Int32) = nI (j + 1) := nI_1 j
    rw [f_X12_count_63, if_neg (ge_lit (m := 36) (M := 36) rfl (show j < 36 by omega) (by decide)), jgd_n _ (show j < 36 by omega) (by decide), nI_clamp (by omega)]
    unfold f_X12_count_86
    have := ih (j + 1) n (by omega) (by omega)
    by_cases h : M_factor M j = 0
    · rw [if_pos ((lg_eq0 _ _).mpr h), e]
      rw [show cntU (M_factor M) (j + 1) = cntU (M_factor M) j + 0 from congrArg _ (if_pos h)] at this
      exact this
    · rw [if_neg (fun e => h ((lg_eq0 _ _).mp e)), e]
      rw [show cntU (M_factor M) (j + 1) = cntU (M_factor M) j + 1 from congrArg _ (if_neg h)] at this
      exact this
theorem cntU_add (c : Nat → Int64) (a : Nat) : ∀ b, cntU c (a + b) = cntU c a + cntU (fun k => c (a + k)) b
  | 0 => (Int32.add_zero _).symm
  | b + 1 => by
    show cntU c (a + b) + _ = cntU c a + (cntU (fun k => c (a + k)) b + _)
    rw [cntU_add c a b, Int32.add_assoc]
    rfl
theorem cntU_congr {c d : Nat → Int64} : ∀ {n : Nat}, (∀ k, k < n → c k = d k) → cntU c n = cntU d n
  | 0, _ => rfl
  | n + 1, h => by
    show cntU c n + _ = cntU d n + _
    rw [cntU_congr (fun k hk => h k (by omega)), h n (by omega)]
theorem itemsX (X : XS) : f_X11_itemsOfLaws X = some ((((0 + Law_items (X_law0 X)) + Law_items (X_law1 X)) + Law_items (X_law2 X)) + Law_items (X_law3 X)) := by
  unfold f_X11_itemsOfLaws
  rfl
theorem inUseX (X : XS) : f_X11_coefficientsInUse X = some ((((0 + cntU (Polynomial_coefficients (X_poly0 X)) 9) + cntU (Polynomial_coefficients (X_poly1 X)) 9) + cntU (Polynomial_coefficients (X_poly2 X)) 9) + cntU (Polynomial_coefficients (X_poly3 X)) 9) := by
  unfold f_X11_coefficientsInUse
  have e0 : (jFU : Nat) = 999995 + 1 + 1 + 1 + 1 + 1 := rfl
  rw [e0, f_X11_coefficientsInUse_4, if_neg (by decide), jgd_in (by unfold vp_in; decide), if_pos rfl, inUse_eq, jbd_s]
  rw [f_X11_coefficientsInUse_4, if_neg (by decide), jgd_in (by unfold vp_in; decide), if_neg (by decide), if_pos (by decide), inUse_eq, jbd_s]
  rw [f_X11_coefficientsInUse_4, if_neg (by decide), jgd_in (by unfold vp_in; decide), if_neg (by decide), if_neg (by decide), if_pos (by decide), inUse_eq, jbd_s]
  rw [f_X11_coefficientsInUse_4, if_neg (by decide), jgd_in (by unfold vp_in; decide), if_neg (by decide), if_neg (by decide), if_neg (by decide), inUse_eq, jbd_s]
  rw [f_X11_coefficientsInUse_4, if_pos (by decide)]
theorem op_count (a0 : Int32) : oRR (f_X11_count a0) (f_X12_count a0) := by
  intro X M hR
  unfold f_X11_count f_X12_count
  by_cases h0 : a0 = 0
  · rw [if_pos h0, if_pos h0]
    obtain ⟨⟨n, h1, h2, h3, h4⟩, hr⟩ := hR
    refine ⟨nI n, ?_, ?_⟩
    · show some (Text_length (X_text X)) = _
      rw [h2]
    · rw [h3]
  · rw [if_neg h0, if_neg h0]
    by_cases h1 : a0 = 1
    · rw [if_pos h1, if_pos h1, itemsX, jbd_s]
      obtain ⟨-, ⟨l0, l1, l2, l3⟩, -⟩ := hR
      refine ⟨_, rfl, ?_⟩
      rw [l0.2.2.2.1, l1.2.2.2.1, l2.2.2.2.1, l3.2.2.2.1, Int32.zero_add]
      rfl
    · rw [if_neg h1, if_neg h1]
      by_cases h2 : a0 = 2
      · rw [if_pos h2, if_pos h2, inUseX, jbd_s]
        refine ⟨_, rfl, ?_⟩
        have e := cntM_loop M 36 0 1000000 (by decide) (by decide)
        show f_X12_count_63 1000000 0 (nI 0) M = _
        refine e.trans (congrArg some ?_)
        have g := fun p hp => cntU_congr (c := Polynomial_coefficients (xPoly X p)) (d := fun k => M_factor M (9 * p + k)) (n := 9) (fun k hk => (hR.poly (p := p) hp).2.2.1 k hk)
        have g0 := g 0 (by decide)
        have g1 := g 1 (by decide)
        have g2 := g 2 (by decide)
        have g3 := g 3 (by decide)
        have s1 := cntU_add (M_factor M) 27 9
        have s2 := cntU_add (M_factor M) 18 9
        have s3 := cntU_add (M_factor M) 9 9
        have s4 := cntU_add (M_factor M) 0 9
        show cntU (M_factor M) (27 + 9) = _
        rw [s1]
        show cntU (M_factor M) (18 + 9) + _ = _
        rw [s2]
        show cntU (M_factor M) (9 + 9) + _ + _ = _
        rw [s3]
        show cntU (M_factor M) (0 + 9) + _ + _ + _ = _
        rw [s4]
        exact cg2 (cg2 (cg2 (cg2 rfl g0.symm) g1.symm) g2.symm) g3.symm
      · rw [if_neg h2, if_neg h2]
        exact ⟨_, rfl, rfl⟩
