/-! sums of a polynomial -/
theorem degU_or (c : Nat → Int64) : ∀ n, degU c n = -4 ∨ ∃ j, j < n ∧ degU c n = nI j
  | 0 => Or.inl rfl
  | n + 1 => by
    show (if c n = 0 then degU c n else nI n) = -4 ∨ ∃ j, j < n + 1 ∧ (if c n = 0 then degU c n else nI n) = nI j
    by_cases h : c n = 0
    · rw [if_pos h]
      rcases degU_or c n with e | ⟨j, h1, h2⟩
      · exact Or.inl e
      · exact Or.inr ⟨j, by omega, h2⟩
    · rw [if_neg h]; exact Or.inr ⟨n, by omega, rfl⟩
theorem degU_8 (c : Nat → Int64) : degU c 9 = 8 ↔ ¬ c 8 = 0 := by
  show (if c 8 = 0 then degU c 8 else nI 8) = 8 ↔ _
  by_cases h : c 8 = 0
  · rw [if_pos h]
    refine ⟨fun e => ?_, fun e => absurd h e⟩
    rcases degU_or c 8 with e2 | ⟨j, h1, h2⟩
    · rw [e2] at e; exact absurd e (by decide)
    · rw [h2] at e
      have := (nI_eq (a := j) (b := 8) (by omega) (by decide)).mp e
      omega
  · rw [if_neg h]; exact ⟨fun _ => h, fun _ => rfl⟩
theorem sumX (X : XS) {p : Nat} (hp : p < 4) : f_X11_sumUp (nI p) X = jbd (f_X8_becomeSum (xPoly X p)) (fun r => if r.1 = 0 then some (-2, xPoly_s X p r.2) else jbd (f_X8_degree r.2) (fun d => some (d, xPoly_s X p r.2))) := by
  unfold f_X11_sumUp
  rw [isPolyX, jbd_s, b01_in (m := 3) (M := 3) rfl (by omega) (by decide), if_neg one_ne, jgd_n _ hp (by decide)]
  simp only [jgd_n _ hp (by decide)]
  rcases (show p = 0 ∨ p = 1 ∨ p = 2 ∨ p = 3 by omega) with rfl | rfl | rfl | rfl <;> rfl
theorem sum90 {p : Nat} (hp : p < 4) (v : Nat → Int64) : ∀ (k n : Nat) (M : MS), k < 9 → k + 1 < n → (∀ j, j < 9 → M_made M j = v j) → ∃ f : Nat → Int64, f_X12_sumUp_90 n (nI p) (nI k) M = f_X12_sumUp_127 (nI p) (M_factor_s M f) ∧ (∀ q, ¬ (9 * p ≤ q ∧ q ≤ 9 * p + k) → f q = M_factor M q) ∧ (∀ j, j ≤ k → f (9 * p + j) = if j = 0 then 0 else v (j - 1)) := by
  intro k
  induction k with
  | zero =>
    intro n M hk hn hv
    obtain ⟨n, rfl⟩ : ∃ m, n = m + 1 + 1 := ⟨n - 2, by omega⟩
    refine ⟨vp_updL (M_factor M) (9 * p + 0) 0, ?_, fun q hq => by rw [pk_uLn (by omega)], fun j hj => ?_⟩
    · rw [f_X12_sumUp_90, if_neg (nI_pos (by omega)), if_pos (show nI 0 ≤ 0 by decide)]
      unfold f_X12_sumUp_120
      rw [jgd_in (in36 hp (by omega)), cl9 hp (by omega), f_X12_sumUp_90, if_pos (by decide)]
    · obtain rfl : j = 0 := by omega
      rw [pk_uLs, if_pos rfl]
  | succ k ih =>
    intro n M hk hn hv
    obtain ⟨n, rfl⟩ : ∃ m, n = m + 1 := ⟨n - 1, by omega⟩
    obtain ⟨f, h1, h2, h3⟩ := ih n (M_factor_s M (vp_updL (M_factor M) (9 * p + (k + 1)) (v k))) (by omega) (by omega) (fun j hj => by rw [made_factor]; exact hv j hj)
    rw [factor_factor] at h1
    rw [factor_get] at h2
    refine ⟨f, ?_, fun q hq => ?_, fun j hj => ?_⟩
    · rw [f_X12_sumUp_90, if_neg (nI_pos (by omega)), if_neg (nI_nle (by omega) (by omega)), nI_pred, jgd_n _ (by omega) (by decide), nI_clamp (by omega), hv k (by omega)]
      unfold f_X12_sumUp_120
      rw [jgd_in (in36 hp (by omega)), cl9 hp (by omega), pk_m1]
      exact h1
    · rw [h2 q (by omega), pk_uLn (by omega)]
    · by_cases e : j = k + 1
      · subst e
        rw [h2 _ (by omega), pk_uLs, if_neg (by omega)]; rfl
      · exact h3 j (by omega)
theorem sum21 {p : Nat} (hp : p < 4) (M0 : MS) : ∀ (d k n : Nat) (g : Nat → Int64), k + d = 9 → d < n → (∀ j, j < k → g j = M_factor M0 (9 * p + j)) → ∃ g', f_X12_sumUp_21 n (nI p) (nI k) (M_made_s M0 g) = f_X12_sumUp_65 (nI p) (M_made_s M0 g') ∧ ∀ j, j < 9 → g' j = M_factor M0 (9 * p + j) := by
  intro d
  induction d with
  | zero =>
    intro k n g h1 hn hg
    obtain ⟨n, rfl⟩ : ∃ m, n = m + 1 := ⟨n - 1, by omega⟩
    obtain rfl : k = 9 := by omega
    exact ⟨g, by rw [f_X12_sumUp_21, if_pos (by decide)]; rfl, hg⟩
  | succ d ih =>
    intro k n g h1 hn hg
    obtain ⟨n, rfl⟩ : ∃ m, n = m + 1 := ⟨n - 1, by omega⟩
    have hk9 : k < 9 := by omega
    obtain ⟨g', e1, e2⟩ := ih (k + 1) n (vp_updL g k (M_factor M0 (9 * p + k))) (by omega) (by omega) (fun j hj => by
        by_cases h : j = k
        · subst h; exact pk_uLs
        · rw [pk_uLn h]; exact hg j (by omega))
    refine ⟨g', ?_, e2⟩
    rw [f_X12_sumUp_21, if_neg (ge_lit (m := 9) (M := 9) rfl hk9 (by decide)), jgd_in (in36 hp hk9), cl9 hp hk9, jgd_n _ hk9 (by decide), nI_clamp (by omega), show M_factor (M_made_s M0 g) = M_factor M0 from rfl, nI_1]
    exact e1
theorem cpy18 {f g : Nat → Int64} {k : Nat} (hk : k < 9) : vp_updL (va_cpy f g (Int32.toNatClampNeg (0 : Int32)) (Int32.toNatClampNeg (1 : Int32)) (Int32.toNatClampNeg (8 : Int32))) (Int32.toNatClampNeg (0 : Int32)) 0 k = if k = 0 then 0 else f (k - 1) := by
  rw [show Int32.toNatClampNeg (0 : Int32) = 0 by decide, show Int32.toNatClampNeg (1 : Int32) = 1 by decide, show Int32.toNatClampNeg (8 : Int32) = 8 by decide]
  by_cases h : k = 0
  · subst h; rw [pk_uLs, if_pos rfl]
  · rw [pk_uLn h, if_neg h, pk_cpy_in (by omega) (by omega)]
    rw [show 0 + (k - 1) = k - 1 by omega]
/-- the reference, its numbers found -/
theorem sum65 {X : XS} {M : MS} (hR : Rel X M) {p : Nat} (hp : p < 4) (gf gm : Nat → Int64) (v : Nat → Int) (hm : ∀ j, j < 9 → gm j = E (v j)) (hv : ∀ j, j < 9 → -1000000 ≤ v j ∧ v j ≤ 1000000) (h8 : v 8 = 0) (w' : PolynomialS) (hw1 : Polynomial_base w' = 3) (hw2 : ∀ k, k < 9 → Polynomial_coefficients w' k = if k = 0 then 0 else E (v (k - 1))) : ∃ N, f_X12_sumUp_65 (nI p) (M_made_s (M_falling_s M gf) gm) = some (degU (Polynomial_coefficients w') 9, N) ∧ Rel (xPoly_s X p w') N := by
  obtain ⟨f, t1, t2, t3⟩ := sum90 hp (fun k => E (v k)) 8 1000000 (M_base_s (M_made_s (M_falling_s M gf) gm) (upd (M_base M) p 3)) (by omega) (by omega) (fun k hk => by rw [tN0_made]; exact hm k hk)
  rw [tN0_factor] at t2
  rw [show M_factor_s (M_base_s (M_made_s (M_falling_s M gf) gm) (upd (M_base M) p 3)) f = tN M gf gm (upd (M_base M) p 3) f from rfl] at t1
  obtain ⟨N, hN⟩ : ∃ N : MS, N = tN M gf gm (upd (M_base M) p 3) f := ⟨_, rfl⟩
  have hNb : M_base N = upd (M_base M) p 3 := by rw [hN, tN_base]
  have hNf : M_factor N = f := by rw [hN, tN_factor]
  have hw' : RPoly p w' N := by
    refine ⟨?_, ⟨3, by decide, ?_⟩, fun k hk => ?_, fun k hk => ?_⟩
    · rw [hw1, hNb, pk_us]
    · rw [hNb, pk_us]; rfl
    · rw [hw2 k hk, hNf, t3 k (by omega)]
    · rw [hNf, t3 k (by omega)]
      split
      · decide
      · have := hv (k - 1) (by omega)
        rw [sm.t (by unfold sm; omega)]
        exact this
  refine ⟨N, ?_, ?_⟩
  · unfold f_X12_sumUp_65
    rw [show (8 : Int32) = nI 8 from rfl, jgd_n _ (by decide) (by decide), nI_clamp (by decide), show M_made (M_made_s (M_falling_s M gf) gm) = gm from rfl, hm 8 (by decide), h8, if_pos ((lg_eq0 _ _).mpr E_0), jgd_n _ hp (by decide), nI_clamp (by omega), tN0_base, show jFU = 1000000 from rfl, t1, ← hN]
    unfold f_X12_sumUp_127
    rw [degM_eq _ hp, jbd_s, hw'.deg]
  · refine hR.setPoly hp w' (by rw [hN, tN_bytes]) (by rw [hN, tN_text]) (by rw [hN, tN_law]) (by rw [hN, tN_items]) (fun q hq hqp => ⟨?_, fun k hk => ?_⟩) hw'
    · rw [hNb, pk_un hqp]
    · rw [hNf]; exact t2 _ (by omega)
theorem sum65n (M : MS) {p : Nat} (gf gm : Nat → Int64) {v : Int} (hm : gm 8 = E v) (hv : sm v) (h8 : ¬ v = 0) : f_X12_sumUp_65 (nI p) (M_made_s (M_falling_s M gf) gm) = some (-2, M_made_s (M_falling_s M gf) gm) := by
  unfold f_X12_sumUp_65
  rw [show (8 : Int32) = nI 8 from rfl, jgd_n _ (by decide) (by decide), nI_clamp (by decide), show M_made (M_made_s (M_falling_s M gf) gm) = gm from rfl, hm, if_neg (fun e => h8 ((E_ne0 hv).mp ((lg_eq0 _ _).mp e)))]
theorem g8 {s : Nat} (hs : s < 4) (h3 : s ≠ 3) (c : Nat → Int) : (gG s 3 c 8).tdiv (byB 3 8) = 40320 * c 8 := by
  rw [gG_eq hs (by decide) h3 (fun e => absurd e h3) (by decide), show byB 3 8 = 1 by decide, Int.tdiv_one]
  obtain ⟨a, h1, h2⟩ := bas3 hs
  rw [h2, show zf 3 = zf 1 from rfl, horn_top h1]
  unfold cX
  rw [if_neg h3]
theorem falling_self (M : MS) (gm : Nat → Int64) : M_made_s (M_falling_s M (M_falling M)) gm = M_made_s M gm := rfl
theorem op_sumUp (a0 : Int32) : oWW (f_X11_sumUp a0) (f_X12_sumUp a0) := by
  intro X M hR
  rcases rng (x := a0) (M := 3) (m := 3) (by decide) with ⟨p, hp, rfl⟩ | hbad
  · have hp4 : p < 4 := by omega
    have hP := hR.poly hp4
    obtain ⟨c, hc, hcw, hcM⟩ := hP.c
    obtain ⟨s, hs, hsM⟩ := hP.2.1
    have hsw : Polynomial_base (xPoly X p) = nI s := hP.1.trans hsM
    have hs3 : nI s = 3 ↔ s = 3 := nI_eq (b := 3) (by omega) (by decide)
    have hM : f_X12_sumUp (nI p) M = (if nI s = 3 then f_X12_sumUp_21 jFU (nI p) (0 : Int32) M else jbd (f_X12_areMade (nI p) (3 : Int32) M) (fun r56 => if r56.1 = 0 then some ((-2 : Int32), r56.2) else f_X12_sumUp_65 (nI p) r56.2)) := by
      unfold f_X12_sumUp
      rw [isPolyM, jbd_s, b01_in (m := 3) (M := 3) rfl hp (by decide), if_neg one_ne, jgd_n _ hp4 (by decide), nI_clamp (by omega), hsM]
    rw [sumX X hp4, hM]
    unfold f_X8_becomeSum
    rw [degX_eq, jbd_s]
    have h8w : Polynomial_coefficients (xPoly X p) 8 = E (c 8) := hcw 8 (by decide)
    have h8s := hc 8 (by decide)
    have h8m : sm (c 8) := by unfold sm; omega
    have h8e : degU (Polynomial_coefficients (xPoly X p)) 9 = 8 ↔ ¬ c 8 = 0 := by rw [degU_8, h8w, E_ne0 h8m]
    have u21 : ∀ N, f_X12_sumUp_21 jFU (nI p) (0 : Int32) N = f_X12_sumUp_21 1000000 (nI p) (nI 0) N := fun _ => rfl
    -- the reference's numbers, where the base is choices already
    obtain ⟨g3, s1, s2⟩ := sum21 hp4 M 9 0 1000000 (M_made M) (by omega) (by omega) (fun j hj => by omega)
    have s1' : f_X12_sumUp_21 jFU (nI p) (0 : Int32) M = f_X12_sumUp_65 (nI p) (M_made_s (M_falling_s M (M_falling M)) g3) := by
      rw [u21, falling_self]; exact s1
    have s2' : ∀ j, j < 9 → g3 j = E (c j) := fun j hj => (s2 j hj).trans (hcM j hj)
    by_cases z : c 8 = 0
    · rw [if_neg (fun e => (h8e.mp e) z)]
      by_cases h : s = 3
      · rw [if_pos (hs3.mpr h), s1']
        have e0 : f_X8_findTurned (3 : Int32) (xPoly X p) = some (1, Polynomial_room_s (xPoly X p) (va_cpy (Polynomial_coefficients (xPoly X p)) (Polynomial_room (xPoly X p)) (Int32.toNatClampNeg (0 : Int32)) (Int32.toNatClampNeg (0 : Int32)) (Int32.toNatClampNeg (9 : Int32)))) := by
          unfold f_X8_findTurned
          rw [if_pos (by rw [hsw, h]; rfl)]; rfl
        rw [e0, jbd_s, if_neg one_ne, show (0 : Int32) = nI 0 from rfl, jgd_n _ (by decide) (by decide), show nI 0 = (0 : Int32) from rfl, jzb_1, jbd_s, if_neg one_ne]
        obtain ⟨g, hg⟩ : ∃ g : Nat → Int64, g = va_cpy (Polynomial_coefficients (xPoly X p)) (Polynomial_room (xPoly X p)) (Int32.toNatClampNeg (0 : Int32)) (Int32.toNatClampNeg (0 : Int32)) (Int32.toNatClampNeg (9 : Int32)) := ⟨_, rfl⟩
        rw [← hg]
        have hg2 : ∀ j, j < 9 → g j = E (c j) := fun j hj => by rw [hg, cpy9 hj]; exact hcw j hj
        obtain ⟨N, n1, n2⟩ := sum65 hR hp4 (M_falling M) g3 c s2' hc z (Polynomial_base_s (Polynomial_coefficients_s (Polynomial_coefficients_s (Polynomial_room_s (xPoly X p) g) (va_cpy g (Polynomial_coefficients (xPoly X p)) (Int32.toNatClampNeg (0 : Int32)) (Int32.toNatClampNeg (1 : Int32)) (Int32.toNatClampNeg (8 : Int32)))) (vp_updL (va_cpy g (Polynomial_coefficients (xPoly X p)) (Int32.toNatClampNeg (0 : Int32)) (Int32.toNatClampNeg (1 : Int32)) (Int32.toNatClampNeg (8 : Int32))) (Int32.toNatClampNeg (0 : Int32)) 0)) 3) rfl (fun k hk => by
          refine (cpy18 hk).trans ?_
          by_cases e : k = 0
          · rw [if_pos e, if_pos e]
          · rw [if_neg e, if_neg e, hg2 _ (by omega)])
        exact ⟨_, _, N, by rw [degX_eq, jbd_s]; rfl, n1, n2⟩
      · rw [if_neg (fun e => h (hs3.mp e))]
        obtain ⟨r, g, f1, f2, f3, f4⟩ := found_eq (xPoly X p) hs (show 3 < 4 by decide) h hsw hc hcw
        obtain ⟨r', gf, gm, m1, m2, m3, m4⟩ := areMade_eq M hp4 hs (show 3 < 4 by decide) hsM c hcM (fun j hj => gG_sm hs (by decide) h hc hj)
        rw [show f_X8_findTurned (3 : Int32) (xPoly X p) = _ from f1, jbd_s, show f_X12_areMade (nI p) (3 : Int32) M = _ from m1, jbd_s]
        by_cases hok : ∀ j, j < 9 → okM 3 (gG s 3 c j) j
        · obtain rfl := f3.mpr hok
          obtain rfl := m3.mpr hok
          rw [if_neg one_ne, show (0 : Int32) = nI 0 from rfl, jgd_n _ (by decide) (by decide), show nI 0 = (0 : Int32) from rfl, jzb_1, jbd_s, if_neg one_ne, if_neg one_ne]
          obtain ⟨N, n1, n2⟩ := sum65 hR hp4 gf gm (fun j => (gG s 3 c j).tdiv (byB 3 j)) m4 (fun j hj => (hok j hj).2) (by rw [g8 hs h, z]; rfl) (Polynomial_base_s (Polynomial_coefficients_s (Polynomial_coefficients_s (Polynomial_room_s (xPoly X p) g) (va_cpy g (Polynomial_coefficients (xPoly X p)) (Int32.toNatClampNeg (0 : Int32)) (Int32.toNatClampNeg (1 : Int32)) (Int32.toNatClampNeg (8 : Int32)))) (vp_updL (va_cpy g (Polynomial_coefficients (xPoly X p)) (Int32.toNatClampNeg (0 : Int32)) (Int32.toNatClampNeg (1 : Int32)) (Int32.toNatClampNeg (8 : Int32))) (Int32.toNatClampNeg (0 : Int32)) 0)) 3) rfl (fun k hk => by
            refine (cpy18 hk).trans ?_
            by_cases e : k = 0
            · rw [if_pos e, if_pos e]
            · rw [if_neg e, if_neg e, f4 rfl _ (by omega)])
          exact ⟨_, _, N, by rw [degX_eq, jbd_s]; rfl, n1, n2⟩
        · have hr : r = 0 := by
            rcases f2 with e | e
            · exact e
            · exact absurd (f3.mp e) hok
          have hr' : r' = 0 := by
            rcases m2 with e | e
            · exact e
            · exact absurd (m3.mp e) hok
          subst hr hr'
          rw [if_pos rfl, jzb_0, jbd_s, if_pos rfl, if_pos rfl]
          exact ⟨-2, _, _, rfl, rfl, (hR.core (tN0_core M gf gm)).room hp4 g⟩
    · rw [if_pos (h8e.mpr z), jzb_0, jbd_s, if_pos rfl]
      have stay : ∀ gf gm, Rel (xPoly_s X p (xPoly X p)) (M_made_s (M_falling_s M gf) gm) := fun gf gm => by
        have h1 := hR.core (tN0_core M gf gm)
        exact h1.setPoly hp4 _ rfl rfl rfl rfl (fun q hq hqp => ⟨rfl, fun k hk => rfl⟩) (h1.poly hp4)
      by_cases h : s = 3
      · rw [if_pos (hs3.mpr h), s1', sum65n M _ g3 (s2' 8 (by decide)) h8m z]
        exact ⟨-2, _, _, rfl, rfl, stay _ _⟩
      · rw [if_neg (fun e => h (hs3.mp e))]
        obtain ⟨r', gf, gm, m1, m2, m3, m4⟩ := areMade_eq M hp4 hs (show 3 < 4 by decide) hsM c hcM (fun j hj => gG_sm hs (by decide) h hc hj)
        rw [show f_X12_areMade (nI p) (3 : Int32) M = _ from m1, jbd_s]
        rcases m2 with rfl | rfl
        · rw [if_pos rfl]
          exact ⟨-2, _, _, rfl, rfl, stay _ _⟩
        · rw [if_neg one_ne]
          have e8 := m4 8 (by decide)
          rw [g8 hs h] at e8
          rw [sum65n M gf gm e8 (by unfold sm; omega) (by omega)]
          exact ⟨-2, _, _, rfl, rfl, stay _ _⟩
  · refine ⟨-1, X, M, ?_, ?_, hR⟩
    · unfold f_X11_sumUp
      rw [isPolyX, jbd_s, b01_f hbad, if_pos rfl]
    · unfold f_X12_sumUp
      rw [isPolyM, jbd_s, b01_f hbad, if_pos rfl]
