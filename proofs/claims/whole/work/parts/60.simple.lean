theorem b01_in {p m : Nat} {M : Int32} (hM : nI m = M) (h : p ≤ m) (hm : m < 2 ^ 31) : b01 (0 ≤ nI p ∧ nI p ≤ M) = 1 := b01_t ⟨nI_pos' (by omega), by rw [← hM]; exact nI_le h hm⟩
theorem ge_lit {j m : Nat} {M : Int32} (hM : nI m = M) (h : j < m) (hm : m < 2 ^ 31) : ¬ M ≤ nI j := by rw [← hM]; exact nI_ge h hm
theorem one_ne : ¬ (1 : Int32) = 0 := by decide
theorem ix9 (p k : Nat) : (9 : Int32) * nI p + nI k = nI (9 * p + k) := by
  show nI 9 * nI p + nI k = _
  rw [pk_mul, nI_add]
theorem cl9 {p k : Nat} (hp : p < 4) (hk : k < 9) : Int32.toNatClampNeg ((9 : Int32) * nI p + nI k) = 9 * p + k := by rw [ix9]; exact nI_clamp (by omega)
theorem in36 {p k : Nat} (hp : p < 4) (hk : k < 9) : vp_in ((9 : Int32) * nI p + nI k) 36 := by rw [ix9]; exact vp_in_nI (by omega) (by omega)
theorem at_eq (w : PolynomialS) {k : Nat} (hk : k < 9) : f_X8_at (nI k) w = some (Polynomial_coefficients w k) := by
  unfold f_X8_at
  rw [within_eq, jbd_s, b01_in (m := 8) (M := 8) rfl (by omega) (by decide), if_neg one_ne, jgd_n _ hk (by decide), nI_clamp (by omega)]
theorem put_eq (w : PolynomialS) (v : Int64) {k : Nat} (hk : k < 9) : f_X8_put (nI k) v w = some (Polynomial_coefficients_s w (vp_updL (Polynomial_coefficients w) k v)) := by
  unfold f_X8_put
  rw [within_eq, jbd_s, b01_in (m := 8) (M := 8) rfl (by omega) (by decide), if_neg one_ne, jgd_n _ hk (by decide), nI_clamp (by omega)]
/-- one of four polynomials -/
def xPoly (X : XS) (p : Nat) : PolynomialS := match p with
  | 0 => X_poly0 X
  | 1 => X_poly1 X
  | 2 => X_poly2 X
  | _ => X_poly3 X
def xPoly_s (X : XS) (p : Nat) (w : PolynomialS) : XS := match p with
  | 0 => X_poly0_s X w
  | 1 => X_poly1_s X w
  | 2 => X_poly2_s X w
  | _ => X_poly3_s X w
theorem sel4 {α : Type} (p : Nat) (hp : p < 4) (F : Nat → α) : (if nI p = 0 then F 0 else if nI p = 1 then F 1 else if nI p = 2 then F 2 else F 3) = F p := by
  rcases (show p = 0 ∨ p = 1 ∨ p = 2 ∨ p = 3 by omega) with rfl | rfl | rfl | rfl <;> rfl
theorem Rel.poly {X : XS} {M : MS} (h : Rel X M) {p : Nat} (hp : p < 4) : RPoly p (xPoly X p) M := by
  rcases (show p = 0 ∨ p = 1 ∨ p = 2 ∨ p = 3 by omega) with rfl | rfl | rfl | rfl
  · exact h.2.2.2.1
  · exact h.2.2.2.2.1
  · exact h.2.2.2.2.2.1
  · exact h.2.2.2.2.2.2
/-- another M that is as M but for the polynomial p -/
theorem Rel.setPoly {X : XS} {M M' : MS} (h : Rel X M) {p : Nat} (hp : p < 4) (w : PolynomialS) (e1 : M_bytes M' = M_bytes M) (e2 : M_text M' = M_text M) (e3 : M_law M' = M_law M) (e4 : M_items M' = M_items M) (e5 : ∀ q, q < 4 → q ≠ p → M_base M' q = M_base M q ∧ ∀ k, k < 9 → M_factor M' (9 * q + k) = M_factor M (9 * q + k)) (hw : RPoly p w M') : Rel (xPoly_s X p w) M' := by
  have ho : ∀ (q : Nat) (v : PolynomialS), q < 4 → q ≠ p → RPoly q v M → RPoly q v M' := by
    intro q v hq hqp hv
    obtain ⟨b1, b2⟩ := e5 q hq hqp
    unfold RPoly at hv ⊢
    rw [b1]
    exact ⟨hv.1, hv.2.1, fun k hk => by rw [b2 k hk]; exact hv.2.2.1 k hk, fun k hk => by rw [b2 k hk]; exact hv.2.2.2 k hk⟩
  obtain ⟨h1, h2, h3, h4⟩ := h
  have g1 : RText (X_text X) M' := by unfold RText at h1 ⊢; rw [e1, e2]; exact h1
  have g2 : RLaw 0 (X_law0 X) M' ∧ RLaw 1 (X_law1 X) M' ∧ RLaw 2 (X_law2 X) M' ∧ RLaw 3 (X_law3 X) M' := by unfold RLaw at h2 ⊢; rw [e3, e4]; exact h2
  rcases (show p = 0 ∨ p = 1 ∨ p = 2 ∨ p = 3 by omega) with rfl | rfl | rfl | rfl
  · exact ⟨g1, g2, h3, hw, ho 1 _ (by decide) (by decide) h4.2.1, ho 2 _ (by decide) (by decide) h4.2.2.1, ho 3 _ (by decide) (by decide) h4.2.2.2⟩
  · exact ⟨g1, g2, h3, ho 0 _ (by decide) (by decide) h4.1, hw, ho 2 _ (by decide) (by decide) h4.2.2.1, ho 3 _ (by decide) (by decide) h4.2.2.2⟩
  · exact ⟨g1, g2, h3, ho 0 _ (by decide) (by decide) h4.1, ho 1 _ (by decide) (by decide) h4.2.1, hw, ho 3 _ (by decide) (by decide) h4.2.2.2⟩
  · exact ⟨g1, g2, h3, ho 0 _ (by decide) (by decide) h4.1, ho 1 _ (by decide) (by decide) h4.2.1, ho 2 _ (by decide) (by decide) h4.2.2.1, hw⟩
theorem op_coefficient (a0 : Int32) (a1 : Int32) : oRR (f_X11_coefficient a0 a1) (f_X12_coefficient a0 a1) := by
  intro X M hR
  unfold f_X11_coefficient f_X12_coefficient
  rw [isPolyX, isPolyM, jbd_s, jbd_s]
  rcases rng (x := a0) (M := 3) (m := 3) (by decide) with ⟨p, hp, rfl⟩ | hbad
  · rw [b01_in (m := 3) (M := 3) rfl hp (by decide), if_neg one_ne, if_neg one_ne, within_eq, inI a1 8 8 (by decide), jbd_s, jbd_s]
    rcases rng (x := a1) (M := 8) (m := 8) (by decide) with ⟨k, hk, rfl⟩ | hbad
    · rw [b01_in (m := 8) (M := 8) rfl hk (by decide), if_neg one_ne, if_neg one_ne, jgd_n _ (show p < 4 by omega) (by decide), jgd_in (in36 (by omega) (by omega)), cl9 (by omega) (by omega), at_eq _ (by omega), at_eq _ (by omega), at_eq _ (by omega), at_eq _ (by omega), jbd_s, jbd_s, jbd_s, jbd_s]
      refine ⟨M_factor M (9 * p + k), ?_, rfl⟩
      rw [← (hR.poly (show p < 4 by omega)).2.2.1 k (by omega)]
      exact sel4 p (by omega) (fun q => some (Polynomial_coefficients (xPoly X q) k))
    · rw [b01_f hbad, if_pos rfl, if_pos rfl]
      exact ⟨_, rfl, rfl⟩
  · rw [b01_f hbad, if_pos rfl, if_pos rfl]
    exact ⟨_, rfl, rfl⟩
/-! degrees -/
def degU (c : Nat → Int64) : Nat → Int32
  | 0 => -4
  | j + 1 => if c j = 0 then degU c j else nI j
theorem lg_eq0 (x y : Int64) : lg_cmp x y = 0 ↔ x = y := by
  unfold lg_cmp
  by_cases h1 : x > y
  · rw [if_pos h1]
    exact ⟨fun e => absurd e (by decide), fun e => absurd (e ▸ h1) Int64.lt_irrefl⟩
  · rw [if_neg h1]
    by_cases h2 : x = y
    · rw [if_pos h2]; exact ⟨fun _ => h2, fun _ => rfl⟩
    · rw [if_neg h2]; exact ⟨fun e => absurd e (by decide), fun e => absurd e h2⟩
theorem degX_loop (w : PolynomialS) : ∀ (j n : Nat), j < 9 → j < n → f_X8_degree_3 (n + 1) (nI j) w = some (degU (Polynomial_coefficients w) (j + 1)) := by
  intro j
  induction j with
  | zero =>
    intro n hj hn
    obtain ⟨n, rfl⟩ : ∃ m, n = m + 1 := ⟨n - 1, by omega⟩
    rw [f_X8_degree_3, if_neg (nI_pos (by omega)), jgd_n _ hj (by decide), nI_clamp (by omega)]
    show _ = some (if Polynomial_coefficients w 0 = 0 then -4 else nI 0)
    by_cases h : Polynomial_coefficients w 0 = 0
    · rw [if_pos ((lg_eq0 _ _).mpr h), if_pos h]
      rw [f_X8_degree_3, if_pos (by decide)]
    · rw [if_neg (fun e => h ((lg_eq0 _ _).mp e)), if_neg h]
  | succ j ih =>
    intro n hj hn
    obtain ⟨n, rfl⟩ : ∃ m, n = m + 1 := ⟨n - 1, by omega⟩
    rw [f_X8_degree_3, if_neg (nI_pos (by omega)), jgd_n _ hj (by decide), nI_clamp (by omega)]
    show _ = some (if Polynomial_coefficients w (j + 1) = 0 then degU (Polynomial_coefficients w) (j + 1) else nI (j + 1))
    by_cases h : Polynomial_coefficients w (j + 1) = 0
    · rw [if_pos ((lg_eq0 _ _).mpr h), if_pos h, pk_m1]
      exact ih n (by omega) (by omega)
    · rw [if_neg (fun e => h ((lg_eq0 _ _).mp e)), if_neg h]
theorem degX_eq (w : PolynomialS) : f_X8_degree w = some (degU (Polynomial_coefficients w) 9) := degX_loop w 8 999999 (by decide) (by decide)
theorem degM_loop (M : MS) {p : Nat} (hp : p < 4) : ∀ (i j n : Nat), i + j = 9 → i < n → f_X12_degree_5 n (nI p) (degU (fun k => M_factor M (9 * p + k)) j) (nI j) M = some (degU (fun k => M_factor M (9 * p + k)) 9) := by
  intro i
  induction i with
  | zero =>
    intro j n hj hn
    obtain ⟨n, rfl⟩ : ∃ m, n = m + 1 := ⟨n - 1, by omega⟩
    have : j = 9 := by omega
    subst this
    rw [f_X12_degree_5, if_pos (by decide)]
  | succ i ih =>
    intro j n hj hn
    obtain ⟨n, rfl⟩ : ∃ m, n = m + 1 := ⟨n - 1, by omega⟩
    rw [f_X12_degree_5, if_neg (ge_lit (m := 9) (M := 9) rfl (show j < 9 by omega) (by decide)), jgd_in (in36 hp (by omega)), cl9 hp (by omega)]
    unfold f_X12_degree_32
    have e : nI j + (1 : Int32) = nI (j + 1) := nI_1 j
    by_cases h : M_factor M (9 * p + j) = 0
    · rw [if_pos ((lg_eq0 _ _).mpr h), e]
      have := ih (j + 1) n (by omega) (by omega)
      rw [show degU (fun k => M_factor M (9 * p + k)) (j + 1) = degU (fun k => M_factor M (9 * p + k)) j from if_pos h] at this
      exact this
    · rw [if_neg (fun e => h ((lg_eq0 _ _).mp e)), e]
      have := ih (j + 1) n (by omega) (by omega)
      rw [show degU (fun k => M_factor M (9 * p + k)) (j + 1) = nI j from if_neg h] at this
      exact this
theorem degM_eq (M : MS) {p : Nat} (hp : p < 4) : f_X12_degree (nI p) M = some (degU (fun k => M_factor M (9 * p + k)) 9) := degM_loop M hp 9 0 1000000 (by decide) (by decide)
theorem degU_congr {c d : Nat → Int64} : ∀ {n : Nat}, (∀ k, k < n → c k = d k) → degU c n = degU d n
  | 0, _ => rfl
  | n + 1, h => by
    show (if c n = 0 then degU c n else nI n) = (if d n = 0 then degU d n else nI n)
    rw [h n (by omega), degU_congr (fun k hk => h k (by omega))]
theorem RPoly.deg {X : PolynomialS} {M : MS} {p : Nat} (h : RPoly p X M) : degU (Polynomial_coefficients X) 9 = degU (fun k => M_factor M (9 * p + k)) 9 := degU_congr (fun k hk => h.2.2.1 k hk)
theorem op_told (a0 : Int32) (a1 : Int32) : oRR (f_X11_told a0 a1) (f_X12_told a0 a1) := by
  intro X M hR
  unfold f_X11_told f_X12_told
  rw [isPolyX, isPolyM, jbd_s, jbd_s]
  rcases rng (x := a0) (M := 3) (m := 3) (by decide) with ⟨p, hp, rfl⟩ | hbad
  · rw [b01_in (m := 3) (M := 3) rfl hp (by decide), if_neg one_ne, if_neg one_ne, within_eq, inI a1 1 1 (by decide), jbd_s, jbd_s]
    by_cases hb : b01 (0 ≤ a1 ∧ a1 ≤ 1) = 0
    · rw [if_pos hb, if_pos hb]; exact ⟨_, rfl, rfl⟩
    · rw [if_neg hb, if_neg hb, jgd_n _ (show p < 4 by omega) (by decide), jgd_n _ (show p < 4 by omega) (by decide), jgd_n _ (show p < 4 by omega) (by decide), nI_clamp (by omega)]
      have hp4 : p < 4 := by omega
      by_cases h0 : a1 = 0
      · rw [if_pos h0, if_pos h0]
        refine ⟨M_base M p, ?_, rfl⟩
        rw [← (hR.poly hp4).1]
        exact sel4 p hp4 (fun q => some (Polynomial_base (xPoly X q)))
      · rw [if_neg h0, if_neg h0, degM_eq M hp4, jbd_s, degX_eq, degX_eq, degX_eq, degX_eq]
        refine ⟨_, ?_, rfl⟩
        rw [← (hR.poly hp4).deg]
        exact sel4 p hp4 (fun q => some (degU (Polynomial_coefficients (xPoly X q)) 9))
  · rw [b01_f hbad, if_pos rfl, if_pos rfl]
    exact ⟨_, rfl, rfl⟩
theorem beyond_eq (v m : Int64) (hm : m.toInt = 1000000 ∨ m.toInt = 100000000 ∨ m.toInt = 100000000000000000) : f_X11_beyond v m = some (b01 (v > m ∨ v < -m)) := by
  unfold f_X11_beyond f_X11_beyond_13
  by_cases h1 : 0 < lg_cmp v m
  · rw [if_pos h1, b01_t (Or.inl ((lg_cmp_gt v m).mp h1))]; rfl
  · rw [if_neg h1]
    by_cases h2 : 0 ≤ lg_cmp v (-m)
    · rw [if_pos h2, b01_f]
      · rfl
      · rintro (h | h)
        · exact h1 ((lg_cmp_gt v m).mpr h)
        · exact absurd h (Int64.not_lt.mpr ((lg_cmp_ge v (-m)).mp h2))
    · rw [if_neg h2, b01_t]
      · rfl
      · exact Or.inr (Int64.not_le.mp (fun h => h2 ((lg_cmp_ge v (-m)).mpr h)))
theorem op_wipe  : oWW (f_X11_wipe ) (f_X12_wipe ) := by
  intro X M hR
  obtain ⟨⟨n, h1, h2, h3, h4⟩, hr⟩ := hR
  refine ⟨nI n, X_text_s X (Text_length_s (X_text X) 0), M_bytes_s M 0, ?_, ?_, ?_⟩
  · show some (Text_length (X_text X), _) = _
    rw [h2]
  · show some (M_bytes M, _) = _
    rw [h3]
  · exact ⟨⟨0, by decide, rfl, rfl, fun j hj => by omega⟩, hr⟩
