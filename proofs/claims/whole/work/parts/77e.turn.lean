/-! both ways lead to the same numbers -/
def cX (s : Nat) (c : Nat → Int) (k : Nat) : Int := if s = 3 then (c k).tdiv (fc k) else c k
def whl (s : Nat) (c : Nat → Int) : Prop := s = 3 → ∀ j, j < 9 → (c j).tmod (fc j) = 0
theorem whl_c {c : Nat → Int} (h : whl 3 c) {k : Nat} (hk : k < 9) : c k = fc k * cX 3 c k := by
  have h1 := h rfl k hk
  rw [Int.tmod_def] at h1
  show c k = fc k * (if 3 = 3 then (c k).tdiv (fc k) else c k)
  rw [if_pos rfl]; omega
theorem fF_eq {s : Nat} (hs : s < 4) {c : Nat → Int} (hw : whl s c) {k : Nat} (hk : k < 9) : fF s c k = 40320 * horn (zf s) (zf 1) (cX s c) 9 k := by
  unfold fF
  rcases (show s = 0 ∨ s = 1 ∨ s = 2 ∨ s = 3 by omega) with rfl | rfl | rfl | rfl
  · rw [if_neg (by decide), if_neg (by decide), Int.mul_comm]; rfl
  · rw [if_pos rfl, horn11 _ hk, Int.mul_comm]; rfl
  · rw [if_neg (by decide), if_neg (by decide), Int.mul_comm]; rfl
  · rw [if_neg (by decide), if_pos rfl, show zf 3 = zf 1 from rfl, horn11 _ hk, whl_c hw hk, Int.mul_right_comm, Int.mul_comm (fc k : Int) (qc k), qc_fc k hk]
theorem gG_eq {s b : Nat} (hs : s < 4) (hb : b < 4) (hne : s ≠ b) {c : Nat → Int} (hw : whl s c) {k : Nat} (hk : k < 9) : gG s b c k = 40320 * horn (zf s) (zf b) (cX s c) 9 k := by
  unfold gG
  by_cases h : b = 1 ∨ b = 3
  · rw [if_pos h, fF_eq hs hw hk]
    rcases h with rfl | rfl <;> rfl
  · rw [if_neg h, horn_congr (fun i hi => fF_eq hs hw hi) 9 k (by omega), horn_scale]
    refine congrArg (40320 * ·) ?_
    show horn (zf 1) (zf b) (horn (zf s) (zf 1) (cX s c) 9) 9 k = horn (zf s) (zf b) (cX s c) 9 k
    rcases (show s = 0 ∨ s = 1 ∨ s = 2 ∨ s = 3 by omega) with rfl | rfl | rfl | rfl
    · obtain rfl : b = 2 := by omega
      exact comp012 _ hk
    · exact horn_congr (fun i hi => horn11 _ hi) 9 k (by omega)
    · obtain rfl : b = 0 := by omega
      exact comp210 _ hk
    · exact horn_congr (fun i hi => horn11 _ hi) 9 k (by omega)
theorem by_vS {b k : Nat} (hk : k < 9) (R : Nat → Int) : byB b k * vS b R k = 40320 * R k := by
  unfold byB vS
  by_cases h : b = 3
  · rw [if_pos h, if_pos h, Int.mul_comm (R k), ← Int.mul_assoc, qc_fc k hk]
  · rw [if_neg h, if_neg h]
def c6 (c : Nat → Int) : Prop := ∀ k, k < 9 → -1000000 ≤ c k ∧ c k ≤ 1000000
theorem cX_6 {s : Nat} {c : Nat → Int} (hc : c6 c) : c6 (cX s c) := by
  intro k hk
  have h := hc k hk
  unfold cX
  split
  · have h1 : ((c k).tdiv (fc k)).natAbs ≤ (c k).natAbs := by
      rw [Int.natAbs_tdiv]; exact Nat.div_le_self _ _
    omega
  · exact h
theorem bas3 {s : Nat} (hs : s < 4) : ∃ a : Nat, (a = 0 ∨ a = 1 ∨ a = 2) ∧ zf s = zf a := by
  rcases (show s = 0 ∨ s = 1 ∨ s = 2 ∨ s = 3 by omega) with rfl | rfl | rfl | rfl
  · exact ⟨0, Or.inl rfl, rfl⟩
  · exact ⟨1, Or.inr (Or.inl rfl), rfl⟩
  · exact ⟨2, Or.inr (Or.inr rfl), rfl⟩
  · exact ⟨1, Or.inr (Or.inl rfl), rfl⟩
theorem horn_6 {s b : Nat} (hs : s < 4) (hb : b < 4) {c : Nat → Int} {C : Int} (hC : 0 ≤ C) (hc : ∀ k, k < 9 → -C ≤ c k ∧ c k ≤ C) {k : Nat} (hk : k < 9) : -(C * 158323) ≤ horn (zf s) (zf b) c 9 k ∧ horn (zf s) (zf b) c 9 k ≤ C * 158323 := by
  obtain ⟨a, h1, h2⟩ := bas3 hs
  obtain ⟨d, h3, h4⟩ := bas3 hb
  rw [h2, h4]
  exact horn_b h1 h3 hC hc hk
theorem vS_sm {s b : Nat} (hs : s < 4) (hb : b < 4) {c : Nat → Int} (hc : c6 c) {k : Nat} (hk : k < 9) : sm (vS b (horn (zf s) (zf b) (cX s c) 9) k) := by
  have h := horn_6 hs hb (C := 1000000) (by decide) (cX_6 (s := s) hc) hk
  unfold vS sm
  split
  · have hf := fc_r k hk
    have h1 : horn (zf s) (zf b) (cX s c) 9 k * (fc k : Int) ≤ 158323000000 * (fc k : Int) := Int.mul_le_mul_of_nonneg_right (by omega) (by omega)
    have h2 : -158323000000 * (fc k : Int) ≤ horn (zf s) (zf b) (cX s c) 9 k * (fc k : Int) := Int.mul_le_mul_of_nonneg_right (by omega) (by omega)
    omega
  · omega
theorem fF_6 {c : Nat → Int} (hc : c6 c) {k : Nat} (hk : k < 9) : -40320000000 ≤ fF 3 c k ∧ fF 3 c k ≤ 40320000000 := by
  show -40320000000 ≤ (if 3 = 1 then c k * 40320 else if 3 = 3 then c k * qc k else _) ∧ (if 3 = 1 then c k * 40320 else if 3 = 3 then c k * qc k else _) ≤ 40320000000
  rw [if_neg (by decide), if_pos rfl]
  have hq := qc_r k hk
  have h := hc k hk
  have h1 : c k * qc k ≤ 1000000 * qc k := Int.mul_le_mul_of_nonneg_right h.2 (by omega)
  have h2 : -1000000 * qc k ≤ c k * qc k := Int.mul_le_mul_of_nonneg_right h.1 (by omega)
  omega
theorem gG_sm {s b : Nat} (hs : s < 4) (hb : b < 4) (hne : s ≠ b) {c : Nat → Int} (hc : c6 c) {k : Nat} (hk : k < 9) : sm (gG s b c k) := by
  by_cases h3 : s = 3
  · subst h3
    unfold gG
    split
    · have := fF_6 hc hk
      unfold sm; omega
    · have := horn_6 (s := 1) (b := b) (c := fF 3 c) (by decide) hb (C := 40320000000) (by decide) (fun i hi => fF_6 hc hi) hk
      unfold sm; omega
  · rw [gG_eq hs hb hne (fun e => absurd e h3) hk]
    have h := horn_6 hs hb (C := 1000000) (by decide) (cX_6 (s := s) hc) hk
    unfold sm; omega
theorem whole_back {b : Nat} (hb : b < 4) (hne : 3 ≠ b) {c : Nat → Int} (h : ∀ j, j < 9 → (gG 3 b c j).tmod 40320 = 0) : whl 3 c := by
  have hG : ∀ j, j < 9 → gG 3 b c j = 40320 * (gG 3 b c j).tdiv 40320 := fun j hj => by
    have := h j hj
    rw [Int.tmod_def] at this; omega
  have hF : ∀ j, j < 9 → ∃ x, fF 3 c j = 40320 * x := by
    intro j hj
    by_cases e1 : b = 1
    · subst e1
      exact ⟨_, hG j hj⟩
    · have e0 : ∀ i, i < 9 → horn (zf 1) (zf b) (fF 3 c) 9 i = 40320 * (gG 3 b c i).tdiv 40320 := fun i hi => by
        rw [← hG i hi]
        unfold gG
        rw [if_neg (by omega)]
      refine ⟨horn (zf b) (zf 1) (fun i => (gG 3 b c i).tdiv 40320) 9 j, ?_⟩
      rw [← horn_scale, ← horn_congr e0 9 j (by omega)]
      rcases (show b = 0 ∨ b = 2 by omega) with rfl | rfl
      · exact (comp101 _ hj).symm
      · exact (comp121 _ hj).symm
  intro _ j hj
  obtain ⟨x, hx⟩ := hF j hj
  have hx' : c j * qc j = 40320 * x := hx
  have hq := qc_r j hj
  rw [← qc_fc j hj, Int.mul_comm (c j), Int.mul_assoc] at hx'
  have := Int.eq_of_mul_eq_mul_left (show qc j ≠ 0 by omega) hx'
  rw [this]
  exact Int.mul_tmod_right _ _
theorem okM_vS {s b : Nat} (hs : s < 4) (hb : b < 4) (hne : s ≠ b) {c : Nat → Int} (hw : whl s c) {k : Nat} (hk : k < 9) : (gG s b c k).tmod (byB b k) = 0 ∧ (gG s b c k).tdiv (byB b k) = vS b (horn (zf s) (zf b) (cX s c) 9) k := by
  have hby := byB_r (b := b) hk
  rw [gG_eq hs hb hne hw hk, ← by_vS hk]
  exact ⟨Int.mul_tmod_right _ _, Int.mul_tdiv_cancel_left _ (by omega)⟩
theorem found_eq (w : PolynomialS) {s b : Nat} (hs : s < 4) (hb : b < 4) (hne : s ≠ b) (hbase : Polynomial_base w = nI s) {c : Nat → Int} (hc : c6 c) (hcw : ∀ k, k < 9 → Polynomial_coefficients w k = E (c k)) :
    ∃ r g, f_X8_findTurned (nI b) w = some (r, Polynomial_room_s w g) ∧ (r = 0 ∨ r = 1) ∧ (r = 1 ↔ ∀ j, j < 9 → okM b (gG s b c j) j) ∧ (r = 1 → ∀ j, j < 9 → g j = E ((gG s b c j).tdiv (byB b j))) := by
  have smc : ∀ k, k < 9 → sm (c k) := fun k hk => by have := hc k hk; unfold sm; omega
  have hbs : ¬ nI b = nI s := fun e => hne ((nI_eq (by omega) (by omega)).mp e).symm
  have hs3 : nI s = 3 ↔ s = 3 := nI_eq (b := 3) (by omega) (by decide)
  have good : whl s c → ∃ r g, f_X8_findTurned_42 (nI b) w = some (r, Polynomial_room_s w g) ∧ (r = 0 ∨ r = 1) ∧ (r = 1 ↔ ∀ j, j < 9 → okM b (gG s b c j) j) ∧ (r = 1 → ∀ j, j < 9 → g j = E ((gG s b c j).tdiv (byB b j))) := by
    intro hw
    obtain ⟨r, g, r1, r2, r3, r4⟩ := found42 w hs hb hbase (cX s c) (fun k hk => by
      unfold cX
      by_cases h : s = 3
      · have hf := fc_r k hk
        rw [if_pos h, if_pos h, hcw k hk, fc_jfacE hk, E_quo (smc k hk) (by omega) (by unfold sm; omega)]
      · rw [if_neg h, if_neg h]; exact hcw k hk) (fun j hj => vS_sm hs hb hc hj)
    refine ⟨r, g, r1, r2, r3.trans ⟨fun H j hj => ?_, fun H j hj => ?_⟩, fun hr j hj => ?_⟩
    · obtain ⟨a1, a2⟩ := okM_vS hs hb hne hw hj
      unfold okM
      rw [a2]
      exact ⟨a1, H j hj⟩
    · obtain ⟨a1, a2⟩ := okM_vS hs hb hne hw hj
      have := (H j hj).2
      rw [a2] at this
      exact this
    · rw [r4 hr j hj, (okM_vS hs hb hne hw hj).2]
  unfold f_X8_findTurned
  rw [hbase, if_neg hbs]
  by_cases h : s = 3
  · rw [if_pos (hs3.mpr h)]
    obtain ⟨r, r1, r2, r3⟩ := wholeX w c (fun k hk => ⟨hcw k hk, smc k hk⟩) 9 0 1000000 (by omega) (by omega)
    rw [show f_X8_choicesAreWholeFalling w = some r from r1, jbd_s]
    rcases r2 with rfl | rfl
    · rw [if_pos rfl]
      refine ⟨0, Polynomial_room w, rfl, Or.inl rfl, ⟨fun e => absurd e (by decide), fun H => ?_⟩, fun e => absurd e (by decide)⟩
      subst h
      have hw := whole_back hb hne (c := c) (fun j hj => by
        have := (H j hj).1
        rw [show byB b j = 40320 by unfold byB; rw [if_neg (by omega)]] at this
        exact this)
      exact r3.mpr (fun j _ hj => hw rfl j hj)
    · rw [if_neg one_ne]
      exact good (fun _ j hj => r3.mp rfl j (by omega) hj)
  · rw [if_neg (fun e => h (hs3.mp e))]
    exact good (fun e => absurd e h)
theorem turnX (X : XS) {p : Nat} (hp : p < 4) (b : Int32) (hb : 0 ≤ b ∧ b ≤ 3) : f_X11_turn (nI p) b X = jbd (f_X8_turnInto b (xPoly X p)) (fun r => if r.1 = 0 then some (-2, xPoly_s X p r.2) else jbd (f_X8_degree r.2) (fun d => some (d, xPoly_s X p r.2))) := by
  unfold f_X11_turn
  rw [isPolyX, jbd_s, b01_in (m := 3) (M := 3) rfl (by omega) (by decide), if_neg one_ne, within_eq, jbd_s, b01_t hb, if_neg one_ne, jgd_n _ hp (by decide)]
  simp only [jgd_n _ hp (by decide)]
  rcases (show p = 0 ∨ p = 1 ∨ p = 2 ∨ p = 3 by omega) with rfl | rfl | rfl | rfl <;> rfl
theorem made_factor (A : MS) (f : Nat → Int64) : M_made (M_factor_s A f) = M_made A := rfl
theorem factor_factor (A : MS) (f g : Nat → Int64) : M_factor_s (M_factor_s A f) g = M_factor_s A g := rfl
theorem factor_get (A : MS) (f : Nat → Int64) : M_factor (M_factor_s A f) = f := rfl
def tN (M : MS) (gf gm : Nat → Int64) (B : Nat → Int32) (f : Nat → Int64) : MS := M_factor_s (M_base_s (M_made_s (M_falling_s M gf) gm) B) f
theorem tN_bytes (M : MS) (gf gm : Nat → Int64) (B : Nat → Int32) (f : Nat → Int64) : M_bytes (tN M gf gm B f) = M_bytes M := rfl
theorem tN_text (M : MS) (gf gm : Nat → Int64) (B : Nat → Int32) (f : Nat → Int64) : M_text (tN M gf gm B f) = M_text M := rfl
theorem tN_law (M : MS) (gf gm : Nat → Int64) (B : Nat → Int32) (f : Nat → Int64) : M_law (tN M gf gm B f) = M_law M := rfl
theorem tN_items (M : MS) (gf gm : Nat → Int64) (B : Nat → Int32) (f : Nat → Int64) : M_items (tN M gf gm B f) = M_items M := rfl
theorem tN_base (M : MS) (gf gm : Nat → Int64) (B : Nat → Int32) (f : Nat → Int64) : M_base (tN M gf gm B f) = B := rfl
theorem tN_factor (M : MS) (gf gm : Nat → Int64) (B : Nat → Int32) (f : Nat → Int64) : M_factor (tN M gf gm B f) = f := rfl
theorem tN0_made (M : MS) (gf gm : Nat → Int64) (B : Nat → Int32) : M_made (M_base_s (M_made_s (M_falling_s M gf) gm) B) = gm := rfl
theorem tN0_base (M : MS) (gf gm : Nat → Int64) : M_base (M_made_s (M_falling_s M gf) gm) = M_base M := rfl
theorem tN0_factor (M : MS) (gf gm : Nat → Int64) (B : Nat → Int32) : M_factor (M_base_s (M_made_s (M_falling_s M gf) gm) B) = M_factor M := rfl
theorem tN0_core (M : MS) (gf gm : Nat → Int64) : core (M_made_s (M_falling_s M gf) gm) = core M := rfl
theorem turnM52 {p : Nat} (hp : p < 4) (v : Nat → Int64) : ∀ (i j n : Nat) (M : MS), i + j = 9 → i < n → (∀ k, k < 9 → M_made M k = v k) → ∃ f : Nat → Int64, f_X12_turn_52 n (nI p) (nI j) M = f_X12_turn_81 (nI p) (M_factor_s M f) ∧ (∀ k, ¬ (9 * p + j ≤ k ∧ k < 9 * p + 9) → f k = M_factor M k) ∧ (∀ k, j ≤ k → k < 9 → f (9 * p + k) = v k) := by
  intro i
  induction i with
  | zero =>
    intro j n M hj hn hv
    obtain ⟨n, rfl⟩ : ∃ m, n = m + 1 := ⟨n - 1, by omega⟩
    obtain rfl : j = 9 := by omega
    exact ⟨M_factor M, by rw [f_X12_turn_52, if_pos (by decide)]; rfl, fun _ _ => rfl, fun k h1 h2 => by omega⟩
  | succ i ih =>
    intro j n M hj hn hv
    obtain ⟨n, rfl⟩ : ∃ m, n = m + 1 := ⟨n - 1, by omega⟩
    have hj9 : j < 9 := by omega
    obtain ⟨f, h1, h2, h3⟩ := ih (j + 1) n (M_factor_s M (vp_updL (M_factor M) (9 * p + j) (v j))) (by omega) (by omega) (fun k hk => by rw [made_factor]; exact hv k hk)
    rw [factor_factor] at h1
    rw [factor_get] at h2
    refine ⟨f, ?_, fun k hk2 => ?_, fun k hk1 hk2 => ?_⟩
    · rw [f_X12_turn_52, if_neg (ge_lit (m := 9) (M := 9) rfl hj9 (by decide)), jgd_n _ hj9 (by decide), jgd_in (in36 hp hj9), cl9 hp hj9, nI_clamp (by omega), hv j hj9, nI_1]
      exact h1
    · rw [h2 k (by omega), pk_uLn (by omega)]
    · by_cases hkj : k = j
      · subst hkj
        rw [h2 _ (by omega), pk_uLs]
      · exact h3 k (by omega) hk2
/-- the numbers of a polynomial, as such -/
theorem RPoly.c {p : Nat} {w : PolynomialS} {M : MS} (h : RPoly p w M) : ∃ c : Nat → Int, c6 c ∧ (∀ k, k < 9 → Polynomial_coefficients w k = E (c k)) ∧ ∀ k, k < 9 → M_factor M (9 * p + k) = E (c k) :=
  ⟨fun k => (M_factor M (9 * p + k)).toInt, fun k hk => h.2.2.2 k hk, fun k hk => by rw [E_self]; exact h.2.2.1 k hk, fun k _ => (E_self _).symm⟩
/-- only the room has changed -/
theorem Rel.room {X : XS} {M : MS} (h : Rel X M) {p : Nat} (hp : p < 4) (g : Nat → Int64) : Rel (xPoly_s X p (Polynomial_room_s (xPoly X p) g)) M :=
  h.setPoly hp _ rfl rfl rfl rfl (fun q hq hqp => ⟨rfl, fun k hk => rfl⟩) (h.poly hp)
theorem deg_E {w : PolynomialS} {M : MS} {p : Nat} (h : RPoly p w M) : degU (Polynomial_coefficients w) 9 = degU (fun k => M_factor M (9 * p + k)) 9 := h.deg
theorem cpy9 {f g : Nat → Int64} {k : Nat} (hk : k < 9) : va_cpy f g (Int32.toNatClampNeg (0 : Int32)) (Int32.toNatClampNeg (0 : Int32)) (Int32.toNatClampNeg (9 : Int32)) k = f k := by
  rw [show Int32.toNatClampNeg (0 : Int32) = 0 by decide, show Int32.toNatClampNeg (9 : Int32) = 9 by decide, pk_cpy_in (by omega) (by omega)]
  rw [show 0 + (k - 0) = k by omega]
theorem op_turn (a0 : Int32) (a1 : Int32) : oWW (f_X11_turn a0 a1) (f_X12_turn a0 a1) := by
  intro X M hR
  rcases rng (x := a0) (M := 3) (m := 3) (by decide) with ⟨p, hp, rfl⟩ | hbad
  · have hp4 : p < 4 := by omega
    by_cases hb : 0 ≤ a1 ∧ a1 ≤ 3
    · obtain ⟨b, hb3, rfl⟩ := nI_of2 (M := 3) (n := 3) (by decide) (Int32.not_lt.mpr hb.1) hb.2
      have hb4 : b < 4 := by omega
      have hP := hR.poly hp4
      obtain ⟨c, hc, hcw, hcM⟩ := hP.c
      obtain ⟨s, hs, hsM⟩ := hP.2.1
      have hsw : Polynomial_base (xPoly X p) = nI s := hP.1.trans hsM
      have hM : f_X12_turn (nI p) (nI b) M = (if nI b = nI s then f_X12_turn_81 (nI p) M else jbd (f_X12_areMade (nI p) (nI b) M) (fun r34 => if r34.1 = 0 then some ((-2 : Int32), r34.2) else f_X12_turn_52 jFU (nI p) (0 : Int32) (M_base_s r34.2 (upd (M_base r34.2) p (nI b))))) := by
        unfold f_X12_turn
        rw [isPolyM, jbd_s, b01_in (m := 3) (M := 3) rfl hp (by decide), if_neg one_ne, inI _ 3 3 (by decide), jbd_s, b01_t hb, if_neg one_ne, jgd_n _ hp4 (by decide), nI_clamp (by omega), hsM]
        simp only [jgd_n _ hp4 (by decide)]
      rw [turnX X hp4 _ hb, hM]
      unfold f_X8_turnInto
      by_cases hbs : b = s
      · subst hbs
        have e0 : f_X8_findTurned (nI b) (xPoly X p) = some (1, Polynomial_room_s (xPoly X p) (va_cpy (Polynomial_coefficients (xPoly X p)) (Polynomial_room (xPoly X p)) (Int32.toNatClampNeg (0 : Int32)) (Int32.toNatClampNeg (0 : Int32)) (Int32.toNatClampNeg (9 : Int32)))) := by
          unfold f_X8_findTurned
          rw [if_pos hsw.symm]; rfl
        rw [e0, jbd_s, if_neg one_ne, jzb_1, jbd_s, if_neg one_ne, if_pos rfl, degX_eq, jbd_s]
        unfold f_X12_turn_81
        rw [degM_eq M hp4, jbd_s]
        have hw' : RPoly p (Polynomial_base_s (Polynomial_coefficients_s (Polynomial_room_s (xPoly X p) (va_cpy (Polynomial_coefficients (xPoly X p)) (Polynomial_room (xPoly X p)) (Int32.toNatClampNeg (0 : Int32)) (Int32.toNatClampNeg (0 : Int32)) (Int32.toNatClampNeg (9 : Int32)))) (va_cpy (va_cpy (Polynomial_coefficients (xPoly X p)) (Polynomial_room (xPoly X p)) (Int32.toNatClampNeg (0 : Int32)) (Int32.toNatClampNeg (0 : Int32)) (Int32.toNatClampNeg (9 : Int32))) (Polynomial_coefficients (xPoly X p)) (Int32.toNatClampNeg (0 : Int32)) (Int32.toNatClampNeg (0 : Int32)) (Int32.toNatClampNeg (9 : Int32)))) (nI b)) M := by
          refine ⟨hsM.symm, hP.2.1, fun k hk => ?_, hP.2.2.2⟩
          show va_cpy _ _ _ _ _ k = _
          rw [cpy9 hk, cpy9 hk]
          exact hP.2.2.1 k hk
        refine ⟨_, _, M, rfl, ?_, hR.setPoly hp4 _ rfl rfl rfl rfl (fun q hq hqp => ⟨rfl, fun k hk => rfl⟩) hw'⟩
        rw [← hw'.deg]; rfl
      · have hne : s ≠ b := fun e => hbs e.symm
        obtain ⟨r, g, f1, f2, f3, f4⟩ := found_eq (xPoly X p) hs hb4 hne hsw hc hcw
        obtain ⟨r', gf, gm, m1, m2, m3, m4⟩ := areMade_eq M hp4 hs hb4 hsM c hcM (fun j hj => gG_sm hs hb4 hne hc hj)
        rw [if_neg (fun e => hbs ((nI_eq (by omega) (by omega)).mp e)), f1, jbd_s, m1, jbd_s]
        by_cases hok : ∀ j, j < 9 → okM b (gG s b c j) j
        · obtain rfl := f3.mpr hok
          obtain rfl := m3.mpr hok
          obtain ⟨f, t1, t2, t3⟩ := turnM52 hp4 (fun k => E ((gG s b c k).tdiv (byB b k))) 9 0 1000000 (M_base_s (M_made_s (M_falling_s M gf) gm) (upd (M_base M) p (nI b))) (by omega) (by omega) (fun k hk => by rw [tN0_made]; exact m4 k hk)
          rw [tN0_factor] at t2
          rw [show M_factor_s (M_base_s (M_made_s (M_falling_s M gf) gm) (upd (M_base M) p (nI b))) f = tN M gf gm (upd (M_base M) p (nI b)) f from rfl] at t1
          obtain ⟨w', hw0⟩ : ∃ w' : PolynomialS, w' = Polynomial_base_s (Polynomial_coefficients_s (Polynomial_room_s (xPoly X p) g) (va_cpy g (Polynomial_coefficients (xPoly X p)) (Int32.toNatClampNeg (0 : Int32)) (Int32.toNatClampNeg (0 : Int32)) (Int32.toNatClampNeg (9 : Int32)))) (nI b) := ⟨_, rfl⟩
          have hw1 : Polynomial_base w' = nI b := by rw [hw0]; rfl
          have hw2 : ∀ k, k < 9 → Polynomial_coefficients w' k = g k := fun k hk => by
            rw [hw0]
            show va_cpy _ _ _ _ _ k = _
            exact cpy9 hk
          obtain ⟨N, hN⟩ : ∃ N : MS, N = tN M gf gm (upd (M_base M) p (nI b)) f := ⟨_, rfl⟩
          have hNb : M_base N = upd (M_base M) p (nI b) := by rw [hN, tN_base]
          have hNf : M_factor N = f := by rw [hN, tN_factor]
          have hw' : RPoly p w' N := by
            refine ⟨?_, ⟨b, hb4, ?_⟩, fun k hk => ?_, fun k hk => ?_⟩
            · rw [hw1, hNb, pk_us]
            · rw [hNb, pk_us]
            · rw [hw2 k hk, hNf, f4 rfl k hk, t3 k (by omega) hk]
            · have h6 := (hok k hk).2
              rw [hNf, t3 k (by omega) hk, sm.t (by unfold sm; omega)]
              exact h6
          refine ⟨degU (Polynomial_coefficients w') 9, xPoly_s X p w', N, ?_, ?_, ?_⟩
          · rw [if_neg one_ne, jzb_1, jbd_s, if_neg one_ne]
            show jbd (f_X8_degree (Polynomial_base_s (Polynomial_coefficients_s (Polynomial_room_s (xPoly X p) g) (va_cpy g (Polynomial_coefficients (xPoly X p)) (Int32.toNatClampNeg (0 : Int32)) (Int32.toNatClampNeg (0 : Int32)) (Int32.toNatClampNeg (9 : Int32)))) (nI b))) (fun d => some (d, xPoly_s X p (Polynomial_base_s (Polynomial_coefficients_s (Polynomial_room_s (xPoly X p) g) (va_cpy g (Polynomial_coefficients (xPoly X p)) (Int32.toNatClampNeg (0 : Int32)) (Int32.toNatClampNeg (0 : Int32)) (Int32.toNatClampNeg (9 : Int32)))) (nI b)))) = _
            rw [← hw0, degX_eq, jbd_s]
          · rw [if_neg one_ne]
            show f_X12_turn_52 jFU (nI p) (0 : Int32) (M_base_s (M_made_s (M_falling_s M gf) gm) (upd (M_base (M_made_s (M_falling_s M gf) gm)) p (nI b))) = _
            rw [tN0_base, show jFU = 1000000 from rfl, show (0 : Int32) = nI 0 from rfl, t1, ← hN]
            unfold f_X12_turn_81
            rw [degM_eq _ hp4, jbd_s, hw'.deg]
          · refine hR.setPoly hp4 w' (by rw [hN, tN_bytes]) (by rw [hN, tN_text]) (by rw [hN, tN_law]) (by rw [hN, tN_items]) (fun q hq hqp => ⟨?_, fun k hk => ?_⟩) hw'
            · rw [hNb, pk_un hqp]
            · rw [hNf]; exact t2 _ (by omega)
        · have hr : r = 0 := by
            rcases f2 with e | e
            · exact e
            · exact absurd (f3.mp e) hok
          have hr' : r' = 0 := by
            rcases m2 with e | e
            · exact e
            · exact absurd (m3.mp e) hok
          subst hr hr'
          rw [if_pos rfl, jzb_0, jbd_s, if_pos rfl, if_pos rfl]
          exact ⟨-2, _, _, rfl, rfl, (hR.core (tN0_core M gf gm)).room hp4 g⟩
    · refine ⟨-1, X, M, ?_, ?_, hR⟩
      · unfold f_X11_turn
        rw [isPolyX, jbd_s, b01_in (m := 3) (M := 3) rfl hp (by decide), if_neg one_ne, within_eq, jbd_s, b01_f hb, if_pos rfl]
      · unfold f_X12_turn
        rw [isPolyM, jbd_s, b01_in (m := 3) (M := 3) rfl hp (by decide), if_neg one_ne, inI _ 3 3 (by decide), jbd_s, b01_f hb, if_pos rfl]
  · refine ⟨-1, X, M, ?_, ?_, hR⟩
    · unfold f_X11_turn
      rw [isPolyX, jbd_s, b01_f hbad, if_pos rfl]
    · unfold f_X12_turn
      rw [isPolyM, jbd_s, b01_f hbad, if_pos rfl]
