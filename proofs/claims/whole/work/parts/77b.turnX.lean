/-! turning, in the class -/
theorem J_neg (a : Int) : -J32 a = J32 (-a) := (Int32.ofInt_neg a).symm
theorem J_64 {v : Int} (h : -2147483648 ≤ v ∧ v < 2147483648) : (J32 v).toInt64 = E v := by rw [E_32, J_toInt h]
theorem zeroX_eq {b k : Nat} (hb : b < 4) : f_X8_zero (nI b) (nI k) = some (J32 (zf b k)) := by
  unfold f_X8_zero
  rcases (show b = 0 ∨ b = 1 ∨ b = 2 ∨ b = 3 by omega) with rfl | rfl | rfl | rfl
  · rw [if_pos (by decide)]; rfl
  · rw [if_neg (by decide), if_neg (by decide), J_nI]; rfl
  · rw [if_neg (by decide), if_pos (by decide), J_nI, J_neg]; rfl
  · rw [if_neg (by decide), if_neg (by decide), J_nI]; rfl
theorem zf_r {b k : Nat} (hk : k < 9) : -8 ≤ zf b k ∧ zf b k ≤ 8 := by
  unfold zf
  split
  · omega
  · split <;> omega
theorem mulX (w : PolynomialS) {b : Nat} (hb : b < 4) {zi : Int} (hz : -8 ≤ zi ∧ zi ≤ 8) (p : Nat → Int) : ∀ (k f : Nat) (g : Nat → Int64), k < 9 → k + 1 < f → (∀ j, j < 9 → g j = E (if k < j then mulP (zf b) zi p j else p j)) →
    ∃ g', f_X8_multiplyRoom_3 f (nI b) (J32 zi) (nI k) (Polynomial_room_s w g) = some (Polynomial_room_s w g') ∧ ∀ j, j < 9 → g' j = E (mulP (zf b) zi p j) := by
  intro k
  induction k with
  | zero =>
    intro f g hk hf hg
    obtain ⟨f, rfl⟩ : ∃ x, f = x + 1 + 1 := ⟨f - 2, by omega⟩
    have g0 := hg 0 (by omega)
    rw [if_neg (by omega)] at g0
    refine ⟨vp_updL g 0 (E (mulP (zf b) zi p 0)), ?_, fun j hj => ?_⟩
    · rw [f_X8_multiplyRoom_3, if_neg (nI_pos (by omega)), if_pos (show nI 0 ≤ 0 by decide)]
      unfold f_X8_multiplyRoom_23
      have hzf := zf_r (b := b) (k := 0) (by omega)
      rw [zeroX_eq hb, jbd_s, jgd_n _ (by omega) (by decide), jgd_n _ (by omega) (by decide), nI_clamp (by omega), show Polynomial_room (Polynomial_room_s w g) = g from rfl, g0, J_sub, J_64 (by omega), E_mul, ← E_0, E_add]
      rw [f_X8_multiplyRoom_3, if_pos (by decide)]
      rfl
    · by_cases h : j = 0
      · subst h; exact pk_uLs
      · rw [pk_uLn h, hg j hj, if_pos (by omega)]
  | succ k ih =>
    intro f g hk hf hg
    obtain ⟨f, rfl⟩ : ∃ x, f = x + 1 := ⟨f - 1, by omega⟩
    have g0 := hg k (by omega)
    have g1 := hg (k + 1) (by omega)
    rw [if_neg (by omega)] at g0 g1
    obtain ⟨g', e1, e2⟩ := ih f (vp_updL g (k + 1) (E (mulP (zf b) zi p (k + 1)))) (by omega) (by omega) (fun j hj => by
      by_cases h : j = k + 1
      · subst h; rw [pk_uLs, if_pos (by omega)]
      · rw [pk_uLn h, hg j hj]
        by_cases h3 : k < j
        · rw [if_pos h3, if_pos (by omega)]
        · rw [if_neg h3, if_neg (by omega)])
    refine ⟨g', ?_, e2⟩
    rw [f_X8_multiplyRoom_3, if_neg (nI_pos (by omega)), if_neg (nI_nle (by omega) (by omega)), nI_pred, jgd_n _ (by omega) (by decide)]
    unfold f_X8_multiplyRoom_23
    have hzf := zf_r (b := b) (k := k + 1) (by omega)
    rw [zeroX_eq hb, jbd_s, jgd_n _ (by omega) (by decide), jgd_n _ (by omega) (by decide), nI_clamp (by omega), nI_clamp (by omega), show Polynomial_room (Polynomial_room_s w g) = g from rfl, g0, g1, J_sub, J_64 (by omega), E_mul, E_add, pk_m1]
    exact e1
theorem mulX_eq (w : PolynomialS) {b : Nat} (hb : b < 4) {zi : Int} (hz : -8 ≤ zi ∧ zi ≤ 8) (p : Nat → Int) (g : Nat → Int64) (hg : ∀ j, j < 9 → g j = E (p j)) : ∃ g', f_X8_multiplyRoom (nI b) (J32 zi) (Polynomial_room_s w g) = some (Polynomial_room_s w g') ∧ ∀ j, j < 9 → g' j = E (mulP (zf b) zi p j) :=
  mulX w hb hz p 8 1000000 g (by decide) (by decide) (fun j hj => by rw [if_neg (by omega)]; exact hg j hj)
theorem turn53 (w : PolynomialS) {s b : Nat} (hs : s < 4) (hb : b < 4) (hbase : Polynomial_base w = nI s) (c : Nat → Int) (hc : ∀ k, k < 9 → (if s = 3 then Polynomial_coefficients w k / (jfac k).toInt64 else Polynomial_coefficients w k) = E (c k)) (hfac : ∀ k, k < 9 → ¬ (jfac k).toInt64 = 0) : ∀ (k f : Nat) (g : Nat → Int64), k < 9 → k + 1 < f → (∀ j, j < 9 → g j = E (horn (zf s) (zf b) c (8 - k) j)) →
    ∃ g', f_X8_findTurned_53 f (nI b) (nI k) (Polynomial_room_s w g) = f_X8_findTurned_115 (nI b) (Polynomial_room_s w g') ∧ ∀ j, j < 9 → g' j = E (horn (zf s) (zf b) c 9 j) := by
  have stp : ∀ (k f : Nat) (g : Nat → Int64), k < 9 → (∀ j, j < 9 → g j = E (horn (zf s) (zf b) c (8 - k) j)) → ∃ g', f_X8_findTurned_53 (f + 1) (nI b) (nI k) (Polynomial_room_s w g) = f_X8_findTurned_53 f (nI b) (nI k + -1) (Polynomial_room_s w g') ∧ ∀ j, j < 9 → g' j = E (horn (zf s) (zf b) c (8 - k + 1) j) := by
    intro k f g hk hg
    obtain ⟨g1, e1, e2⟩ := mulX_eq w hb (zf_r (b := s) hk) _ g hg
    have g10 := e2 0 (by omega)
    refine ⟨vp_updL g1 0 (E (horn (zf s) (zf b) c (8 - k + 1) 0)), ?_, fun j hj => ?_⟩
    · rw [f_X8_findTurned_53, if_neg (nI_pos (by omega)), show Polynomial_base (Polynomial_room_s w g) = nI s from hbase, zeroX_eq hs, jbd_s, e1, jbd_s]
      have hsum : E (mulP (zf b) (zf s k) (horn (zf s) (zf b) c (8 - k)) 0) + E (c k) = E (horn (zf s) (zf b) c (8 - k + 1) 0) := by
        rw [E_add]
        show _ = E (mulP (zf b) (zf s (8 - (8 - k))) (horn (zf s) (zf b) c (8 - k)) 0 + (if 0 = 0 then c (8 - (8 - k)) else 0))
        rw [if_pos rfl, show 8 - (8 - k) = k by omega]
      have hc' := hc k hk
      rw [show Polynomial_base (Polynomial_room_s w g1) = nI s from hbase, show Polynomial_coefficients (Polynomial_room_s w g1) = Polynomial_coefficients w from rfl, show Polynomial_room (Polynomial_room_s w g1) = g1 from rfl, show (0 : Int32) = nI 0 from rfl, jgd_n _ (by omega) (by decide), nI_clamp (by omega), nI_clamp (by omega), g10, jgd_n _ hk (by decide), jgd_n _ hk (by decide), jnzl_ne _ (hfac k hk)]
      have hi : nI s = 3 ↔ s = 3 := nI_eq (b := 3) (by omega) (by decide)
      unfold f_X8_findTurned_107
      by_cases h3 : s = 3
      · rw [if_pos (hi.mpr h3)]
        rw [if_pos h3] at hc'
        rw [hc', hsum, jgd_n _ (by omega) (by decide)]
        rfl
      · rw [if_neg (fun e => h3 (hi.mp e))]
        rw [if_neg h3] at hc'
        rw [hc', hsum, jgd_n _ (by omega) (by decide)]
        rfl
    · by_cases h : j = 0
      · subst h; exact pk_uLs
      · rw [pk_uLn h, e2 j hj]
        show _ = E (mulP (zf b) (zf s (8 - (8 - k))) (horn (zf s) (zf b) c (8 - k)) j + (if j = 0 then c (8 - (8 - k)) else 0))
        rw [if_neg h, show 8 - (8 - k) = k by omega, Int.add_zero]
  intro k
  induction k with
  | zero =>
    intro f g hk hf hg
    obtain ⟨f, rfl⟩ : ∃ x, f = x + 1 + 1 := ⟨f - 2, by omega⟩
    obtain ⟨g', e1, e2⟩ := stp 0 (f + 1) g hk hg
    refine ⟨g', ?_, e2⟩
    rw [e1, f_X8_findTurned_53, if_pos (by decide)]
  | succ k ih =>
    intro f g hk hf hg
    obtain ⟨f, rfl⟩ : ∃ x, f = x + 1 := ⟨f - 1, by omega⟩
    obtain ⟨g1, e1, e2⟩ := stp (k + 1) f g hk hg
    rw [show 8 - (k + 1) + 1 = 8 - k by omega] at e2
    obtain ⟨g', e3, e4⟩ := ih f g1 (by omega) (by omega) e2
    exact ⟨g', by rw [e1, pk_m1, e3], e4⟩
def fc (k : Nat) : Nat := [1, 1, 2, 6, 24, 120, 720, 5040, 40320].getD k 0
theorem fc_jfac : ∀ k, k < 9 → jfac k = nI (fc k) := by decide +kernel
theorem fc_r : ∀ k, k < 9 → 1 ≤ fc k ∧ fc k ≤ 40320 := by decide +kernel
theorem fc_jfacE {k : Nat} (hk : k < 9) : (jfac k).toInt64 = E (fc k) := by
  have := fc_r k hk
  rw [fc_jfac k hk, E_32, nI_toInt (by omega)]
theorem fac_ne {k : Nat} (hk : k < 9) : ¬ (jfac k).toInt64 = 0 := by
  have := fc_r k hk
  rw [fc_jfacE hk, E_ne0 (by unfold sm; omega)]; omega
theorem E_rem {v d : Int} (hv : sm v) (h1 : 0 < d) (h2 : sm d) : E v - E v / E d * E d = E (v.tmod d) := by
  have hne : E d ≠ -1 := by
    intro e
    have := congrArg Int64.toInt e
    rw [h2.t] at this
    have e2 : (-1 : Int64).toInt = -1 := by decide
    rw [e2] at this; omega
  have e1 : E v / E d = E (v.tdiv d) := by
    rw [← E_self (E v / E d), Int64.toInt_div_of_ne_right _ _ hne, hv.t, h2.t]
  rw [e1, E_mul, Int64.sub_eq_add_neg, E_neg, E_add, Int.tmod_def, Int.mul_comm]
  rfl
theorem E_quo {v d : Int} (hv : sm v) (h1 : 0 < d) (h2 : sm d) : E v / E d = E (v.tdiv d) := by
  have hne : E d ≠ -1 := by
    intro e
    have := congrArg Int64.toInt e
    rw [h2.t] at this
    have e2 : (-1 : Int64).toInt = -1 := by decide
    rw [e2] at this; omega
  rw [← E_self (E v / E d), Int64.toInt_div_of_ne_right _ _ hne, hv.t, h2.t]
theorem wholeX (w : PolynomialS) (c : Nat → Int) (hc : ∀ k, k < 9 → Polynomial_coefficients w k = E (c k) ∧ sm (c k)) : ∀ (d k f : Nat), k + d = 9 → d < f → ∃ r, f_X8_choicesAreWholeFalling_2 f (nI k) w = some r ∧ (r = 0 ∨ r = 1) ∧ (r = 1 ↔ ∀ j, k ≤ j → j < 9 → (c j).tmod (fc j) = 0) := by
  intro d
  induction d with
  | zero =>
    intro k f h1 hf
    obtain ⟨f, rfl⟩ : ∃ x, f = x + 1 := ⟨f - 1, by omega⟩
    obtain rfl : k = 9 := by omega
    refine ⟨1, ?_, Or.inr rfl, ⟨fun _ j h2 h3 => by omega, fun _ => rfl⟩⟩
    rw [f_X8_choicesAreWholeFalling_2, if_pos (by decide)]; rfl
  | succ d ih =>
    intro k f h1 hf
    obtain ⟨f, rfl⟩ : ∃ x, f = x + 1 := ⟨f - 1, by omega⟩
    obtain ⟨r, r1, r2, r3⟩ := ih (k + 1) f (by omega) (by omega)
    have hk9 : k < 9 := by omega
    obtain ⟨c1, c2⟩ := hc k hk9
    have hf1 := fc_r k hk9
    have hsm : sm (fc k : Int) := by unfold sm; omega
    have ht : sm ((c k).tmod (fc k)) := by
      have h1 := Int.tmod_lt_of_pos (c k) (show (0 : Int) < fc k by omega)
      have h2 := Int.lt_tmod_of_pos (c k) (show (0 : Int) < fc k by omega)
      unfold sm; omega
    rw [f_X8_choicesAreWholeFalling_2, if_neg (show ¬ (8 : Int32) < nI k from nI_nlt (a := 8) (by omega) (by decide)), jgd_n _ hk9 (by decide), jgd_n _ hk9 (by decide), nI_clamp (by omega), jnzl_ne _ (fac_ne hk9), fc_jfacE hk9, c1, E_rem c2 (by omega) hsm]
    by_cases h : (c k).tmod (fc k) = 0
    · rw [if_pos ((lg_eq0 _ _).mpr (by rw [h]; exact E_0)), nI_1]
      refine ⟨r, r1, r2, r3.trans ⟨fun H j h2 h3 => ?_, fun H j h2 h3 => H j (by omega) h3⟩⟩
      by_cases e : j = k
      · subst e; exact h
      · exact H j (by omega) h3
    · rw [if_neg (fun e => h ((E_ne0 ht).mp ((lg_eq0 _ _).mp e)))]
      exact ⟨0, rfl, Or.inl rfl, ⟨fun e => absurd e (by decide), fun H => absurd (H k (Nat.le_refl _) hk9) h⟩⟩
def vS (b : Nat) (R : Nat → Int) (j : Nat) : Int := if b = 3 then R j * fc j else R j
theorem b6_beyond {v : Int} (h : sm v) : f_X11_beyond (E v) (1000000 : Int64) = some (b01 (¬ (-1000000 ≤ v ∧ v ≤ 1000000))) := by
  rw [beyond_eq _ _ (Or.inl (by decide))]
  refine congrArg some (b01_iff ?_)
  have e1 : (1000000 : Int64) = E 1000000 := by decide
  rw [e1, E_neg, gt_iff_lt, E_lt (by unfold sm; omega) h, E_lt h (by unfold sm; omega)]
  omega
theorem standX (w : PolynomialS) {b : Nat} (hb : b < 4) (R : Nat → Int) (hR : ∀ j, j < 9 → sm (vS b R j)) : ∀ (d k f : Nat) (g : Nat → Int64), k + d = 9 → d < f → (∀ j, j < 9 → g j = E (if j < k then vS b R j else R j)) →
    ∃ r g', f_X8_roomMayStand_2 f (nI b) (nI k) (Polynomial_room_s w g) = some (r, Polynomial_room_s w g') ∧ (r = 0 ∨ r = 1) ∧ (r = 1 ↔ ∀ j, k ≤ j → j < 9 → -1000000 ≤ vS b R j ∧ vS b R j ≤ 1000000) ∧ (r = 1 → ∀ j, j < 9 → g' j = E (vS b R j)) := by
  intro d
  induction d with
  | zero =>
    intro k f g h1 hf hg
    obtain ⟨f, rfl⟩ : ∃ x, f = x + 1 := ⟨f - 1, by omega⟩
    obtain rfl : k = 9 := by omega
    refine ⟨1, g, ?_, Or.inr rfl, ⟨fun _ j h2 h3 => by omega, fun _ => rfl⟩, fun _ j hj => by rw [hg j hj, if_pos hj]⟩
    rw [f_X8_roomMayStand_2, if_pos (by decide)]; rfl
  | succ d ih =>
    intro k f g h1 hf hg
    obtain ⟨f, rfl⟩ : ∃ x, f = x + 1 := ⟨f - 1, by omega⟩
    have hk9 : k < 9 := by omega
    have gk := hg k hk9
    rw [if_neg (by omega)] at gk
    have hb3 : nI b = 3 ↔ b = 3 := nI_eq (b := 3) (by omega) (by decide)
    have fin : ∀ (g1 : Nat → Int64), (∀ j, j < 9 → g1 j = E (if j < k + 1 then vS b R j else R j)) → ∃ r g', f_X8_roomMayStand_28 (f_X8_roomMayStand_2 f) (nI b) (nI k) (Polynomial_room_s w g1) = some (r, Polynomial_room_s w g') ∧ (r = 0 ∨ r = 1) ∧ (r = 1 ↔ ∀ j, k ≤ j → j < 9 → -1000000 ≤ vS b R j ∧ vS b R j ≤ 1000000) ∧ (r = 1 → ∀ j, j < 9 → g' j = E (vS b R j)) := by
      intro g1 hg1
      obtain ⟨r, g', r1, r2, r3, r4⟩ := ih (k + 1) f g1 (by omega) (by omega) hg1
      have g1k := hg1 k hk9
      rw [if_pos (by omega)] at g1k
      unfold f_X8_roomMayStand_28
      rw [jgd_n _ hk9 (by decide), nI_clamp (by omega), show Polynomial_room (Polynomial_room_s w g1) = g1 from rfl, g1k, b6_beyond (hR k hk9), jbd_s]
      by_cases h : -1000000 ≤ vS b R k ∧ vS b R k ≤ 1000000
      · rw [b01_f (fun e => e h), if_pos rfl, nI_1]
        refine ⟨r, g', r1, r2, r3.trans ⟨fun H j h2 h3 => ?_, fun H j h2 h3 => H j (by omega) h3⟩, r4⟩
        by_cases e : j = k
        · subst e; exact h
        · exact H j (by omega) h3
      · rw [b01_t h, if_neg one_ne]
        exact ⟨0, g1, rfl, Or.inl rfl, ⟨fun e => absurd e (by decide), fun H => absurd (H k (Nat.le_refl _) hk9) h⟩, fun e => absurd e (by decide)⟩
    rw [f_X8_roomMayStand_2, if_neg (show ¬ (8 : Int32) < nI k from nI_nlt (a := 8) (by omega) (by decide))]
    by_cases h3 : b = 3
    · rw [if_pos (hb3.mpr h3), jgd_n _ hk9 (by decide), jgd_n _ hk9 (by decide), jgd_n _ hk9 (by decide), nI_clamp (by omega), show Polynomial_room (Polynomial_room_s w g) = g from rfl, gk, fc_jfacE hk9, E_mul]
      exact fin _ (fun j hj => by
        by_cases e : j = k
        · subst e; rw [pk_uLs, if_pos (by omega)]; unfold vS; rw [if_pos h3]
        · rw [pk_uLn e, hg j hj]
          by_cases h4 : j < k
          · rw [if_pos h4, if_pos (by omega)]
          · rw [if_neg h4, if_neg (by omega)])
    · rw [if_neg (fun e => h3 (hb3.mp e))]
      exact fin g (fun j hj => by
        rw [hg j hj]
        by_cases h4 : j < k
        · rw [if_pos h4, if_pos (by omega)]
        · rw [if_neg h4]
          by_cases e : j = k
          · subst e; rw [if_pos (by omega)]; unfold vS; rw [if_neg h3]
          · rw [if_neg (by omega)])
/-- Horner's way and the test, in the class -/
theorem found42 (w : PolynomialS) {s b : Nat} (hs : s < 4) (hb : b < 4) (hbase : Polynomial_base w = nI s) (c : Nat → Int) (hc : ∀ k, k < 9 → (if s = 3 then Polynomial_coefficients w k / (jfac k).toInt64 else Polynomial_coefficients w k) = E (c k)) (hR : ∀ j, j < 9 → sm (vS b (horn (zf s) (zf b) c 9) j)) :
    ∃ r g', f_X8_findTurned_42 (nI b) w = some (r, Polynomial_room_s w g') ∧ (r = 0 ∨ r = 1) ∧ (r = 1 ↔ ∀ j, j < 9 → -1000000 ≤ vS b (horn (zf s) (zf b) c 9) j ∧ vS b (horn (zf s) (zf b) c 9) j ≤ 1000000) ∧ (r = 1 → ∀ j, j < 9 → g' j = E (vS b (horn (zf s) (zf b) c 9) j)) := by
  unfold f_X8_findTurned_42
  obtain ⟨g0, z1, z2⟩ := fill9_eq 0 (Polynomial_room w)
  obtain ⟨g1, e1, e2⟩ := turn53 w hs hb hbase c hc (fun k hk => fac_ne hk) 8 1000000 g0 (by decide) (by decide) (fun j hj => by rw [z2 j hj]; exact E_0.symm)
  obtain ⟨r, g', r1, r2, r3, r4⟩ := standX w hb (horn (zf s) (zf b) c 9) hR 9 0 1000000 g1 (by omega) (by omega) (fun j hj => by rw [if_neg (by omega)]; exact e2 j hj)
  refine ⟨r, g', ?_, r2, r3.trans ⟨fun H j hj => H j (by omega) hj, fun H j _ hj => H j hj⟩, r4⟩
  rw [z1, jbd_s]
  refine (show _ = _ from e1).trans ?_
  unfold f_X8_findTurned_115 f_X8_roomMayStand
  rw [show (0 : Int32) = nI 0 from rfl, show jFU = 1000000 from rfl, r1, jbd_s]
  show jzb r (some (r, Polynomial_room_s w g')) = _
  rcases r2 with rfl | rfl <;> rfl
