/-! turning, in the reference -/
theorem E_sub (a b : Int) : E a - E b = E (a - b) := by rw [Int64.sub_eq_add_neg, E_neg, E_add]; rfl
theorem nI_E {k : Nat} (h : k < 2 ^ 31) : (nI k).toInt64 = E k := by rw [E_32, nI_toInt h]
theorem nIm_E {k : Nat} (h : k < 2 ^ 30) : (-nI k).toInt64 = E (-(k : Int)) := by rw [J_nI, J_neg, J_64 (by omega)]
theorem mulMF (M0 : MS) (zi : Int) (p : Nat → Int) : ∀ (k f : Nat) (g : Nat → Int64), k < 9 → k + 1 < f → (∀ j, j < 9 → g j = E (if k < j then mulP (zf 1) zi p j else p j)) →
    ∃ g', f_X12_timesInFalling_3 f (E zi) (nI k) (M_made_s M0 g) = some (M_made_s M0 g') ∧ ∀ j, j < 9 → g' j = E (mulP (zf 1) zi p j) := by
  intro k
  induction k with
  | zero =>
    intro f g hk hf hg
    obtain ⟨f, rfl⟩ : ∃ x, f = x + 1 + 1 := ⟨f - 2, by omega⟩
    have g0 := hg 0 (by omega)
    rw [if_neg (by omega)] at g0
    refine ⟨vp_updL g 0 (E (mulP (zf 1) zi p 0)), ?_, fun j hj => ?_⟩
    · rw [f_X12_timesInFalling_3, if_neg (nI_pos (by omega)), if_pos (show nI 0 ≤ 0 by decide), jgd_n _ (by omega) (by decide)]
      unfold f_X12_timesInFalling_39
      rw [jgd_n _ (by omega) (by decide), nI_clamp (by omega), show M_made (M_made_s M0 g) = g from rfl, g0, nI_E (by omega), E_sub, E_mul, ← E_0, E_add]
      rw [f_X12_timesInFalling_3, if_pos (by decide)]
      have e : p 0 * (((0 : Nat) : Int) - zi) + 0 = mulP (zf 1) zi p 0 := by
        show _ = (if 0 = 0 then 0 else p (0 - 1)) + (zf 1 0 - zi) * p 0
        rw [if_pos rfl, Int.add_comm, Int.mul_comm]; rfl
      rw [e]
      rfl
    · by_cases h : j = 0
      · subst h; exact pk_uLs
      · rw [pk_uLn h, hg j hj, if_pos (by omega)]
  | succ k ih =>
    intro f g hk hf hg
    obtain ⟨f, rfl⟩ : ∃ x, f = x + 1 := ⟨f - 1, by omega⟩
    have g0 := hg k (by omega)
    have g1 := hg (k + 1) (by omega)
    rw [if_neg (by omega)] at g0 g1
    obtain ⟨g', e1, e2⟩ := ih f (vp_updL g (k + 1) (E (mulP (zf 1) zi p (k + 1)))) (by omega) (by omega) (fun j hj => by
      by_cases h : j = k + 1
      · subst h; rw [pk_uLs, if_pos (by omega)]
      · rw [pk_uLn h, hg j hj]
        by_cases h3 : k < j
        · rw [if_pos h3, if_pos (by omega)]
        · rw [if_neg h3, if_neg (by omega)])
    refine ⟨g', ?_, e2⟩
    rw [f_X12_timesInFalling_3, if_neg (nI_pos (by omega)), if_neg (nI_nle (by omega) (by omega)), nI_pred, jgd_n _ (by omega) (by decide), jgd_n _ (by omega) (by decide)]
    unfold f_X12_timesInFalling_39
    have e : p (k + 1) * (((k + 1 : Nat) : Int) - zi) + p k = mulP (zf 1) zi p (k + 1) := by
      show _ = (if k + 1 = 0 then 0 else p (k + 1 - 1)) + (zf 1 (k + 1) - zi) * p (k + 1)
      rw [if_neg (by omega), Int.add_comm, Int.mul_comm]; rfl
    rw [jgd_n _ (by omega) (by decide), nI_clamp (by omega), nI_clamp (by omega), show M_made (M_made_s M0 g) = g from rfl, g0, g1, nI_E (by omega), E_sub, E_mul, E_add, e, pk_m1]
    exact e1
theorem mulMF_eq (M : MS) (zi : Int) (p : Nat → Int) (hg : ∀ j, j < 9 → M_made M j = E (p j)) : ∃ g', f_X12_timesInFalling (E zi) M = some (M_made_s M g') ∧ ∀ j, j < 9 → g' j = E (mulP (zf 1) zi p j) :=
  mulMF M zi p 8 1000000 (M_made M) (by decide) (by decide) (fun j hj => by rw [if_neg (by omega)]; exact hg j hj)
theorem mulMI (M0 : MS) {b : Nat} (hb : b = 0 ∨ b = 2) (zi : Int) (p : Nat → Int) : ∀ (k f : Nat) (g : Nat → Int64), k < 9 → k + 1 < f → (∀ j, j < 9 → g j = E (if k < j then mulP (zf b) zi p j else p j)) →
    ∃ g', f_X12_timesIn_4 f (nI b) (E zi) (nI k) (M_made_s M0 g) = some (M_made_s M0 g') ∧ ∀ j, j < 9 → g' j = E (mulP (zf b) zi p j) := by
  have sel : ∀ (k f : Nat) (M : MS), k < 9 → f_X12_timesIn_4 (f + 1) (nI b) (E zi) (nI k) M = f_X12_timesIn_24 (f_X12_timesIn_4 f) (nI b) (E zi) (nI k) (E (zf b k - zi)) M := by
    intro k f M hk
    rw [f_X12_timesIn_4, if_neg (nI_pos (by omega))]
    rcases hb with rfl | rfl
    · rw [if_pos (by decide), E_neg, show zf 0 k - zi = -zi by show (0 : Int) - zi = -zi; omega]
    · rw [if_neg (by decide), nIm_E (by omega), E_sub]; rfl
  intro k
  induction k with
  | zero =>
    intro f g hk hf hg
    obtain ⟨f, rfl⟩ : ∃ x, f = x + 1 + 1 := ⟨f - 2, by omega⟩
    have g0 := hg 0 (by omega)
    rw [if_neg (by omega)] at g0
    refine ⟨vp_updL g 0 (E (mulP (zf b) zi p 0)), ?_, fun j hj => ?_⟩
    · rw [sel 0 (f + 1) _ (by omega)]
      unfold f_X12_timesIn_24 f_X12_timesIn_60
      rw [jgd_n _ (by omega) (by decide), if_pos (show nI 0 ≤ 0 by decide), jgd_n _ (by omega) (by decide), nI_clamp (by omega), show M_made (M_made_s M0 g) = g from rfl, g0, E_mul, ← E_0, E_add]
      rw [f_X12_timesIn_4, if_pos (by decide)]
      have e : p 0 * (zf b 0 - zi) + 0 = mulP (zf b) zi p 0 := by
        show _ = (if 0 = 0 then 0 else p (0 - 1)) + (zf b 0 - zi) * p 0
        rw [if_pos rfl, Int.add_comm, Int.mul_comm]
      rw [e]
      rfl
    · by_cases h : j = 0
      · subst h; exact pk_uLs
      · rw [pk_uLn h, hg j hj, if_pos (by omega)]
  | succ k ih =>
    intro f g hk hf hg
    obtain ⟨f, rfl⟩ : ∃ x, f = x + 1 := ⟨f - 1, by omega⟩
    have g0 := hg k (by omega)
    have g1 := hg (k + 1) (by omega)
    rw [if_neg (by omega)] at g0 g1
    obtain ⟨g', e1, e2⟩ := ih f (vp_updL g (k + 1) (E (mulP (zf b) zi p (k + 1)))) (by omega) (by omega) (fun j hj => by
      by_cases h : j = k + 1
      · subst h; rw [pk_uLs, if_pos (by omega)]
      · rw [pk_uLn h, hg j hj]
        by_cases h3 : k < j
        · rw [if_pos h3, if_pos (by omega)]
        · rw [if_neg h3, if_neg (by omega)])
    refine ⟨g', ?_, e2⟩
    rw [sel (k + 1) f _ (by omega)]
    unfold f_X12_timesIn_24 f_X12_timesIn_60
    have e : p (k + 1) * (zf b (k + 1) - zi) + p k = mulP (zf b) zi p (k + 1) := by
      show _ = (if k + 1 = 0 then 0 else p (k + 1 - 1)) + (zf b (k + 1) - zi) * p (k + 1)
      rw [if_neg (by omega), Int.add_comm, Int.mul_comm]; rfl
    rw [jgd_n _ (by omega) (by decide), if_neg (nI_nle (by omega) (by omega)), nI_pred, jgd_n _ (by omega) (by decide), jgd_n _ (by omega) (by decide), nI_clamp (by omega), nI_clamp (by omega), show M_made (M_made_s M0 g) = g from rfl, g0, g1, E_mul, E_add, e, pk_m1]
    exact e1
theorem mulMI_eq (M : MS) {b : Nat} (hb : b = 0 ∨ b = 2) (zi : Int) (p : Nat → Int) (hg : ∀ j, j < 9 → M_made M j = E (p j)) : ∃ g', f_X12_timesIn (nI b) (E zi) M = some (M_made_s M g') ∧ ∀ j, j < 9 → g' j = E (mulP (zf b) zi p j) :=
  mulMI M hb zi p 8 1000000 (M_made M) (by decide) (by decide) (fun j hj => by rw [if_neg (by omega)]; exact hg j hj)
theorem clearM_eq (M : MS) : ∃ g, f_X12_clearMade M = some (M_made_s M g) ∧ ∀ k, k < 9 → g k = 0 := by
  have H : ∀ (d i f : Nat) (g : Nat → Int64), i + d = 9 → d < f → (∀ k, k < i → g k = 0) → ∃ g', f_X12_clearMade_2 f (nI i) (M_made_s M g) = some (M_made_s M g') ∧ ∀ k, k < 9 → g' k = 0 := by
    intro d
    induction d with
    | zero =>
      intro i f g h1 hf hs
      obtain ⟨f, rfl⟩ : ∃ q, f = q + 1 := ⟨f - 1, by omega⟩
      obtain rfl : i = 9 := by omega
      exact ⟨g, by rw [f_X12_clearMade_2, if_pos (by decide)], hs⟩
    | succ d ih =>
      intro i f g h1 hf hs
      obtain ⟨f, rfl⟩ : ∃ q, f = q + 1 := ⟨f - 1, by omega⟩
      obtain ⟨s', e1, e2⟩ := ih (i + 1) f (vp_updL g i 0) (by omega) (by omega) (fun k hk => by
        by_cases h : k = i
        · subst h; exact pk_uLs
        · rw [pk_uLn h]; exact hs k (by omega))
      refine ⟨s', ?_, e2⟩
      rw [f_X12_clearMade_2, if_neg (ge_lit (m := 9) (M := 9) rfl (show i < 9 by omega) (by decide)), jgd_n _ (by omega) (by decide), nI_clamp (by omega), nI_1]
      exact e1
  exact H 9 0 1000000 (M_made M) (by omega) (by omega) (fun k hk => by omega)
theorem steps_eq : ∀ k, k < 9 → f_X12_steps (nI k) = some (E (fc k)) := by decide +kernel
theorem q_eq : ∀ k, k < 9 → (40320 : Int64) / E (fc k) = E ((40320 / fc k : Nat) : Int) := by decide +kernel
theorem stepsE_ne {k : Nat} (hk : k < 9) : ¬ E (fc k) = 0 := by
  have := fc_r k hk
  rw [E_ne0 (by unfold sm; omega)]; omega
def qc (k : Nat) : Int := ((40320 / fc k : Nat) : Int)
theorem qc_fc : ∀ k, k < 9 → qc k * (fc k : Int) = 40320 := by decide +kernel
theorem qc_r : ∀ k, k < 9 → 1 ≤ qc k ∧ qc k ≤ 40320 := by decide +kernel
def fF (s : Nat) (c : Nat → Int) (k : Nat) : Int := if s = 1 then c k * 40320 else if s = 3 then c k * qc k else horn (zf s) (zf 1) c 9 k * 40320
theorem fall43 (M0 : MS) {p s : Nat} (hp : p < 4) (hs : s = 1 ∨ s = 3) (hb : M_base M0 p = nI s) (c : Nat → Int) (hc : ∀ k, k < 9 → M_factor M0 (9 * p + k) = E (c k)) : ∀ (d k f : Nat) (g : Nat → Int64), k + d = 9 → d < f → (∀ j, j < k → g j = E (fF s c j)) → ∃ g', f_X12_findFalling_43 f (nI p) (nI k) (M_falling_s M0 g) = some (M_falling_s M0 g') ∧ ∀ j, j < 9 → g' j = E (fF s c j) := by
  intro d
  induction d with
  | zero =>
    intro k f g h1 hf hs
    obtain ⟨f, rfl⟩ : ∃ q, f = q + 1 := ⟨f - 1, by omega⟩
    obtain rfl : k = 9 := by omega
    exact ⟨g, by rw [f_X12_findFalling_43, if_pos (by decide)], hs⟩
  | succ d ih =>
    intro k f g h1 hf hg
    obtain ⟨f, rfl⟩ : ∃ q, f = q + 1 := ⟨f - 1, by omega⟩
    have hk9 : k < 9 := by omega
    obtain ⟨g', e1, e2⟩ := ih (k + 1) f (vp_updL g k (E (fF s c k))) (by omega) (by omega) (fun j hj => by
        by_cases h : j = k
        · subst h; exact pk_uLs
        · rw [pk_uLn h]; exact hg j (by omega))
    refine ⟨g', ?_, e2⟩
    rw [f_X12_findFalling_43, if_neg (ge_lit (m := 9) (M := 9) rfl hk9 (by decide)), jgd_in (in36 hp hk9), cl9 hp hk9, jgd_n _ hp (by decide), nI_clamp (by omega), show M_base (M_falling_s M0 g) = M_base M0 from rfl, hb, show M_factor (M_falling_s M0 g) = M_factor M0 from rfl, hc k hk9]
    unfold f_X12_findFalling_89
    rw [jgd_n _ hk9 (by decide), nI_clamp (by omega), show M_falling (M_falling_s M0 g) = g from rfl, nI_1]
    rcases hs with rfl | rfl
    · rw [if_pos (by decide), show (40320 : Int64) = E 40320 by decide, E_mul]
      exact e1
    · rw [if_neg (by decide), steps_eq k hk9, jbd_s, jnzl_ne _ (stepsE_ne hk9), q_eq k hk9, E_mul, jgd_n _ hk9 (by decide)]
      exact e1
theorem fall157 (M0 : MS) (P : Nat → Int) (hc : ∀ k, k < 9 → M_made M0 k = E (P k)) : ∀ (d k f : Nat) (g : Nat → Int64), k + d = 9 → d < f → (∀ j, j < k → g j = E (P j * 40320)) → ∃ g', f_X12_findFalling_157 f (nI k) (M_falling_s M0 g) = some (M_falling_s M0 g') ∧ ∀ j, j < 9 → g' j = E (P j * 40320) := by
  intro d
  induction d with
  | zero =>
    intro k f g h1 hf hs
    obtain ⟨f, rfl⟩ : ∃ q, f = q + 1 := ⟨f - 1, by omega⟩
    obtain rfl : k = 9 := by omega
    exact ⟨g, by rw [f_X12_findFalling_157, if_pos (by decide)], hs⟩
  | succ d ih =>
    intro k f g h1 hf hg
    obtain ⟨f, rfl⟩ : ∃ q, f = q + 1 := ⟨f - 1, by omega⟩
    have hk9 : k < 9 := by omega
    obtain ⟨g', e1, e2⟩ := ih (k + 1) f (vp_updL g k (E (P k * 40320))) (by omega) (by omega) (fun j hj => by
        by_cases h : j = k
        · subst h; exact pk_uLs
        · rw [pk_uLn h]; exact hg j (by omega))
    refine ⟨g', ?_, e2⟩
    rw [f_X12_findFalling_157, if_neg (ge_lit (m := 9) (M := 9) rfl hk9 (by decide)), jgd_n _ hk9 (by decide), jgd_n _ hk9 (by decide), nI_clamp (by omega), show M_made (M_falling_s M0 g) = M_made M0 from rfl, hc k hk9, nI_1, show (40320 : Int64) = E 40320 by decide, E_mul]
    exact e1
theorem fall105 (M0 : MS) {p s : Nat} (hp : p < 4) (hs : s = 0 ∨ s = 2) (hb : M_base M0 p = nI s) (c : Nat → Int) (hc : ∀ k, k < 9 → M_factor M0 (9 * p + k) = E (c k)) : ∀ (k f : Nat) (g : Nat → Int64), k < 9 → k + 1 < f → (∀ j, j < 9 → g j = E (horn (zf s) (zf 1) c (8 - k) j)) → ∃ g', f_X12_findFalling_105 f (nI p) (nI k) (M_made_s M0 g) = f_X12_findFalling_155 (M_made_s M0 g') ∧ ∀ j, j < 9 → g' j = E (horn (zf s) (zf 1) c 9 j) := by
  have stp : ∀ (k f : Nat) (g : Nat → Int64), k < 9 → (∀ j, j < 9 → g j = E (horn (zf s) (zf 1) c (8 - k) j)) → ∃ g', f_X12_findFalling_105 (f + 1) (nI p) (nI k) (M_made_s M0 g) = f_X12_findFalling_105 f (nI p) (nI k + -1) (M_made_s M0 g') ∧ ∀ j, j < 9 → g' j = E (horn (zf s) (zf 1) c (8 - k + 1) j) := by
    intro k f g hk hg
    obtain ⟨g1, e1, e2⟩ := mulMF_eq (M_made_s M0 g) (zf s k) _ hg
    have g10 := e2 0 (by omega)
    refine ⟨vp_updL g1 0 (E (horn (zf s) (zf 1) c (8 - k + 1) 0)), ?_, fun j hj => ?_⟩
    · have hsum : E (mulP (zf 1) (zf s k) (horn (zf s) (zf 1) c (8 - k)) 0) + E (c k) = E (horn (zf s) (zf 1) c (8 - k + 1) 0) := by
        rw [E_add]
        show _ = E (mulP (zf 1) (zf s (8 - (8 - k))) (horn (zf s) (zf 1) c (8 - k)) 0 + (if 0 = 0 then c (8 - (8 - k)) else 0))
        rw [if_pos rfl, show 8 - (8 - k) = k by omega]
      have go : f_X12_findFalling_126 (f_X12_findFalling_105 f) (nI p) (nI k) (E (zf s k)) (M_made_s M0 g) = f_X12_findFalling_105 f (nI p) (nI k + -1) (M_made_s M0 (vp_updL g1 0 (E (horn (zf s) (zf 1) c (8 - k + 1) 0)))) := by
        unfold f_X12_findFalling_126
        rw [e1, jbd_s, show (0 : Int32) = nI 0 from rfl, jgd_n _ (by omega) (by decide), jgd_in (in36 hp hk), jgd_n _ (by omega) (by decide), cl9 hp hk, nI_clamp (by omega), show M_made (M_made_s (M_made_s M0 g) g1) = g1 from rfl, show M_factor (M_made_s (M_made_s M0 g) g1) = M_factor M0 from rfl, g10, hc k hk, hsum]
        rfl
      rw [f_X12_findFalling_105, if_neg (nI_pos (by omega)), jgd_n _ hp (by decide), nI_clamp (by omega), show M_base (M_made_s M0 g) = M_base M0 from rfl, hb]
      rcases hs with rfl | rfl
      · rw [if_pos (by decide), ← E_0]; exact go
      · rw [if_neg (by decide), nIm_E (by omega)]; exact go
    · by_cases h : j = 0
      · subst h; exact pk_uLs
      · rw [pk_uLn h, e2 j hj]
        show _ = E (mulP (zf 1) (zf s (8 - (8 - k))) (horn (zf s) (zf 1) c (8 - k)) j + (if j = 0 then c (8 - (8 - k)) else 0))
        rw [if_neg h, show 8 - (8 - k) = k by omega, Int.add_zero]
  intro k
  induction k with
  | zero =>
    intro f g hk hf hg
    obtain ⟨f, rfl⟩ : ∃ x, f = x + 1 + 1 := ⟨f - 2, by omega⟩
    obtain ⟨g', e1, e2⟩ := stp 0 (f + 1) g hk hg
    refine ⟨g', ?_, e2⟩
    rw [e1, f_X12_findFalling_105, if_pos (by decide)]
  | succ k ih =>
    intro f g hk hf hg
    obtain ⟨f, rfl⟩ : ∃ x, f = x + 1 := ⟨f - 1, by omega⟩
    obtain ⟨g1, e1, e2⟩ := stp (k + 1) f g hk hg
    rw [show 8 - (k + 1) + 1 = 8 - k by omega] at e2
    obtain ⟨g', e3, e4⟩ := ih f g1 (by omega) (by omega) e2
    exact ⟨g', by rw [e1, pk_m1, e3], e4⟩
theorem fall21 (M : MS) {p s : Nat} (hp : p < 4) (hs : s < 4) (hb : M_base M p = nI s) (c : Nat → Int) (hc : ∀ k, k < 9 → M_factor M (9 * p + k) = E (c k)) : ∃ gf gm, f_X12_findFalling_21 (nI p) M = some (M_made_s (M_falling_s M gf) gm) ∧ ∀ j, j < 9 → gf j = E (fF s c j) := by
  unfold f_X12_findFalling_21
  rw [jgd_n _ hp (by decide), jgd_n _ hp (by decide), nI_clamp (by omega), hb]
  have h13 : ∀ (h : s = 1 ∨ s = 3), ∃ gf gm, f_X12_findFalling_41 (nI p) M = some (M_made_s (M_falling_s M gf) gm) ∧ ∀ j, j < 9 → gf j = E (fF s c j) := by
    intro h
    obtain ⟨g', e1, e2⟩ := fall43 M hp h hb c hc 9 0 1000000 (M_falling M) (by omega) (by omega) (fun j hj => by omega)
    exact ⟨g', M_made M, e1, e2⟩
  have h02 : ∀ (h : s = 0 ∨ s = 2), ∃ gf gm, jbd (f_X12_clearMade M) (fun r99 => f_X12_findFalling_105 jFU (nI p) (8 : Int32) r99) = some (M_made_s (M_falling_s M gf) gm) ∧ ∀ j, j < 9 → gf j = E (fF s c j) := by
    intro h
    obtain ⟨g0, z1, z2⟩ := clearM_eq M
    obtain ⟨g1, e1, e2⟩ := fall105 M hp h hb c hc 8 1000000 g0 (by decide) (by decide) (fun j hj => by rw [z2 j hj]; exact E_0.symm)
    obtain ⟨g2, e3, e4⟩ := fall157 (M_made_s M g1) (horn (zf s) (zf 1) c 9) e2 9 0 1000000 (M_falling M) (by omega) (by omega) (fun j hj => by omega)
    refine ⟨g2, g1, ?_, fun j hj => ?_⟩
    · rw [z1, jbd_s]
      exact (show _ = _ from e1).trans e3
    · rw [e4 j hj]
      unfold fF
      rw [if_neg (by omega), if_neg (by omega)]
  rcases (show s = 0 ∨ s = 1 ∨ s = 2 ∨ s = 3 by omega) with rfl | rfl | rfl | rfl
  · rw [if_neg (by decide), if_neg (by decide)]; exact h02 (Or.inl rfl)
  · rw [if_pos (by decide)]; exact h13 (Or.inl rfl)
  · rw [if_neg (by decide), if_neg (by decide)]; exact h02 (Or.inr rfl)
  · rw [if_neg (by decide), if_pos (by decide)]; exact h13 (Or.inr rfl)
theorem findFalling_eq (M : MS) {p s : Nat} (hp : p < 4) (hs : s < 4) (hb : M_base M p = nI s) (c : Nat → Int) (hc : ∀ k, k < 9 → M_factor M (9 * p + k) = E (c k)) : ∃ gf gm, f_X12_findFalling (nI p) M = some (M_made_s (M_falling_s M gf) gm) ∧ ∀ j, j < 9 → gf j = E (fF s c j) := by
  have H : ∀ (d k f : Nat) (g : Nat → Int64), k + d = 9 → d < f → ∃ gf gm, f_X12_findFalling_2 f (nI p) (nI k) (M_falling_s M g) = some (M_made_s (M_falling_s M gf) gm) ∧ ∀ j, j < 9 → gf j = E (fF s c j) := by
    intro d
    induction d with
    | zero =>
      intro k f g h1 hf
      obtain ⟨f, rfl⟩ : ∃ q, f = q + 1 := ⟨f - 1, by omega⟩
      obtain rfl : k = 9 := by omega
      obtain ⟨gf, gm, e1, e2⟩ := fall21 (M_falling_s M g) hp hs hb c hc
      exact ⟨gf, gm, by rw [f_X12_findFalling_2, if_pos (by decide)]; exact e1, e2⟩
    | succ d ih =>
      intro k f g h1 hf
      obtain ⟨f, rfl⟩ : ∃ q, f = q + 1 := ⟨f - 1, by omega⟩
      obtain ⟨gf, gm, e1, e2⟩ := ih (k + 1) f (vp_updL g k 0) (by omega) (by omega)
      refine ⟨gf, gm, ?_, e2⟩
      rw [f_X12_findFalling_2, if_neg (ge_lit (m := 9) (M := 9) rfl (show k < 9 by omega) (by decide)), jgd_n _ (by omega) (by decide), nI_clamp (by omega), nI_1]
      exact e1
  exact H 9 0 1000000 (M_falling M) (by omega) (by omega)
