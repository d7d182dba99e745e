/-! areMade, and what it has to do with the class's way -/
def gG (s b : Nat) (c : Nat → Int) (k : Nat) : Int := if b = 1 ∨ b = 3 then fF s c k else horn (zf 1) (zf b) (fF s c) 9 k
def byB (b k : Nat) : Int := if b = 3 then qc k else 40320
def okM (b : Nat) (v : Int) (k : Nat) : Prop := v.tmod (byB b k) = 0 ∧ -1000000 ≤ v.tdiv (byB b k) ∧ v.tdiv (byB b k) ≤ 1000000
theorem byB_r {b k : Nat} (hk : k < 9) : 1 ≤ byB b k ∧ byB b k ≤ 40320 := by
  unfold byB
  split
  · exact qc_r k hk
  · omega
theorem in6 (v : Int) (h : sm v) : f_X12_in (E v) (-1000000) 1000000 = some (b01 (-1000000 ≤ v ∧ v ≤ 1000000)) := by
  rw [in_eq]
  refine congrArg some (b01_iff ?_)
  rw [show (-1000000 : Int64) = E (-1000000) by decide, show (1000000 : Int64) = E 1000000 by decide, E_le (by unfold sm; omega) h, E_le h (by unfold sm; omega)]
theorem tdiv_sm {v d : Int} (hv : sm v) (hd : 1 ≤ d) : sm (v.tdiv d) := by
  have h1 : (v.tdiv d).natAbs ≤ v.natAbs := by
    rw [Int.natAbs_tdiv]; exact Nat.div_le_self _ _
  unfold sm at hv ⊢; omega
theorem made88 (M0 : MS) {b : Nat} (hb : b < 4) (G : Nat → Int) (hG : ∀ j, j < 9 → sm (G j)) : ∀ (d k f : Nat) (v3 : Int32) (g : Nat → Int64), k + d = 9 → d < f → (v3 = 0 ∨ v3 = 1) → (∀ j, j < 9 → g j = E (if j < k then (G j).tdiv (byB b j) else G j)) →
    ∃ r g', f_X12_areMade_88 f (nI b) v3 (nI k) (M_made_s M0 g) = some (r, M_made_s M0 g') ∧ (r = 0 ∨ r = 1) ∧ (r = 1 ↔ v3 = 1 ∧ ∀ j, k ≤ j → j < 9 → okM b (G j) j) ∧ ∀ j, j < 9 → g' j = E ((G j).tdiv (byB b j)) := by
  intro d
  induction d with
  | zero =>
    intro k f v3 g h1 hf h3 hg
    obtain ⟨f, rfl⟩ : ∃ x, f = x + 1 := ⟨f - 1, by omega⟩
    obtain rfl : k = 9 := by omega
    refine ⟨v3, g, ?_, h3, ⟨fun e => ⟨e, fun j h2 h3 => by omega⟩, fun e => e.1⟩, fun j hj => by rw [hg j hj, if_pos hj]⟩
    rw [f_X12_areMade_88, if_pos (by decide)]
    rcases h3 with rfl | rfl <;> rfl
  | succ d ih =>
    intro k f v3 g h1 hf h3 hg
    obtain ⟨f, rfl⟩ : ∃ x, f = x + 1 := ⟨f - 1, by omega⟩
    have hk9 : k < 9 := by omega
    have gk := hg k hk9
    rw [if_neg (by omega)] at gk
    have hby := byB_r (b := b) hk9
    have hbs : sm (byB b k) := by unfold sm; omega
    have hbn : ¬ E (byB b k) = 0 := by rw [E_ne0 hbs]; omega
    have hGk := hG k hk9
    have hq := tdiv_sm hGk hby.1
    have hg1 : ∀ j, j < 9 → vp_updL g k (E ((G k).tdiv (byB b k))) j = E (if j < k + 1 then (G j).tdiv (byB b j) else G j) := fun j hj => by
      by_cases e : j = k
      · subst e; rw [pk_uLs, if_pos (by omega)]
      · rw [pk_uLn e, hg j hj]
        by_cases h4 : j < k
        · rw [if_pos h4, if_pos (by omega)]
        · rw [if_neg h4, if_neg (by omega)]
    have fin : ∀ t0 : Int32, (t0 = 0 ∨ t0 = 1) → (t0 = 1 ↔ v3 = 1 ∧ okM b (G k) k) → ∃ r g', f_X12_areMade_187 (f_X12_areMade_88 f) (nI b) (nI k) t0 (M_made_s M0 (vp_updL g k (E ((G k).tdiv (byB b k))))) = some (r, M_made_s M0 g') ∧ (r = 0 ∨ r = 1) ∧ (r = 1 ↔ v3 = 1 ∧ ∀ j, k ≤ j → j < 9 → okM b (G j) j) ∧ ∀ j, j < 9 → g' j = E ((G j).tdiv (byB b j)) := by
      intro t0 ht ht2
      obtain ⟨r, g', r1, r2, r3, r4⟩ := ih (k + 1) f t0 _ (by omega) (by omega) ht hg1
      refine ⟨r, g', ?_, r2, ?_, r4⟩
      · unfold f_X12_areMade_187
        rw [nI_1]; exact r1
      · rw [r3, ht2]
        constructor
        · rintro ⟨⟨q1, q2⟩, q3⟩
          refine ⟨q1, fun j h2 h3 => ?_⟩
          by_cases e : j = k
          · subst e; exact q2
          · exact q3 j (by omega) h3
        · rintro ⟨q1, q2⟩
          exact ⟨⟨q1, q2 k (Nat.le_refl _) hk9⟩, fun j h2 h3 => q2 j (by omega) h3⟩
    have f141 : ∀ t0 : Int32, (t0 = 0 ∨ t0 = 1) → (t0 = 1 ↔ v3 = 1 ∧ (G k).tmod (byB b k) = 0) → ∃ r g', f_X12_areMade_141 (f_X12_areMade_88 f) (nI b) (nI k) (E (byB b k)) t0 (M_made_s M0 g) = some (r, M_made_s M0 g') ∧ (r = 0 ∨ r = 1) ∧ (r = 1 ↔ v3 = 1 ∧ ∀ j, k ≤ j → j < 9 → okM b (G j) j) ∧ ∀ j, j < 9 → g' j = E ((G j).tdiv (byB b j)) := by
      intro t0 ht ht2
      unfold f_X12_areMade_141 f_X12_areMade_186
      rw [jgd_n _ hk9 (by decide), jnzl_ne _ hbn, jgd_n _ hk9 (by decide), jgd_n _ hk9 (by decide), nI_clamp (by omega), show M_made (M_made_s M0 g) = g from rfl, gk, E_quo hGk (by omega) hbs, show M_made_s (M_made_s M0 g) (vp_updL g k (E ((G k).tdiv (byB b k)))) = M_made_s M0 (vp_updL g k (E ((G k).tdiv (byB b k)))) from rfl, show M_made (M_made_s M0 (vp_updL g k (E ((G k).tdiv (byB b k))))) k = E ((G k).tdiv (byB b k)) from pk_uLs, in6 _ hq, jbd_s]
      rcases ht with rfl | rfl
      · rw [if_pos rfl]
        exact fin 0 (Or.inl rfl) ⟨fun e => absurd e (by decide), fun e => absurd (ht2.mpr ⟨e.1, e.2.1⟩) (by decide)⟩
      · rw [if_neg one_ne]
        by_cases h : -1000000 ≤ (G k).tdiv (byB b k) ∧ (G k).tdiv (byB b k) ≤ 1000000
        · rw [b01_t h, if_neg one_ne]
          exact fin 1 (Or.inr rfl) ⟨fun _ => ⟨(ht2.mp rfl).1, (ht2.mp rfl).2, h⟩, fun _ => rfl⟩
        · rw [b01_f h, if_pos rfl]
          exact fin 0 (Or.inl rfl) ⟨fun e => absurd e (by decide), fun e => absurd e.2.2 h⟩
    have f115 : ∃ r g', f_X12_areMade_115 (f_X12_areMade_88 f) (nI b) v3 (nI k) (E (byB b k)) (M_made_s M0 g) = some (r, M_made_s M0 g') ∧ (r = 0 ∨ r = 1) ∧ (r = 1 ↔ v3 = 1 ∧ ∀ j, k ≤ j → j < 9 → okM b (G j) j) ∧ ∀ j, j < 9 → g' j = E ((G j).tdiv (byB b j)) := by
      unfold f_X12_areMade_115 f_X12_areMade_140
      rw [jgd_n _ hk9 (by decide), jnzl_ne _ hbn, nI_clamp (by omega), show M_made (M_made_s M0 g) = g from rfl, gk, E_rem hGk (by omega) hbs]
      have ht : sm ((G k).tmod (byB b k)) := by
        have h1 := Int.tmod_lt_of_pos (G k) (show (0 : Int) < byB b k by omega)
        have h2 := Int.lt_tmod_of_pos (G k) (show (0 : Int) < byB b k by omega)
        unfold sm; omega
      rcases h3 with rfl | rfl
      · rw [if_pos rfl]
        exact f141 0 (Or.inl rfl) ⟨fun e => absurd e (by decide), fun e => absurd e.1 (by decide)⟩
      · rw [if_neg one_ne]
        by_cases h : (G k).tmod (byB b k) = 0
        · rw [if_pos ((lg_eq0 _ _).mpr (by rw [h]; exact E_0))]
          exact f141 1 (Or.inr rfl) ⟨fun _ => ⟨rfl, h⟩, fun _ => rfl⟩
        · rw [if_neg (fun e => h ((E_ne0 ht).mp ((lg_eq0 _ _).mp e)))]
          exact f141 0 (Or.inl rfl) ⟨fun e => absurd e (by decide), fun e => absurd e.2 h⟩
    have hb3 : nI b = 3 ↔ b = 3 := nI_eq (b := 3) (by omega) (by decide)
    rw [f_X12_areMade_88, if_neg (ge_lit (m := 9) (M := 9) rfl hk9 (by decide))]
    by_cases h : b = 3
    · rw [if_pos (hb3.mpr h), steps_eq k hk9, jbd_s, jnzl_ne _ (stepsE_ne hk9), q_eq k hk9]
      rw [show byB b k = ((40320 / fc k : Nat) : Int) by unfold byB; rw [if_pos h]; rfl] at f115
      exact f115
    · rw [if_neg (fun e => h (hb3.mp e)), show (40320 : Int64) = E 40320 by decide]
      rw [show byB b k = 40320 by unfold byB; rw [if_neg h]] at f115
      exact f115
theorem made21 (M0 : MS) {b : Nat} (F : Nat → Int) (hF : ∀ j, j < 9 → M_falling M0 j = E (F j)) : ∀ (d k f : Nat) (g : Nat → Int64), k + d = 9 → d < f → (∀ j, j < k → g j = E (F j)) → ∃ g', f_X12_areMade_21 f (nI b) (nI k) (M_made_s M0 g) = f_X12_areMade_83 (nI b) (M_made_s M0 g') ∧ ∀ j, j < 9 → g' j = E (F j) := by
  intro d
  induction d with
  | zero =>
    intro k f g h1 hf hs
    obtain ⟨f, rfl⟩ : ∃ q, f = q + 1 := ⟨f - 1, by omega⟩
    obtain rfl : k = 9 := by omega
    exact ⟨g, by rw [f_X12_areMade_21, if_pos (by decide)]; rfl, hs⟩
  | succ d ih =>
    intro k f g h1 hf hg
    obtain ⟨f, rfl⟩ : ∃ q, f = q + 1 := ⟨f - 1, by omega⟩
    have hk9 : k < 9 := by omega
    obtain ⟨g', e1, e2⟩ := ih (k + 1) f (vp_updL g k (E (F k))) (by omega) (by omega) (fun j hj => by
        by_cases h : j = k
        · subst h; exact pk_uLs
        · rw [pk_uLn h]; exact hg j (by omega))
    refine ⟨g', ?_, e2⟩
    rw [f_X12_areMade_21, if_neg (ge_lit (m := 9) (M := 9) rfl hk9 (by decide)), jgd_n _ hk9 (by decide), jgd_n _ hk9 (by decide), nI_clamp (by omega), show M_falling (M_made_s M0 g) = M_falling M0 from rfl, hF k hk9, nI_1]
    exact e1
theorem made51 (M0 : MS) {b : Nat} (hb : b = 0 ∨ b = 2) (F : Nat → Int) (hF : ∀ j, j < 9 → M_falling M0 j = E (F j)) : ∀ (k f : Nat) (g : Nat → Int64), k < 9 → k + 1 < f → (∀ j, j < 9 → g j = E (horn (zf 1) (zf b) F (8 - k) j)) → ∃ g', f_X12_areMade_51 f (nI b) (nI k) (M_made_s M0 g) = f_X12_areMade_83 (nI b) (M_made_s M0 g') ∧ ∀ j, j < 9 → g' j = E (horn (zf 1) (zf b) F 9 j) := by
  have stp : ∀ (k f : Nat) (g : Nat → Int64), k < 9 → (∀ j, j < 9 → g j = E (horn (zf 1) (zf b) F (8 - k) j)) → ∃ g', f_X12_areMade_51 (f + 1) (nI b) (nI k) (M_made_s M0 g) = f_X12_areMade_51 f (nI b) (nI k + -1) (M_made_s M0 g') ∧ ∀ j, j < 9 → g' j = E (horn (zf 1) (zf b) F (8 - k + 1) j) := by
    intro k f g hk hg
    obtain ⟨g1, e1, e2⟩ := mulMI_eq (M_made_s M0 g) hb (zf 1 k) _ hg
    have g10 := e2 0 (by omega)
    refine ⟨vp_updL g1 0 (E (horn (zf 1) (zf b) F (8 - k + 1) 0)), ?_, fun j hj => ?_⟩
    · have hsum : E (mulP (zf b) (zf 1 k) (horn (zf 1) (zf b) F (8 - k)) 0) + E (F k) = E (horn (zf 1) (zf b) F (8 - k + 1) 0) := by
        rw [E_add]
        show _ = E (mulP (zf b) (zf 1 (8 - (8 - k))) (horn (zf 1) (zf b) F (8 - k)) 0 + (if 0 = 0 then F (8 - (8 - k)) else 0))
        rw [if_pos rfl, show 8 - (8 - k) = k by omega]
      rw [f_X12_areMade_51, if_neg (nI_pos (by omega)), nI_E (by omega), show f_X12_timesIn (nI b) (E (k : Int)) (M_made_s M0 g) = _ from e1, jbd_s, show (0 : Int32) = nI 0 from rfl, jgd_n _ (by omega) (by decide), jgd_n _ hk (by decide), jgd_n _ (by omega) (by decide), nI_clamp (by omega), nI_clamp (by omega), show M_made (M_made_s (M_made_s M0 g) g1) = g1 from rfl, show M_falling (M_made_s (M_made_s M0 g) g1) = M_falling M0 from rfl, g10, hF k hk, hsum]
      rfl
    · by_cases h : j = 0
      · subst h; exact pk_uLs
      · rw [pk_uLn h, e2 j hj]
        show _ = E (mulP (zf b) (zf 1 (8 - (8 - k))) (horn (zf 1) (zf b) F (8 - k)) j + (if j = 0 then F (8 - (8 - k)) else 0))
        rw [if_neg h, show 8 - (8 - k) = k by omega, Int.add_zero]
  intro k
  induction k with
  | zero =>
    intro f g hk hf hg
    obtain ⟨f, rfl⟩ : ∃ x, f = x + 1 + 1 := ⟨f - 2, by omega⟩
    obtain ⟨g', e1, e2⟩ := stp 0 (f + 1) g hk hg
    refine ⟨g', ?_, e2⟩
    rw [e1, f_X12_areMade_51, if_pos (by decide)]
  | succ k ih =>
    intro f g hk hf hg
    obtain ⟨f, rfl⟩ : ∃ x, f = x + 1 := ⟨f - 1, by omega⟩
    obtain ⟨g1, e1, e2⟩ := stp (k + 1) f g hk hg
    rw [show 8 - (k + 1) + 1 = 8 - k by omega] at e2
    obtain ⟨g', e3, e4⟩ := ih f g1 (by omega) (by omega) e2
    exact ⟨g', by rw [e1, pk_m1, e3], e4⟩
theorem u83 (b : Int32) (M : MS) : f_X12_areMade_83 b M = f_X12_areMade_88 1000000 b 1 (nI 0) M := rfl
theorem u19 (b : Int32) (M : MS) : f_X12_areMade_19 b M = f_X12_areMade_21 1000000 b (nI 0) M := rfl
theorem u51 (b : Int32) (M : MS) : f_X12_areMade_51 jFU b (8 : Int32) M = f_X12_areMade_51 1000000 b (nI 8) M := rfl
def amP (M0 : MS) (s b : Nat) (c : Nat → Int) (x : Option (Int32 × MS)) : Prop := ∃ r gm, x = some (r, M_made_s M0 gm) ∧ (r = 0 ∨ r = 1) ∧ (r = 1 ↔ ∀ j, j < 9 → okM b (gG s b c j) j) ∧ ∀ j, j < 9 → gm j = E ((gG s b c j).tdiv (byB b j))
theorem am83 (M0 : MS) {s b : Nat} (hb4 : b < 4) (c : Nat → Int) (hG : ∀ j, j < 9 → sm (gG s b c j)) (g1 : Nat → Int64) (hg1 : ∀ j, j < 9 → g1 j = E (gG s b c j)) : amP M0 s b c (f_X12_areMade_83 (nI b) (M_made_s M0 g1)) := by
  obtain ⟨r, g', r1, r2, r3, r4⟩ := made88 M0 hb4 (gG s b c) hG 9 0 1000000 1 g1 (by omega) (by omega) (Or.inr rfl) (fun j hj => by rw [if_neg (by omega)]; exact hg1 j hj)
  rw [u83]
  exact ⟨r, g', r1, r2, r3.trans ⟨fun H j hj => H.2 j (by omega) hj, fun H => ⟨rfl, fun j _ hj => H j hj⟩⟩, r4⟩
theorem am19 (M0 : MS) {s b : Nat} (hb4 : b < 4) (h : b = 1 ∨ b = 3) (c : Nat → Int) (hG : ∀ j, j < 9 → sm (gG s b c j)) (e2 : ∀ j, j < 9 → M_falling M0 j = E (fF s c j)) (g0 : Nat → Int64) : amP M0 s b c (f_X12_areMade_19 (nI b) (M_made_s M0 g0)) := by
  obtain ⟨g1, a1, a2⟩ := made21 M0 (b := b) (fF s c) e2 9 0 1000000 g0 (by omega) (by omega) (fun j hj => by omega)
  rw [u19, a1]
  exact am83 M0 hb4 c hG g1 (fun j hj => by rw [a2 j hj]; unfold gG; rw [if_pos h])
theorem am51 (M0 : MS) {s b : Nat} (hb4 : b < 4) (h : b = 0 ∨ b = 2) (c : Nat → Int) (hG : ∀ j, j < 9 → sm (gG s b c j)) (e2 : ∀ j, j < 9 → M_falling M0 j = E (fF s c j)) (g0 : Nat → Int64) (z2 : ∀ j, j < 9 → g0 j = 0) : amP M0 s b c (f_X12_areMade_51 jFU (nI b) (8 : Int32) (M_made_s M0 g0)) := by
  obtain ⟨g1, a1, a2⟩ := made51 M0 h (fF s c) e2 8 1000000 g0 (by decide) (by decide) (fun j hj => by rw [z2 j hj]; exact E_0.symm)
  rw [u51, a1]
  exact am83 M0 hb4 c hG g1 (fun j hj => by rw [a2 j hj]; unfold gG; rw [if_neg (by omega)])
theorem amSel (M0 : MS) {s b : Nat} (hb4 : b < 4) (c : Nat → Int) (hG : ∀ j, j < 9 → sm (gG s b c j)) (e2 : ∀ j, j < 9 → M_falling M0 j = E (fF s c j)) (g0 : Nat → Int64) (z2 : ∀ j, j < 9 → g0 j = 0) : amP M0 s b c (if nI b = (1 : Int32) then f_X12_areMade_19 (nI b) (M_made_s M0 g0) else if nI b = (3 : Int32) then f_X12_areMade_19 (nI b) (M_made_s M0 g0) else f_X12_areMade_51 jFU (nI b) (8 : Int32) (M_made_s M0 g0)) := by
  have h1 : nI b = 1 ↔ b = 1 := nI_eq (b := 1) (by omega) (by decide)
  have h3 : nI b = 3 ↔ b = 3 := nI_eq (b := 3) (by omega) (by decide)
  by_cases e1 : b = 1
  · rw [if_pos (h1.mpr e1)]; exact am19 M0 hb4 (Or.inl e1) c hG e2 g0
  · rw [if_neg (fun e => e1 (h1.mp e))]
    by_cases e3 : b = 3
    · rw [if_pos (h3.mpr e3)]; exact am19 M0 hb4 (Or.inr e3) c hG e2 g0
    · rw [if_neg (fun e => e3 (h3.mp e))]; exact am51 M0 hb4 (by omega) c hG e2 g0 z2
theorem made_made (A : MS) (g h : Nat → Int64) : M_made_s (M_made_s A g) h = M_made_s A h := rfl
theorem areMade_eq (M : MS) {p s b : Nat} (hp : p < 4) (hs : s < 4) (hb4 : b < 4) (hb : M_base M p = nI s) (c : Nat → Int) (hc : ∀ k, k < 9 → M_factor M (9 * p + k) = E (c k)) (hG : ∀ j, j < 9 → sm (gG s b c j)) :
    ∃ r gf gm, f_X12_areMade (nI p) (nI b) M = some (r, M_made_s (M_falling_s M gf) gm) ∧ (r = 0 ∨ r = 1) ∧ (r = 1 ↔ ∀ j, j < 9 → okM b (gG s b c j) j) ∧ ∀ j, j < 9 → gm j = E ((gG s b c j).tdiv (byB b j)) := by
  obtain ⟨gf, gm, e1, e2⟩ := findFalling_eq M hp hs hb c hc
  obtain ⟨g0, z1, z2⟩ := clearM_eq (M_made_s (M_falling_s M gf) gm)
  obtain ⟨r, g', q⟩ := amSel (M_falling_s M gf) hb4 c hG e2 g0 z2
  refine ⟨r, gf, g', ?_, q.2⟩
  rw [← q.1]
  unfold f_X12_areMade
  rw [e1, jbd_s, z1, jbd_s, made_made]
