/-! what would undo a triangle -/
theorem RLaw.core {l : Nat} {w : LawS} {M M' : MS} (h : RLaw l w M) (e3 : M_law M' = M_law M) (e4 : M_items M' = M_items M) : RLaw l w M' := by unfold RLaw at h ⊢; rw [e3, e4]; exact h
theorem Rel.setLaw {X : XS} {M M' : MS} (h : Rel X M) {p : Nat} (hp : p < 4) (w : LawS) (e1 : M_bytes M' = M_bytes M) (e2 : M_text M' = M_text M) (e3 : M_base M' = M_base M) (e4 : M_factor M' = M_factor M) (e5 : ∀ q v, q < 4 → q ≠ p → RLaw q v M → RLaw q v M') (hw : RLaw p w M') : Rel (xLaw_s X p w) M' := by
  obtain ⟨h1, h2, h3, h4⟩ := h
  have g1 : RText (X_text X) M' := by unfold RText at h1 ⊢; rw [e1, e2]; exact h1
  have g4 : RPoly 0 (X_poly0 X) M' ∧ RPoly 1 (X_poly1 X) M' ∧ RPoly 2 (X_poly2 X) M' ∧ RPoly 3 (X_poly3 X) M' := by unfold RPoly at h4 ⊢; rw [e3, e4]; exact h4
  rcases (show p = 0 ∨ p = 1 ∨ p = 2 ∨ p = 3 by omega) with rfl | rfl | rfl | rfl
  · exact ⟨g1, ⟨hw, e5 1 _ (by decide) (by decide) h2.2.1, e5 2 _ (by decide) (by decide) h2.2.2.1, e5 3 _ (by decide) (by decide) h2.2.2.2⟩, h3, g4⟩
  · exact ⟨g1, ⟨e5 0 _ (by decide) (by decide) h2.1, hw, e5 2 _ (by decide) (by decide) h2.2.2.1, e5 3 _ (by decide) (by decide) h2.2.2.2⟩, h3, g4⟩
  · exact ⟨g1, ⟨e5 0 _ (by decide) (by decide) h2.1, e5 1 _ (by decide) (by decide) h2.2.1, hw, e5 3 _ (by decide) (by decide) h2.2.2.2⟩, h3, g4⟩
  · exact ⟨g1, ⟨e5 0 _ (by decide) (by decide) h2.1, e5 1 _ (by decide) (by decide) h2.2.1, e5 2 _ (by decide) (by decide) h2.2.2.1, hw⟩, h3, g4⟩
abbrev unit1 (z : Option Int) : Prop := z = some 1 ∨ z = some (-1)
theorem sm1 : sm 1 := by unfold sm; omega
theorem smm1 : sm (-1) := by unfold sm; omega
theorem Em1 : E (-1) = -1 := by decide
section
variable {l : Nat} {w : LawS} {M0 : MS} {n : Nat}
theorem ends_loop (hL : RLaw l w M0) (hn : n ≤ 24) : ∀ (d m f : Nat), m + d = n + 1 → d < f → ∃ r, f_X2_endsInOnes_2 f (nI n) (nI m) w = some r ∧ (r = 0 ∨ r = 1) ∧ (r = 1 ↔ ∀ j, m ≤ j → j ≤ n → unit1 (T M0 l j j)) := by
  intro d
  induction d with
  | zero =>
    intro m f h1 hf
    obtain ⟨f, rfl⟩ : ∃ q, f = q + 1 := ⟨f - 1, by omega⟩
    rw [f_X2_endsInOnes_2, if_pos (nI_lt (by omega) (by omega))]
    exact ⟨1, rfl, Or.inr rfl, fun _ j h2 h3 => by omega, fun _ => rfl⟩
  | succ d ih =>
    intro m f h1 hf
    obtain ⟨f, rfl⟩ : ∃ q, f = q + 1 := ⟨f - 1, by omega⟩
    rw [f_X2_endsInOnes_2, if_neg (nI_nlt (by omega) (by omega)), num_T hL (by omega) (Nat.le_refl m), jbd_s, jbd_s]
    unfold f_X2_endsInOnes_33
    rw [nI_1]
    have go : unit1 (T M0 l m m) → ∃ r, f_X2_endsInOnes_2 f (nI n) (nI (m + 1)) w = some r ∧ (r = 0 ∨ r = 1) ∧ (r = 1 ↔ ∀ j, m ≤ j → j ≤ n → unit1 (T M0 l j j)) := by
      intro hu
      obtain ⟨r, g1, g2, g3⟩ := ih (m + 1) f (by omega) (by omega)
      refine ⟨r, g1, g2, g3.trans ⟨fun e j h2 h3 => ?_, fun e j h2 h3 => e j (by omega) h3⟩⟩
      by_cases hj : j = m
      · subst hj; exact hu
      · exact e j (by omega) h3
    rcases e : T M0 l m m with _ | v
    · rw [if_neg (fun c => by have := (lg_eq0 _ _).mp c; rw [tEnc_none] at this; exact absurd this (by decide)), if_neg (fun c => by have := (lg_eq0 _ _).mp c; rw [tEnc_none] at this; exact absurd this (by decide))]
      exact ⟨0, rfl, Or.inl rfl, fun c => absurd c (by decide), fun c => by rcases c m (Nat.le_refl _) (by omega) with c | c <;> rw [e] at c <;> cases c⟩
    · have hv := okT hL m m v e
      rw [tEnc_some]
      by_cases c1 : v = 1
      · rw [if_pos ((lg_eq0 _ _).mpr (by rw [c1]; exact E_1))]
        exact go (Or.inl (by rw [e, c1]))
      · rw [if_neg (fun c => c1 ((E_inj hv.s sm1).mp (((lg_eq0 _ _).mp c).trans E_1.symm)))]
        by_cases c2 : v = -1
        · rw [if_pos ((lg_eq0 _ _).mpr (by rw [c2]; exact Em1))]
          exact go (Or.inr (by rw [e, c2]))
        · rw [if_neg (fun c => c2 ((E_inj hv.s smm1).mp (((lg_eq0 _ _).mp c).trans Em1.symm)))]
          exact ⟨0, rfl, Or.inl rfl, fun c => absurd c (by decide), fun c => by
            rcases c m (Nat.le_refl _) (by omega) with c | c
            · rw [e] at c; cases c; exact absurd rfl c1
            · rw [e] at c; cases c; exact absurd rfl c2⟩
theorem endsM_loop (hL : RLaw l w M0) (hn : n ≤ 24) (M : MS) {k : Nat} (hc : ∀ m j, m ≤ n → j ≤ m → cIs M (tri m + j) (T M0 l m j)) : ∀ (d m f : Nat), m + d = n + 1 → d < f → ((∀ j, m ≤ j → j ≤ n → unit1 (T M0 l j j)) → f_X12_back_44 f (nI n) (nI k) (nI m) M = f_X12_back_97 (nI n) (nI k) M) ∧ (¬ (∀ j, m ≤ j → j ≤ n → unit1 (T M0 l j j)) → f_X12_back_44 f (nI n) (nI k) (nI m) M = some (-1000000000000000002, M)) := by
  intro d
  induction d with
  | zero =>
    intro m f h1 hf
    obtain ⟨f, rfl⟩ : ∃ q, f = q + 1 := ⟨f - 1, by omega⟩
    rw [f_X12_back_44, if_pos (nI_lt (by omega) (by omega))]
    exact ⟨fun _ => rfl, fun h => absurd (fun j h2 h3 => by omega) h⟩
  | succ d ih =>
    intro m f h1 hf
    obtain ⟨f, rfl⟩ : ∃ q, f = q + 1 := ⟨f - 1, by omega⟩
    have hq := tri24 (show m ≤ 24 by omega) (Nat.le_refl m)
    obtain ⟨g1, g2⟩ := ih (m + 1) f (by omega) (by omega)
    have cm := hc m m (by omega) (Nat.le_refl m)
    rw [f_X12_back_44, if_neg (nI_nlt (by omega) (by omega)), show (0 : Int32) = nI 0 from rfl, at_eq' (show m ≤ 24 by omega), jbd_s, Nat.mul_zero, Nat.zero_add, jgd_n _ (by omega) (by decide), jbd_s, jgd_n _ (by omega) (by decide), nI_clamp (by omega), cm.1, cm.2, nI_1, show nI 0 = (0 : Int32) from rfl]
    rcases e : T M0 l m m with _ | v
    · rw [if_neg (show ¬ gB none = 0 from one_ne)]
      exact ⟨fun h => (by rcases h m (Nat.le_refl _) (by omega) with c | c <;> rw [e] at c <;> cases c), fun _ => rfl⟩
    · have hv := okT hL m m v e
      rw [if_pos (show gB (some v) = 0 from rfl), show gV (some v) = v from rfl, sizeM hv.s, jbd_s]
      by_cases c1 : unit1 (some v)
      · have : (v.natAbs : Int) = 1 := by
          rcases c1 with c | c
          · cases c; rfl
          · cases c; rfl
        rw [if_pos ((lg_eq0 _ _).mpr (by rw [this]; exact E_1))]
        refine ⟨fun h => g1 (fun j h2 h3 => h j (by omega) h3), fun h => g2 (fun h' => h (fun j h2 h3 => ?_))⟩
        by_cases hj : j = m
        · subst hj; rw [e]; exact c1
        · exact h' j (by omega) h3
      · rw [if_neg (fun c => c1 (by
          have := (E_inj (sm_abs hv.s) sm1).mp (((lg_eq0 _ _).mp c).trans E_1.symm)
          rcases (show v = 1 ∨ v = -1 by omega) with rfl | rfl
          · exact Or.inl rfl
          · exact Or.inr rfl))]
        exact ⟨fun h => absurd (by rw [← e]; exact h m (Nat.le_refl _) (by omega)) c1, fun _ => rfl⟩
def tL (o : Option Int) : Option Int := match o with
  | none => none
  | some s => tLim s
/-- the sum over a column -/
def cZ (M0 : MS) (l : Nat) (col : Nat → Int) (m k i : Nat) : Option Int := tMul (T M0 l m (k + i)) (some (col (k + i)))
theorem colX (hL : RLaw l w M0) (col : Nat → Int) (w' : LawS) (hw' : Law_numbers w' = Law_numbers w) {m k : Nat} (hm : m ≤ 24) (hk : k ≤ m) (hcol : ∀ j, k ≤ j → j < m → b17 (col j) ∧ Law_column w' j = E (col j)) : ∀ (d i f : Nat) (s : Int), i + d = m - k → d < f → sI 0 (cZ M0 l col m k) i = some s → f_X2_columnSum_5 f (nI m) (E s) (nI (k + i)) w' = some (tEnc (tL (sI 0 (cZ M0 l col m k) (m - k)))) := by
  intro d
  induction d with
  | zero =>
    intro i f s h1 hf hs
    obtain ⟨f, rfl⟩ : ∃ q, f = q + 1 := ⟨f - 1, by omega⟩
    obtain rfl : i = m - k := by omega
    rw [hs, f_X2_columnSum_5, if_pos (nI_le (by omega) (by omega))]
    unfold f_X2_columnSum_61
    rw [limited_eq (sI_sm (fun _ => okO_mul _ _) (by omega) hs), jbd_s]; rfl
  | succ d ih =>
    intro i f s h1 hf hs
    obtain ⟨f, rfl⟩ : ∃ q, f = q + 1 := ⟨f - 1, by omega⟩
    obtain ⟨hb, hv⟩ := hcol (k + i) (by omega) (by omega)
    have nt : f_X2_numberAt (nI m) (nI (k + i)) w' = some (tEnc (T M0 l m (k + i))) := by rw [numAt_eq w' hm (by omega), hw', law_T hL hm (by omega)]
    have pe := product_eq (okT hL m (k + i)) (okO_some hb)
    rw [tEnc_some] at pe
    rw [f_X2_columnSum_5, if_neg (nI_ge (by omega) (by omega)), if_neg (show ¬ (24 : Int32) < nI (k + i) by show ¬ nI 24 < nI (k + i); exact nI_nlt (by omega) (by decide)), nt, jbd_s, jgd_n _ (show k + i < 25 by omega) (by decide), nI_clamp (by omega), hv, pe, jbd_s, nI_1]
    rcases e : tMul (T M0 l m (k + i)) (some (col (k + i))) with _ | v
    · rw [if_pos ((lg_eq0 _ _).mpr tEnc_none)]
      have := sI_none (sI_bad (wh := 0) (z := cZ M0 l col m k) (k := i) (fun v hv => by rw [show cZ M0 l col m k i = none from e] at hv; cases hv)) (m - k - i - 1)
      rw [show i + 1 + (m - k - i - 1) = m - k by omega] at this
      rw [this, show tL none = none from rfl, tEnc_none]
    · have hv := okO_mul _ _ v e
      rw [tEnc_some, if_neg (fun c => E_min hv ((lg_eq0 _ _).mp c)), E_add]
      have st := sI_step hs (show cZ M0 l col m k i = some v from e) (show 0 = 3 → b8 v by omega)
      have := ih (i + 1) f _ (by omega) (by omega) st
      unfold tm at this
      rw [if_neg (by omega), if_neg (by omega)] at this
      exact this
theorem colM (hL : RLaw l w M0) (hn : n ≤ 24) (k119 : Int32 → Int32 → Int32 → MS → Option (Int64 × MS)) (col : Nat → Int) (M : MS) {m k : Nat} (hm : m ≤ n) (hk : k ≤ m) (hc : ∀ m j, m ≤ n → j ≤ m → cIs M (tri m + j) (T M0 l m j)) (hcol : ∀ j, k ≤ j → j < m → b17 (col j) ∧ M_column M j = E (col j)) : ∀ (d i f : Nat) (s : Int), i + d = m - k → d < f → sI 0 (cZ M0 l col m k) i = some s → f_X12_back_131 k119 f (nI n) (nI k) (nI m) (E s) (nI (k + i)) M = (match sI 0 (cZ M0 l col m k) (m - k) with
      | none => some (-1000000000000000002, M)
      | some s => f_X12_back_208 k119 (nI n) (nI k) (nI m) (E s) M) := by
  intro d
  induction d with
  | zero =>
    intro i f s h1 hf hs
    obtain ⟨f, rfl⟩ : ∃ q, f = q + 1 := ⟨f - 1, by omega⟩
    obtain rfl : i = m - k := by omega
    rw [hs, f_X12_back_131, if_pos (nI_le (by omega) (by omega))]
  | succ d ih =>
    intro i f s h1 hf hs
    obtain ⟨f, rfl⟩ : ∃ q, f = q + 1 := ⟨f - 1, by omega⟩
    obtain ⟨hb, hv⟩ := hcol (k + i) (by omega) (by omega)
    have hq := tri24 (show m ≤ 24 by omega) (show k + i ≤ m by omega)
    have cc := hc m (k + i) hm (by omega)
    have bad : cZ M0 l col m k i = none → sI 0 (cZ M0 l col m k) (m - k) = none := fun e => by
      have := sI_none (sI_bad (wh := 0) (z := cZ M0 l col m k) (k := i) (fun v hv => by rw [e] at hv; cases hv)) (m - k - i - 1)
      rw [show i + 1 + (m - k - i - 1) = m - k by omega] at this
      exact this
    rw [f_X12_back_131, if_neg (nI_ge (by omega) (by omega)), show (0 : Int32) = nI 0 from rfl, at_eq' (show m ≤ 24 by omega), jbd_s, Nat.mul_zero, Nat.zero_add, jgd_n _ (by omega) (by decide), nI_clamp (by omega), cc.1, cc.2, nI_clamp (by omega), hv, show nI 0 = (0 : Int32) from rfl]
    rcases e : T M0 l m (k + i) with _ | v
    · rw [if_neg (show ¬ gB none = 0 from one_ne), bad (by unfold cZ; rw [e]; rfl)]
    · have hv2 := okT hL m (k + i) v e
      rw [if_pos (show gB (some v) = 0 from rfl), show gV (some v) = v from rfl, jgd_n _ (by omega) (by decide), jgd_n _ (show k + i < 25 by omega) (by decide), tooMuch_eq hv2 hb, jbd_s]
      by_cases c : b17 (v * col (k + i))
      · have ec : cZ M0 l col m k i = some (v * col (k + i)) := by unfold cZ; rw [e]; exact tLim_in c
        rw [b01_f (fun e => e c), if_pos rfl, jgd_n _ (by omega) (by decide), jgd_n _ (show k + i < 25 by omega) (by decide), E_mul, E_add, nI_1]
        have st := sI_step hs ec (show 0 = 3 → b8 (v * col (k + i)) by omega)
        have := ih (i + 1) f _ (by omega) (by omega) st
        unfold tm at this
        rw [if_neg (by omega), if_neg (by omega)] at this
        exact this
      · rw [b01_t c, if_neg one_ne, bad (by unfold cZ; rw [e]; exact tLim_out c)]
theorem inv_lock (hL : RLaw l w M0) (hn : n ≤ 24) {k : Nat} (hk : k ≤ n) (hu : ∀ j, j ≤ n → unit1 (T M0 l j j)) (M : MS) (hc : ∀ m j, m ≤ n → j ≤ m → cIs M (tri m + j) (T M0 l m j)) : ∀ (d m f g : Nat) (cX cM : Nat → Int64) (col : Nat → Int), m + d = n + 1 → k < m → d < f → d < g → (∀ j, k ≤ j → j < m → b17 (col j) ∧ cX j = E (col j) ∧ cM j = E (col j)) →
    ∃ (z : Option Int) (cX' cM' : Nat → Int64), okO z ∧ f_X2_inverseAt_38 f (nI n) (nI k) (nI m) (Law_column_s w cX) = some (tEnc z, Law_column_s w cX') ∧ f_X12_back_119 g (nI n) (nI k) (nI m) (M_column_s M cM) = some (ans z, M_column_s M cM') := by
  intro d
  induction d with
  | zero =>
    intro m f g cX cM col h1 hkm hf hg hcol
    obtain ⟨f, rfl⟩ : ∃ q, f = q + 1 := ⟨f - 1, by omega⟩
    obtain ⟨g, rfl⟩ : ∃ q, g = q + 1 := ⟨g - 1, by omega⟩
    obtain ⟨hb, e1, e2⟩ := hcol n hk (by omega)
    refine ⟨some (col n), cX, cM, okO_some hb, ?_, ?_⟩
    · rw [f_X2_inverseAt_38, if_pos (nI_lt (by omega) (by omega))]
      unfold f_X2_inverseAt_86
      rw [jgd_n _ (show n < 25 by omega) (by decide), nI_clamp (by omega), show Law_column (Law_column_s w cX) = cX from rfl, e1]; rfl
    · rw [f_X12_back_119, if_pos (nI_lt (by omega) (by omega))]
      unfold f_X12_back_255
      rw [jgd_n _ (show n < 25 by omega) (by decide), nI_clamp (by omega), show M_column (M_column_s M cM) = cM from rfl, e2]; rfl
  | succ d ih =>
    intro m f g cX cM col h1 hkm hf hg hcol
    obtain ⟨f, rfl⟩ : ∃ q, f = q + 1 := ⟨f - 1, by omega⟩
    obtain ⟨g, rfl⟩ : ∃ q, g = q + 1 := ⟨g - 1, by omega⟩
    have hm : m ≤ n := by omega
    have cs := colX hL col (Law_column_s w cX) rfl (show m ≤ 24 by omega) (show k ≤ m by omega) (fun j h2 h3 => ⟨(hcol j h2 h3).1, (hcol j h2 h3).2.1⟩) (m - k) 0 1000000 0 (by omega) (by omega) rfl
    have cm := colM hL hn (f_X12_back_119 g) col (M_column_s M cM) hm (show k ≤ m by omega) hc (fun j h2 h3 => ⟨(hcol j h2 h3).1, (hcol j h2 h3).2.2⟩) (m - k) 0 1000000 0 (by omega) (by omega) rfl
    have hX1 : f_X2_inverseAt_38 (f + 1) (nI n) (nI k) (nI m) (Law_column_s w cX) = jbd (f_X2_columnSum_5 1000000 (nI m) (E 0) (nI (k + 0)) (Law_column_s w cX)) (fun r46 => if (lg_cmp r46 (-9000000000000000000 : Int64)) = 0 then some ((-9000000000000000000 : Int64), Law_column_s w cX) else jbd (f_X2_numberAt (nI m) (nI m) (Law_column_s w cX)) (fun r72 => jgd (nI m) 25 ((f_X2_inverseAt_38 f) (nI n) (nI k) (nI m + (1 : Int32)) (Law_column_s (Law_column_s w cX) (vp_updL (Law_column (Law_column_s w cX)) (Int32.toNatClampNeg (nI m)) ((-r72) * r46)))))) := by
      rw [f_X2_inverseAt_38, if_neg (nI_nlt (by omega) (by omega))]; rfl
    have hM1 : f_X12_back_119 (g + 1) (nI n) (nI k) (nI m) (M_column_s M cM) = f_X12_back_131 (f_X12_back_119 g) 1000000 (nI n) (nI k) (nI m) (E 0) (nI (k + 0)) (M_column_s M cM) := by
      rw [f_X12_back_119, if_neg (nI_nlt (by omega) (by omega))]; rfl
    rw [hX1, cs, jbd_s, hM1, cm]
    rcases e : sI 0 (cZ M0 l col m k) (m - k) with _ | s
    · refine ⟨none, cX, cM, okO_none, ?_, rfl⟩
      rw [show tL none = none from rfl, if_pos ((lg_eq0 _ _).mpr tEnc_none), tEnc_none]
    · have hs : sm s := sI_sm (fun _ => okO_mul _ _) (by omega) e
      obtain ⟨dv, hd, hd1⟩ : ∃ dv : Int, T M0 l m m = some dv ∧ (dv = 1 ∨ dv = -1) := by
        rcases hu m hm with h | h
        · exact ⟨1, h, Or.inl rfl⟩
        · exact ⟨-1, h, Or.inr rfl⟩
      have hval : -E dv * E s = E (-dv * s) := by rw [E_neg, E_mul]
      have hsm : sm (-dv * s) := by unfold sm at hs ⊢; rcases hd1 with rfl | rfl <;> omega
      have hbb : b17 (-dv * s) ↔ b17 s := by unfold b17; rcases hd1 with rfl | rfl <;> omega
      have hq := tri24 (show m ≤ 24 by omega) (Nat.le_refl m)
      have c208 : f_X12_back_208 (f_X12_back_119 g) (nI n) (nI k) (nI m) (E s) (M_column_s M cM) = (if b01 (¬ b17 (-dv * s)) = 0 then f_X12_back_119 g (nI n) (nI k) (nI (m + 1)) (M_column_s M (vp_updL cM m (E (-dv * s)))) else some (-1000000000000000002, M_column_s M (vp_updL cM m (E (-dv * s))))) := by
        have ccm := hc m m hm (Nat.le_refl m)
        have ecell : M_cell (M_column_s M cM) (tri m + m) = E dv := by rw [show M_cell (M_column_s M cM) = M_cell M from rfl, ccm.2, hd]; rfl
        unfold f_X12_back_208
        rw [show (0 : Int32) = nI 0 from rfl, at_eq' (show m ≤ 24 by omega), jbd_s, Nat.mul_zero, Nat.zero_add, jgd_n _ (by omega) (by decide), jgd_n _ (show m < 25 by omega) (by decide), jgd_n _ (show m < 25 by omega) (by decide), nI_clamp (by omega), nI_clamp (by omega), ecell, hval, nI_1, show nI 0 = (0 : Int32) from rfl]
        rw [show M_column (M_column_s (M_column_s M cM) (vp_updL (M_column (M_column_s M cM)) m (E (-dv * s)))) m = E (-dv * s) from pk_uLs, beyondM hsm, jbd_s]
        rfl
      by_cases hb : b17 s
      · show ∃ z cX' cM', okO z ∧ _ ∧ f_X12_back_208 (f_X12_back_119 g) (nI n) (nI k) (nI m) (E s) (M_column_s M cM) = _
        have nt : f_X2_numberAt (nI m) (nI m) (Law_column_s w cX) = some (E dv) := by rw [numAt_eq _ (show m ≤ 24 by omega) (Nat.le_refl m), show Law_numbers (Law_column_s w cX) = Law_numbers w from rfl, law_T hL (show m ≤ 24 by omega) (Nat.le_refl m), hd]; rfl
        rw [show tL (some s) = some s from tLim_in hb, tEnc_some, if_neg (fun c => E_min hb ((lg_eq0 _ _).mp c)), nt, jbd_s, jgd_n _ (show m < 25 by omega) (by decide), nI_clamp (by omega), hval, nI_1, c208, b01_f (fun e => e (hbb.mpr hb)), if_pos rfl]
        exact ih (m + 1) f g _ _ (fun j => if j = m then -dv * s else col j) (by omega) (by omega) (by omega) (by omega) (fun j h2 h3 => by
          by_cases hj : j = m
          · subst hj
            rw [if_pos rfl]
            exact ⟨hbb.mpr hb, pk_uLs, pk_uLs⟩
          · rw [if_neg hj]
            have := hcol j h2 (by omega)
            exact ⟨this.1, (pk_uLn hj).trans this.2.1, (pk_uLn hj).trans this.2.2⟩)
      · show ∃ z cX' cM', okO z ∧ _ ∧ f_X12_back_208 (f_X12_back_119 g) (nI n) (nI k) (nI m) (E s) (M_column_s M cM) = _
        refine ⟨none, cX, vp_updL cM m (E (-dv * s)), okO_none, ?_, ?_⟩
        · rw [show tL (some s) = none from tLim_out hb, if_pos ((lg_eq0 _ _).mpr tEnc_none), tEnc_none]
        · rw [c208, b01_t (show ¬ b17 (-dv * s) from fun e => hb (hbb.mp e)), if_neg one_ne]; rfl
end
theorem op_back (a0 : Int32) (a1 : Int32) (a2 : Int32) : oWW (f_X11_back a0 a1 a2) (f_X12_back a0 a1 a2) := by
  intro X M hR
  unfold f_X11_back f_X12_back
  rw [isLawX, isLawM, jbd_s, jbd_s]
  rcases rng (x := a0) (M := 3) (m := 3) (by decide) with ⟨l, hl, rfl⟩ | hbad
  · have hl4 : l < 4 := by omega
    rw [b01_in (m := 3) (M := 3) rfl hl (by decide), if_neg one_ne, if_neg one_ne, isPlace_eq, inI a1 24 24 (by decide), jbd_s, jbd_s]
    rcases rng (x := a1) (M := 24) (m := 24) (by decide) with ⟨n, hn, rfl⟩ | hbad
    · rw [b01_in (m := 24) (M := 24) rfl hn (by decide), if_neg one_ne, in_n _ (by omega), jbd_s]
      rcases rngN (k := a2) (n := n) (by omega) with ⟨k, hk, rfl⟩ | hbad
      · rw [b01_t (pl_in hn hk), if_neg one_ne, b01_t (pl_in hn hk).2, if_neg one_ne, jgd_n _ hl4 (by decide)]
        have hL := hR.law hl4
        obtain ⟨M1, r1, r2, _, r4⟩ := findRows_eq M (s := 0) (l := l) (N := n) (by omega) hl4 hn (hR.lawB hl4)
        have hc : ∀ m j, m ≤ n → j ≤ m → cIs M1 (tri m + j) (T M l m j) := fun m j hm hj => by
          have := r2 m j hm hj
          rw [Nat.mul_zero, Nat.zero_add] at this
          exact this
        have hcore := rowsCore r4
        obtain ⟨r, q1, q2, q3⟩ := ends_loop hL hn (n + 1) 0 1000000 (by omega) (by omega)
        obtain ⟨k1, k2⟩ := endsM_loop hL hn M1 (k := k) hc (n + 1) 0 1000000 (by omega) (by omega)
        have main : ∃ (z : Option Int) (cX : Nat → Int64) (cM : Nat → Int64), okO z ∧ f_X2_inverseAt (nI n) (nI k) (xLaw X l) = some (tEnc z, Law_column_s (xLaw X l) cX) ∧ f_X12_back_44 jFU (nI n) (nI k) (0 : Int32) M1 = some (ans z, M_column_s M1 cM) := by
          unfold f_X2_inverseAt
          rw [isPlace_eq, jbd_s, b01_t (pl_in hn hk), if_neg one_ne, show f_X2_endsInOnes (nI n) (xLaw X l) = some r from q1, jbd_s]
          by_cases c : r = 1
          · subst c
            have hu := q3.mp rfl
            rw [if_neg one_ne, show f_X12_back_44 jFU (nI n) (nI k) (0 : Int32) M1 = f_X12_back_97 (nI n) (nI k) M1 from k1 hu, num_T hL (show k ≤ 24 by omega) (Nat.le_refl k), jbd_s, jgd_n _ (show k < 25 by omega) (by decide), nI_clamp (by omega), nI_1]
            unfold f_X12_back_97
            have hq := tri24 (show k ≤ 24 by omega) (Nat.le_refl k)
            have cc := hc k k hk (Nat.le_refl k)
            rw [show (0 : Int32) = nI 0 from rfl, at_eq' (show k ≤ 24 by omega), jbd_s, Nat.mul_zero, Nat.zero_add, jgd_n _ (by omega) (by decide), jgd_n _ (show k < 25 by omega) (by decide), nI_clamp (by omega), nI_clamp (by omega), cc.2, nI_1]
            obtain ⟨dv, hd, hd1⟩ : ∃ dv : Int, T M l k k = some dv ∧ (dv = 1 ∨ dv = -1) := by
              rcases hu k (by omega) hk with h | h
              · exact ⟨1, h, Or.inl rfl⟩
              · exact ⟨-1, h, Or.inr rfl⟩
            rw [hd]
            exact inv_lock hL hn hk (fun j hj => hu j (by omega) hj) M1 hc (n - k) (k + 1) 1000000 1000000 _ _ (fun _ => dv) (by omega) (by omega) (by omega) (by omega) (fun j h2 h3 => by
              obtain rfl : j = k := by omega
              refine ⟨by unfold b17; omega, pk_uLs, pk_uLs⟩)
          · have r0 : r = 0 := by rcases q2 with e | e; · exact e
                                  · exact absurd e c
            rw [if_pos r0]
            exact ⟨none, Law_column (xLaw X l), M_column M1, okO_none, by rw [tEnc_none]; rfl, k2 (fun h => c (q3.mpr h))⟩
        obtain ⟨z, cX, cM, oz, m1, m2⟩ := main
        rw [show f_X12_findRows 0 (nI l) (nI n) M = some M1 from r1, jbd_s]
        refine ⟨ans z, xLaw_s X l (Law_column_s (xLaw X l) cX), M_column_s M1 cM, ?_, m2, ?_⟩
        · have fin : jbd (f_X2_inverseAt (nI n) (nI k) (xLaw X l)) (fun r29 => jbd (f_X11_answer (r29.1)) (fun r32 => some (r32, xLaw_s X l (r29.2)))) = some (ans z, xLaw_s X l (Law_column_s (xLaw X l) cX)) := by
            rw [m1, jbd_s, answer_eq (fun v hv => (oz v hv).s), jbd_s]
          rw [← fin]
          rcases (show l = 0 ∨ l = 1 ∨ l = 2 ∨ l = 3 by omega) with rfl | rfl | rfl | rfl <;> rfl
        · have hR1 := hR.core hcore
          exact hR1.setLaw hl4 _ rfl rfl rfl rfl (fun q v _ _ h => h) (hR1.law hl4)
      · rw [b01_f (fun e => hbad e.2), if_pos rfl, b01_f hbad, if_pos rfl]; exact ⟨_, X, M, rfl, rfl, hR⟩
    · rw [b01_f (fun e => hbad e.1), if_pos rfl, b01_f hbad, if_pos rfl]; exact ⟨_, X, M, rfl, rfl, hR⟩
  · rw [b01_f hbad, if_pos rfl, if_pos rfl]
    exact ⟨_, X, M, rfl, rfl, hR⟩
