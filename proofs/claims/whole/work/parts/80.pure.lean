theorem some_getD {α : Type} {x : Option α} (d : α) (h : x.isSome = true) : x = some (x.getD d) := by
  cases x with
  | none => cases h
  | some y => rfl
theorem tabR : f_X9_init_12 (fun _ => 0) = some TR := some_getD _ (by decide +kernel)
theorem tabF : f_X0_init_13 (fun _ => 0) = some TFa := some_getD _ (by decide +kernel)
theorem tabL : f_X3_init_13 (fun _ => 0) = some TLp := some_getD _ (by decide +kernel)
def jM00 : MS := (0, (fun _ => 0), 0, 0, 0, (fun _ => 0), (fun _ => 0), (fun _ => 0), (fun _ => 0), (fun _ => 0), (fun _ => 0), (fun _ => 0), 0, (fun _ => 0), (fun _ => 0), (fun _ => 0), (fun _ => 0), (fun _ => 0), (fun _ => 0), (fun _ => 0), (fun _ => 0))
def TM0 : MS := (f_X12_init_132 jM00).getD jM00
theorem tabM : f_X12_init_132 (0, (fun _ => 0), 0, 0, 0, (fun _ => 0), (fun _ => 0), (fun _ => 0), (fun _ => 0), (fun _ => 0), (fun _ => 0), (fun _ => 0), 0, (fun _ => 0), (fun _ => 0), (fun _ => 0), (fun _ => 0), (fun _ => 0), (fun _ => 0), (fun _ => 0), (fun _ => 0)) = some TM0 := some_getD _ (by decide +kernel)
theorem tm_law : ∀ i, i < 28 → M_law TM0 i = if i % 7 = 6 then 1 else 0 := by decide +kernel
theorem tm_items : ∀ i, i < 4 → M_items TM0 i = 0 := by decide +kernel
theorem tm_base : ∀ i, i < 4 → M_base TM0 i = 0 := by decide +kernel
theorem tm_factor : ∀ i, i < 36 → M_factor TM0 i = 0 := by decide +kernel
theorem row0 {a b : Nat → Int} (ha : ∀ k, k < 3 → a k = 0) (hb : ∀ k, k < 3 → b k = 0) (t : Int) (n k : Nat) : tRow a b t (n + 1) k = some 0 := by
  have ca : ∀ n k, tCo a n k = 0 := fun n k => by unfold tCo; rw [ha 0 (by decide), ha 1 (by decide), ha 2 (by decide)]; omega
  have cb : ∀ n k, tCo b n k = 0 := fun n k => by unfold tCo; rw [hb 0 (by decide), hb 1 (by decide), hb 2 (by decide)]; omega
  show tSum (tPart (tCo a (n + 1) k) _) (tPart (tCo b (n + 1) k) _) = some 0
  rw [ca, cb]
  rfl
theorem rlaw0 (l : Nat) (hl : l < 4) : RLaw l jLaw0 TM0 := by
  have e : ∀ k, k < 7 → M_law TM0 (7 * l + k) = if k = 6 then 1 else 0 := fun k hk => by
    rw [tm_law _ (by omega)]
    have : (7 * l + k) % 7 = k := by omega
    rw [this]
  refine ⟨fun k hk => ?_, fun k hk => ?_, ?_, ?_, fun k hk => ?_, fun n k hn hk => ?_⟩
  · rw [e k (by omega), if_neg (by omega)]; rfl
  · have := e (3 + k) (by omega)
    rw [show 7 * l + 3 + k = 7 * l + (3 + k) by omega, this, if_neg (by omega)]; rfl
  · rw [e 6 (by omega), if_pos rfl]; rfl
  · rw [tm_items l hl]; rfl
  · rw [e k hk]
    split <;> decide
  · cases n with
    | zero =>
      have : k = 0 := by omega
      subst this
      decide +kernel
    | succ n =>
      rw [row0 (a := lawA jLaw0) (b := lawB jLaw0) (fun k hk => rfl) (fun k hk => rfl)]
      have h1 : (n + 1) * (n + 1 + 1) / 2 + k ≠ 0 := by
        have h2 : (n + 1) * (n + 1 + 1) ≥ 2 := by
          have := Nat.mul_le_mul (show 1 ≤ n + 1 by omega) (show 2 ≤ n + 1 + 1 by omega)
          omega
        omega
      show vp_updL (fun _ => 0) _ _ ((n + 1) * (n + 1 + 1) / 2 + k) = _
      rw [pk_uLn (by exact h1)]
      decide
theorem rpoly0 (p : Nat) (hp : p < 4) : RPoly p jPoly0 TM0 := by
  refine ⟨by rw [tm_base p hp]; rfl, ⟨0, by decide, by rw [tm_base p hp]; rfl⟩, fun k hk => by rw [tm_factor _ (by omega)]; rfl, fun k hk => by rw [tm_factor _ (by omega)]; decide⟩
theorem rord0 {tR : RingsS} {tF : FallsS} {tL : LesserPairsS} (h1 : tR = TR) (h2 : tF = TFa) (h3 : tL = TLp) : ROrd (X_orders (jX0 tR tF tL)) := ⟨h1, h2, h3, Or.inl rfl⟩
theorem rel_init : Rel (jX0 TR TFa TLp) TM0 :=
  ⟨⟨0, by decide, rfl, by decide +kernel, fun j hj => by omega⟩, ⟨rlaw0 0 (by decide), rlaw0 1 (by decide), rlaw0 2 (by decide), rlaw0 3 (by decide)⟩, rord0 rfl rfl rfl, rpoly0 0 (by decide), rpoly0 1 (by decide), rpoly0 2 (by decide), rpoly0 3 (by decide)⟩
theorem law_pure (xs : Nat → Int32) (L : Nat) (hL : L ≤ 2560) : ∃ (tR : RingsS) (tF : FallsS) (tL : LesserPairsS) (tM : MS) (r : Int32 × XS × MS), f_X9_init_12 (fun _ => 0) = some tR ∧ f_X0_init_13 (fun _ => 0) = some tF ∧ f_X3_init_13 (fun _ => 0) = some tL ∧ f_X12_init_132 (0, (fun _ => 0), 0, 0, 0, (fun _ => 0), (fun _ => 0), (fun _ => 0), (fun _ => 0), (fun _ => 0), (fun _ => 0), (fun _ => 0), 0, (fun _ => 0), (fun _ => 0), (fun _ => 0), (fun _ => 0), (fun _ => 0), (fun _ => 0), (fun _ => 0), (fun _ => 0)) = some tM ∧ f_L_law_16 (jX0 tR tF tL) tM xs L = some r ∧ r.1 = 1 := by
  obtain ⟨r, h1, h2⟩ := law_loop xs L hL jFU 0 (jX0 TR TFa TLp) TM0 (by decide) (by decide) rel_init
  exact ⟨TR, TFa, TLp, TM0, r, tabR, tabF, tabL, tabM, h1, h2⟩
