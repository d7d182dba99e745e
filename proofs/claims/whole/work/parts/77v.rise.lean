/-! the longest rise's table -/
def weW (word bit : Nat) : Nat := UN ((f_X4_withEnd (nI word) ((1 : Int32) <<< (nI bit &&& 31))).getD 0)
theorem we_eq (word bit : Nat) : f_X4_withEnd (nI word) ((1 : Int32) <<< (nI bit &&& 31)) = some (nI (weW word bit)) := by
  have h : ∃ z, f_X4_withEnd (nI word) ((1 : Int32) <<< (nI bit &&& 31)) = some z := by
    unfold f_X4_withEnd
    split
    · exact ⟨_, rfl⟩
    · exact ⟨_, rfl⟩
  obtain ⟨z, hz⟩ := h
  unfold weW
  rw [hz]
  exact congrArg some (nI_UN z).symm
def okE (word bit : Nat) : Bool := decide (word = 0) || (decide (Nat.log2 word ≤ bit) || (decide (word / 2 ^ bit % 2 = 1) || (decide (1 ≤ weW word bit) && (decide (weW word bit < 512) && (decide (weW word bit < 2 ^ Nat.log2 word) || decide (word < weW word bit))))))
theorem okE_all : ∀ word, word < 512 → ∀ bit, bit < 8 → okE word bit = true := by decide +kernel
def okX (word bit : Nat) : Bool := decide (word = 0) || (decide (Nat.log2 word ≤ bit) || (decide (word / 2 ^ bit % 2 = 1) || decide (weW word bit < 2 ^ (Nat.log2 word + 1))))
theorem okX_all : ∀ word, word < 512 → ∀ bit, bit < 8 → okX word bit = true := by decide +kernel
def okR (w word : Nat) : Bool := decide (word = 0) || (decide (word + 1 = 2 ^ (Nat.log2 word + 1)) || decide (pN (tRi w) word = SN (fun bit => if word / 2 ^ bit % 2 = 0 then pN (tRi w) (weW word bit) else 0) (Nat.log2 word)))
theorem okR_all : ∀ w, w < 9 → ∀ word, word < 512 → (decide (w = 0) || okR w word) = true := by decide +kernel
theorem full_tab : ∀ w, w < 9 → ∀ b, b < 9 → (decide (w = 0) || decide (pN (tRi w) (2 ^ (b + 1) - 1) = if b = w then 1 else 0)) = true := by decide +kernel
theorem bit32 : ∀ word, word < 512 → ∀ bit, bit < 9 → decide (((jushr (nI word) (nI bit)) &&& (1 : Int32)) = 0) = decide (word / 2 ^ bit % 2 = 0) := by decide +kernel
theorem two32 : ∀ b, b < 9 → ((2 : Int32) <<< (nI b &&& 31)) - (1 : Int32) = nI (2 ^ (b + 1) - 1) := by decide
theorem log_in {word b : Nat} (h1 : 2 ^ b ≤ word) (h2 : word < 2 ^ (b + 1)) : Nat.log2 word = b := by
  have hne : word ≠ 0 := by
    have := Nat.two_pow_pos b
    omega
  exact (Nat.log2_eq_iff hne).mpr ⟨h1, h2⟩
/-- entries that stand: all words of fewer bits, and those of b bits above k -/
def stW (f : Nat → Int32) (w b k : Nat) : Prop := ∀ word, 1 ≤ word → (word < 2 ^ b ∨ (k < word ∧ word < 2 ^ (b + 1))) → f word = nI (pN (tRi w) word)
theorem wbn {w : Nat} (hw1 : 1 ≤ w) (hw : w ≤ 8) {b k : Nat} (hb : b ≤ 8) (hk1 : 2 ^ b ≤ k) (hk2 : k + 1 < 2 ^ (b + 1)) {f : Nat → Int32} (hf : stW f w b k) (t : Int32) : f_X4_waysByNext (nI k) (nI b) (f, t) = some (nI (pN (tRi w) k)) := by
  have hp : 2 ^ (b + 1) ≤ 2 ^ 9 := Nat.pow_le_pow_right (by decide) (by omega)
  have hlog := log_in hk1 (by omega)
  have hpos := Nat.two_pow_pos b
  have hrec : pN (tRi w) k = SN (fun bit => if k / 2 ^ bit % 2 = 0 then pN (tRi w) (weW k bit) else 0) b := by
    have h := okR_all w (by omega) k (by omega)
    unfold okR at h
    rw [Bool.or_eq_true, Bool.or_eq_true, Bool.or_eq_true, decide_eq_true_eq, decide_eq_true_eq, decide_eq_true_eq, decide_eq_true_eq, hlog] at h
    rcases h with h | h | h | h
    · omega
    · omega
    · omega
    · exact h
  have H : ∀ (d bit F : Nat), bit + d = b → d < F → f_X4_waysByNext_5 F (nI k) (nI b) (nI (SN (fun bit => if k / 2 ^ bit % 2 = 0 then pN (tRi w) (weW k bit) else 0) bit)) (nI bit) (f, t) = some (nI (pN (tRi w) k)) := by
    intro d
    induction d with
    | zero =>
      intro bit F h1 hF
      obtain ⟨F, rfl⟩ : ∃ x, F = x + 1 := ⟨F - 1, by omega⟩
      obtain rfl : bit = b := by omega
      rw [f_X4_waysByNext_5, if_pos (nI_le (by omega) (by omega)), hrec]
    | succ d ih =>
      intro bit F h1 hF
      obtain ⟨F, rfl⟩ : ∃ x, F = x + 1 := ⟨F - 1, by omega⟩
      have hb9 := bit32 k (by omega) bit (by omega)
      have ih' := ih (bit + 1) F (by omega) (by omega)
      rw [f_X4_waysByNext_5, if_neg (nI_ge (by omega) (by omega))]
      have hS : SN (fun bit => if k / 2 ^ bit % 2 = 0 then pN (tRi w) (weW k bit) else 0) (bit + 1) = SN (fun bit => if k / 2 ^ bit % 2 = 0 then pN (tRi w) (weW k bit) else 0) bit + (if k / 2 ^ bit % 2 = 0 then pN (tRi w) (weW k bit) else 0) := rfl
      by_cases hz : k / 2 ^ bit % 2 = 0
      · rw [if_pos (of_decide_eq_true (hb9.trans (decide_eq_true hz))), we_eq, jbd_s]
        have ho := okE_all k (by omega) bit (by omega)
        unfold okE at ho
        rw [Bool.or_eq_true, Bool.or_eq_true, Bool.or_eq_true, Bool.and_eq_true, Bool.and_eq_true, Bool.or_eq_true, decide_eq_true_eq, decide_eq_true_eq, decide_eq_true_eq, decide_eq_true_eq, decide_eq_true_eq, decide_eq_true_eq, decide_eq_true_eq, hlog] at ho
        have ho' : 1 ≤ weW k bit ∧ weW k bit < 512 ∧ (weW k bit < 2 ^ b ∨ k < weW k bit) := by
          rcases ho with h | h | h | h
          · omega
          · omega
          · omega
          · exact h
        have hin : weW k bit < 2 ^ b ∨ (k < weW k bit ∧ weW k bit < 2 ^ (b + 1)) := by
          rcases ho'.2.2 with h | h
          · exact Or.inl h
          · by_cases hlt : weW k bit < 2 ^ (b + 1)
            · exact Or.inr ⟨h, hlt⟩
            · exfalso
              have hx := okX_all k (by omega) bit (by omega)
              unfold okX at hx
              rw [Bool.or_eq_true, Bool.or_eq_true, Bool.or_eq_true, decide_eq_true_eq, decide_eq_true_eq, decide_eq_true_eq, decide_eq_true_eq, hlog] at hx
              omega
        rw [within_eq, jbd_s, b01_in (m := 511) (M := 511) rfl (by omega) (by decide), if_neg one_ne, jgd_n _ (by omega) (by decide), nI_clamp (by omega)]
        unfold f_X4_waysByNext_54 f_X4_waysByNext_56
        rw [show LongestRise_table (f, t) = f from rfl, hf _ ho'.1 hin, nI_add, nI_1]
        rw [hS, if_pos hz] at ih'
        exact ih'
      · rw [if_neg (of_decide_eq_false (hb9.trans (decide_eq_false hz)))]
        unfold f_X4_waysByNext_56
        rw [nI_1]
        rw [hS, if_neg hz, Nat.add_zero] at ih'
        exact ih'
  exact H b 0 1000000 (by omega) (by omega)
theorem fill37 (k2 : Int32 → LongestRiseS → Option LongestRiseS) {w : Nat} (hw1 : 1 ≤ w) (hw : w ≤ 8) {b : Nat} (hb : b ≤ 8) (t : Int32) : ∀ (d k F : Nat) (f : Nat → Int32), k + 1 = 2 ^ b + d → k + 1 < 2 ^ (b + 1) → d < F → stW f w b k → ∃ f', f_X4_fillTable_37 k2 F (nI b) (nI k) (f, t) = k2 (nI (b + 1)) (f', t) ∧ stW f' w (b + 1) (2 ^ (b + 2)) := by
  have hp : 2 ^ (b + 1) ≤ 2 ^ 9 := Nat.pow_le_pow_right (by decide) (by omega)
  have hpb : 2 ^ (b + 1) = 2 ^ b * 2 := Nat.pow_succ 2 b
  have hpos := Nat.two_pow_pos b
  have h1b : (1 : Int32) <<< (nI b &&& 31) = nI (2 ^ b) := sh1 b (by omega)
  intro d
  induction d with
  | zero =>
    intro k F f h1 h2 hF hf
    obtain ⟨F, rfl⟩ : ∃ x, F = x + 1 := ⟨F - 1, by omega⟩
    refine ⟨f, ?_, fun word h3 h4 => hf word h3 ?_⟩
    · rw [f_X4_fillTable_37, h1b, if_pos (nI_lt (by omega) (by omega))]
      unfold f_X4_fillTable_62
      rw [nI_1]
    · rcases h4 with h4 | h4
      · by_cases e : word < 2 ^ b
        · exact Or.inl e
        · exact Or.inr ⟨by omega, h4⟩
      · have : 2 ^ (b + 1 + 1) = 2 ^ (b + 2) := rfl
        omega
  | succ d ih =>
    intro k F f h1 h2 hF hf
    obtain ⟨F, rfl⟩ : ∃ x, F = x + 1 := ⟨F - 1, by omega⟩
    obtain ⟨k, rfl⟩ : ∃ q, k = q + 1 := ⟨k - 1, by omega⟩
    obtain ⟨f', e1, e2⟩ := ih k F (upd f (k + 1) (nI (pN (tRi w) (k + 1)))) (by omega) (by omega) (by omega) (fun word h3 h4 => by
      by_cases e : word = k + 1
      · subst e; exact pk_us
      · rw [pk_un e]; exact hf word h3 (by omega))
    refine ⟨f', ?_, e2⟩
    rw [f_X4_fillTable_37, h1b, if_neg (nI_nlt (by omega) (by omega)), wbn hw1 hw hb (by omega) h2 hf t, jbd_s, jgd_n _ (by omega) (by decide), nI_clamp (by omega), pk_m1]
    exact e1
theorem fill2 {w : Nat} (hw1 : 1 ≤ w) (hw : w ≤ 8) : ∀ (d b F : Nat) (f : Nat → Int32), b + d = 9 → d < F → stW f w b (2 ^ (b + 1)) → ∃ f', f_X4_fillTable_2 F (nI b) (f, nI w) = some (f', nI w) ∧ ∀ s, 1 ≤ s → s < 512 → f' s = nI (pN (tRi w) s) := by
  intro d
  induction d with
  | zero =>
    intro b F f h1 hF hf
    obtain ⟨F, rfl⟩ : ∃ x, F = x + 1 := ⟨F - 1, by omega⟩
    obtain rfl : b = 9 := by omega
    exact ⟨f, by rw [f_X4_fillTable_2, if_pos (by decide)], fun s h2 h3 => hf s h2 (Or.inl h3)⟩
  | succ d ih =>
    intro b F f h1 hF hf
    obtain ⟨F, rfl⟩ : ∃ x, F = x + 1 := ⟨F - 1, by omega⟩
    have hp : 2 ^ (b + 1) ≤ 2 ^ 9 := Nat.pow_le_pow_right (by decide) (by omega)
    have hpb : 2 ^ (b + 1) = 2 ^ b * 2 := Nat.pow_succ 2 b
    have hpos := Nat.two_pow_pos b
    have hbw : nI b = nI w ↔ b = w := nI_eq (by omega) (by omega)
    have hft : pN (tRi w) (2 ^ (b + 1) - 1) = if b = w then 1 else 0 := by
      have h := full_tab w (by omega) b (by omega)
      rw [Bool.or_eq_true, decide_eq_true_eq, decide_eq_true_eq] at h
      rcases h with h | h
      · omega
      · exact h
    have go : ∃ f', f_X4_fillTable_32 (f_X4_fillTable_2 F) (nI b) (nI (2 ^ (b + 1) - 1)) (nI (2 ^ (b + 1) - 1)) (nI (pN (tRi w) (2 ^ (b + 1) - 1))) (f, nI w) = some (f', nI w) ∧ ∀ s, 1 ≤ s → s < 512 → f' s = nI (pN (tRi w) s) := by
      unfold f_X4_fillTable_32
      rw [jgd_n _ (by omega) (by decide), nI_clamp (by omega)]
      obtain ⟨k, hk⟩ : ∃ k, 2 ^ (b + 1) - 1 = k + 1 := ⟨2 ^ (b + 1) - 2, by omega⟩
      rw [hk, nI_pred]
      obtain ⟨f1, a1, a2⟩ := fill37 (f_X4_fillTable_2 F) hw1 hw (show b ≤ 8 by omega) (nI w) (k + 1 - 2 ^ b) k jFU (upd f (k + 1) (nI (pN (tRi w) (k + 1)))) (by omega) (by omega) (by unfold jFU; omega) (fun word h3 h4 => by
        by_cases e : word = k + 1
        · subst e; exact pk_us
        · rw [pk_un e]; exact hf word h3 (by omega))
      obtain ⟨f', b1, b2⟩ := ih (b + 1) F f1 (by omega) (by omega) a2
      exact ⟨f', (show _ = _ from a1).trans b1, b2⟩
    rw [f_X4_fillTable_2, if_neg (show ¬ (8 : Int32) < nI b from nI_nlt (a := 8) (by omega) (by decide)), two32 b (by omega), show LongestRise_wanted (f, nI w) = nI w from rfl]
    rw [hft] at go
    by_cases e : b = w
    · rw [if_pos (hbw.mpr e)]
      rw [if_pos e] at go
      exact go
    · rw [if_neg (fun q => e (hbw.mp q))]
      rw [if_neg e] at go
      exact go
theorem fillTable_eq {w : Nat} (hw1 : 1 ≤ w) (hw : w ≤ 8) (f : Nat → Int32) : ∃ f', f_X4_fillTable (f, nI w) = some (f', nI w) ∧ ∀ s, 1 ≤ s → s < 512 → f' s = nI (pN (tRi w) s) := by
  refine fill2 hw1 hw 9 0 1000000 f (by omega) (by omega) (fun word h3 h4 => ?_)
  rcases h4 with h4 | h4
  · have : (2 : Nat) ^ 0 = 1 := rfl
    omega
  · omega
theorem bc32 : ∀ s, s < 512 → (decide (s = 0) || decide (f_J6_bitCount_0f7a4 (nI s) = some (nI (ocw 9 s + 1)))) = true := by decide +kernel
theorem bc_eq {s : Nat} (h1 : 1 ≤ s) (h2 : s < 512) : f_J6_bitCount_0f7a4 (nI s) = some (nI (ocw 9 s + 1)) := by
  have h := bc32 s h2
  rw [Bool.or_eq_true, decide_eq_true_eq, decide_eq_true_eq] at h
  rcases h with h | h
  · omega
  · exact h
theorem RRise.tab {r : LongestRiseS} (h : RRise r) {w : Nat} (hw1 : 1 ≤ w) (hw : w ≤ 8) (hr : LongestRise_wanted r = nI w) : ∀ s, 1 ≤ s → s < 512 → LongestRise_table r s = nI (pN (tRi w) s) := by
  rcases h with h | ⟨w', t0, a1, a2, a3, a4, a5⟩
  · rw [hr] at h
    exact absurd h (nI_ne0 (by omega) (by omega))
  · have e : w' = w := (nI_eq (by omega) (by omega)).mp (a3.symm.trans hr)
    subst e
    obtain ⟨f', b1, b2⟩ := fillTable_eq a1 a2 t0.1
    have : (t0.1, nI w') = t0 := by rw [← a4]; rfl
    rw [this, a5] at b1
    cases b1
    exact b2
