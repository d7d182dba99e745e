/-! laws: which one, and its numbers -/
def xLaw (X : XS) (p : Nat) : LawS := match p with
  | 0 => X_law0 X
  | 1 => X_law1 X
  | 2 => X_law2 X
  | _ => X_law3 X
def xLaw_s (X : XS) (p : Nat) (w : LawS) : XS := match p with
  | 0 => X_law0_s X w
  | 1 => X_law1_s X w
  | 2 => X_law2_s X w
  | _ => X_law3_s X w
theorem Rel.law {X : XS} {M : MS} (h : Rel X M) {p : Nat} (hp : p < 4) : RLaw p (xLaw X p) M := by
  obtain ⟨_, ⟨h0, h1, h2, h3⟩, _⟩ := h
  rcases (show p = 0 ∨ p = 1 ∨ p = 2 ∨ p = 3 by omega) with rfl | rfl | rfl | rfl
  · exact h0
  · exact h1
  · exact h2
  · exact h3
theorem Rel.lawB {X : XS} {M : MS} (h : Rel X M) {p : Nat} (hp : p < 4) : ∀ i, i < 7 → b9 (M_law M (7 * p + i)) := (h.law hp).2.2.2.2.1
theorem tRow_congr {a a' b b' : Nat → Int} {t : Int} (ha : ∀ i, i < 3 → a i = a' i) (hb : ∀ i, i < 3 → b i = b' i) : ∀ n k, tRow a b t n k = tRow a' b' t n k
  | 0, _ => rfl
  | n + 1, k => by
    show tNext a b (n + 1) (tRow a b t n) k = tNext a' b' (n + 1) (tRow a' b' t n) k
    unfold tNext tCo
    rw [ha 0 (by omega), ha 1 (by omega), ha 2 (by omega), hb 0 (by omega), hb 1 (by omega), hb 2 (by omega), tRow_congr ha hb n, tRow_congr ha hb n]
/-- the number of a law of the reference -/
def T (M : MS) (l n k : Nat) : Option Int := tRow (mA M l) (mB M l) (mT M l) n k
theorem law_T {l : Nat} {w : LawS} {M : MS} (h : RLaw l w M) {n k : Nat} (hn : n ≤ 24) (hk : k ≤ n) : Law_numbers w (tri n + k) = tEnc (T M l n k) := by
  obtain ⟨h1, h2, h3, _, _, h6⟩ := h
  rw [show tri n = n * (n + 1) / 2 from rfl, h6 n k hn hk, h3]
  unfold T
  rw [tRow_congr (a' := mA M l) (b' := mB M l) (fun i hi => ?_) (fun i hi => ?_)]
  · rfl
  · show (Law_left w i).toInt = _; rw [h1 i hi]; rfl
  · show (Law_above w i).toInt = _; rw [h2 i hi]; rfl
theorem okT {l : Nat} {w : LawS} {M : MS} (h : RLaw l w M) (n k : Nat) : okO (T M l n k) := okO_row (h.2.2.2.2.1 6 (by omega)) n k
theorem num_T {l : Nat} {w : LawS} {M : MS} (h : RLaw l w M) {n k : Nat} (hn : n ≤ 24) (hk : k ≤ n) : f_X2_numberAt (nI n) (nI k) w = some (tEnc (T M l n k)) := by rw [numAt_eq w hn hk, law_T h hn hk]
def ans (z : Option Int) : Int64 := match z with
  | none => -1000000000000000002
  | some v => E v
theorem E_min' {v : Int} (h : sm v) : ¬ E v = (-9000000000000000000 : Int64) := by
  intro e
  have := congrArg Int64.toInt e
  rw [h.t] at this
  have e2 : ((-9000000000000000000 : Int64)).toInt = -9000000000000000000 := by decide
  rw [e2] at this
  unfold sm at h; omega
theorem answer_eq {z : Option Int} (h : ∀ v, z = some v → sm v) : f_X11_answer (tEnc z) = some (ans z) := by
  unfold f_X11_answer
  cases z with
  | none => rw [if_pos ((lg_eq0 _ _).mpr tEnc_none)]; rfl
  | some v => rw [tEnc_some, if_neg (fun e => E_min' (h v rfl) ((lg_eq0 _ _).mp e))]; rfl
theorem rowsCore {M M' : MS} (h : ∃ g c, M' = M_cell_s (M_isGreat_s M g) c) : core M' = core M := by obtain ⟨g, c, rfl⟩ := h; rfl
theorem in_n {n : Nat} (k : Int32) (hn : n < 2 ^ 31) : f_X12_in k.toInt64 0 (nI n).toInt64 = some (b01 (0 ≤ k ∧ k ≤ nI n)) := inI k (nI n) (nI n).toInt64 (by rw [Int32.toInt_toInt64])
theorem rngN {k : Int32} {n : Nat} (hn : n < 2 ^ 31) : (∃ j : Nat, j ≤ n ∧ k = nI j) ∨ ¬ (0 ≤ k ∧ k ≤ nI n) := rng (nI_toInt hn)
theorem op_number (a0 : Int32) (a1 : Int32) (a2 : Int32) : oRW (f_X11_number a0 a1 a2) (f_X12_number a0 a1 a2) := by
  intro X M hR
  unfold f_X11_number f_X12_number
  rw [isLawX, isLawM, jbd_s, jbd_s]
  rcases rng (x := a0) (M := 3) (m := 3) (by decide) with ⟨l, hl, rfl⟩ | hbad
  · have hl4 : l < 4 := by omega
    rw [b01_in (m := 3) (M := 3) rfl hl (by decide), if_neg one_ne, if_neg one_ne, isPlace_eq, inI a1 24 24 (by decide), jbd_s, jbd_s]
    rcases rng (x := a1) (M := 24) (m := 24) (by decide) with ⟨n, hn, rfl⟩ | hbad
    · rw [b01_in (m := 24) (M := 24) rfl hn (by decide), if_neg one_ne, in_n _ (by omega), jbd_s]
      rcases rngN (k := a2) (n := n) (by omega) with ⟨k, hk, rfl⟩ | hbad
      · rw [b01_t (pl_in hn hk), if_neg one_ne, b01_t (pl_in hn hk).2, if_neg one_ne, jgd_n _ hl4 (by decide)]
        obtain ⟨M', r1, r2, _, r4⟩ := findRows_eq M (s := 0) (l := l) (N := n) (by omega) hl4 hn (hR.lawB hl4)
        obtain ⟨c1, c2⟩ := r2 n k (Nat.le_refl _) hk
        rw [Nat.mul_zero, Nat.zero_add] at c1 c2
        have hq := tri24 hn hk
        rw [show (0 : Int32) = nI 0 from rfl, r1, jbd_s, at_eq' hn, jbd_s, Nat.mul_zero, Nat.zero_add, jgd_n _ (by omega) (by decide), jbd_s, jgd_n _ (by omega) (by decide), nI_clamp (by omega), c1, c2]
        refine ⟨ans (T M l n k), M', ?_, ?_, hR.core (rowsCore r4)⟩
        · rw [← sel4 l hl4 (fun q => some (ans (T M q n k)))]
          have e : ∀ q, q < 4 → jbd (f_X2_numberAt (nI n) (nI k) (xLaw X q)) (fun r29 => jbd (f_X11_answer r29) (fun r32 => some r32)) = some (ans (T M q n k)) := fun q hq => by
            rw [num_T (hR.law hq) hn hk, jbd_s, answer_eq (fun v hv => (okT (hR.law hq) n k v hv).s), jbd_s]
          rw [← e 0 (by omega), ← e 1 (by omega), ← e 2 (by omega), ← e 3 (by omega)]; rfl
        · show (if gB (T M l n k) = nI 0 then some (E (gV (T M l n k)), M') else _) = _
          rcases hz : T M l n k with _ | v
          · rw [if_neg (show ¬ gB none = nI 0 from one_ne)]; rfl
          · rw [if_pos (show gB (some v) = nI 0 from rfl)]; rfl
      · rw [b01_f (fun e => hbad e.2), if_pos rfl, b01_f hbad, if_pos rfl]; exact ⟨_, M, rfl, rfl, hR⟩
    · rw [b01_f (fun e => hbad e.1), if_pos rfl, b01_f hbad, if_pos rfl]; exact ⟨_, M, rfl, rfl, hR⟩
  · rw [b01_f hbad, if_pos rfl, if_pos rfl]
    exact ⟨_, M, rfl, rfl, hR⟩
