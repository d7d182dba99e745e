/-! one triangle times another -/
theorem okO_mul (x y : Option Int) : okO (tMul x y) := by
  unfold tMul
  split
  · exact okO_lim _
  · exact okO_none
def rP (o : Option Int) (no : Int32) (sum : Int64) : Prop := match o with
  | none => no = 1
  | some s => no = 0 ∧ sum = E s
theorem prodX_loop (w1 w2 : LawS) {n k : Nat} (hn : n ≤ 24) (hk : k ≤ n) (za zb : Nat → Option Int) (oa : ∀ i, okO (za i)) (ob : ∀ i, okO (zb i)) (ha : ∀ i, k + i ≤ n → f_X2_numberAt (nI n) (nI (k + i)) w1 = some (tEnc (za i))) (hb : ∀ i, k + i ≤ n → f_X2_numberAt (nI (k + i)) (nI k) w2 = some (tEnc (zb i))) :
    ∀ (d i f : Nat) (s : Int), i + d = n + 1 - k → d < f → sI 0 (fun i => tMul (za i) (zb i)) i = some s → f_X2_productAt_6 f (nI n) (nI k) (E s) (nI (k + i)) w1 w2 = some (tEnc (sI 0 (fun i => tMul (za i) (zb i)) (n + 1 - k))) := by
  intro d
  induction d with
  | zero =>
    intro i f s h1 hf hs
    obtain ⟨f, rfl⟩ : ∃ q, f = q + 1 := ⟨f - 1, by omega⟩
    obtain rfl : i = n + 1 - k := by omega
    rw [hs, f_X2_productAt_6, if_pos (nI_lt (by omega) (by omega))]; rfl
  | succ d ih =>
    intro i f s h1 hf hs
    obtain ⟨f, rfl⟩ : ∃ q, f = q + 1 := ⟨f - 1, by omega⟩
    rw [f_X2_productAt_6, if_neg (nI_nlt (by omega) (by omega)), ha i (by omega), jbd_s, hb i (by omega), jbd_s, product_eq (oa i) (ob i), jbd_s, nI_1]
    rcases e : tMul (za i) (zb i) with _ | v
    · rw [if_pos ((lg_eq0 _ _).mpr tEnc_none)]
      have := sI_none (sI_bad (wh := 0) (z := fun i => tMul (za i) (zb i)) (k := i) (fun v hv => by rw [e] at hv; cases hv)) (n - k - i)
      rw [show i + 1 + (n - k - i) = n + 1 - k by omega] at this
      rw [this, tEnc_none]
    · have hv := okO_mul _ _ v e
      rw [tEnc_some, if_neg (fun c => E_min hv ((lg_eq0 _ _).mp c)), E_add]
      have st := sI_step hs (show (fun i => tMul (za i) (zb i)) i = some v from e) (show 0 = 3 → b8 v by omega)
      have := ih (i + 1) f _ (by omega) (by omega) st
      unfold tm at this
      rw [if_neg (by omega), if_neg (by omega)] at this
      exact this
theorem prodM_step (k10 : Int32 → Int32 → Int64 → Int32 → MS → Option (Int64 × MS)) (M : MS) {p q : Nat} (hp : p < 650) (hq : q < 650) (v1 v2 v3i : Int32) (s9 : Int64) {x y : Option Int} (ox : okO x) (oy : okO y) (cx : cIs M p x) (cy : cIs M q y) (hno : M_isNo M = 0) :
    (if (M_isGreat M p) = 0 then
        jgd (nI q) 650 (
         if (M_isGreat M q) = 0 then
          jgd (nI p) 650 (
           jgd (nI q) 650 (
            jbd (f_X12_isTooMuch (M_cell M p) (M_cell M q)) (fun r76 =>
             if r76 = 0 then
              f_X12_product_87 k10 v1 v2 s9 v3i (nI p) (nI q) (0 : Int32) M
             else
              f_X12_product_82 k10 v1 v2 s9 v3i (nI p) (nI q) M)))
         else
          f_X12_product_82 k10 v1 v2 s9 v3i (nI p) (nI q) M)
       else
        f_X12_product_82 k10 v1 v2 s9 v3i (nI p) (nI q) M) = (match tMul x y with
          | none => k10 v1 v2 (s9 + 0) (v3i + 1) (M_isNo_s M 1)
          | some v => k10 v1 v2 (s9 + E v) (v3i + 1) (M_isNo_s M 0)) := by
  have h82 : f_X12_product_82 k10 v1 v2 s9 v3i (nI p) (nI q) M = k10 v1 v2 (s9 + 0) (v3i + 1) (M_isNo_s M 1) := rfl
  rw [cx.1, cy.1, cx.2, cy.2, h82]
  cases x with
  | none => rw [if_neg (show ¬ gB none = 0 from one_ne)]; rfl
  | some a =>
    rw [if_pos (show gB (some a) = 0 from rfl), jgd_n _ hq (by decide)]
    cases y with
    | none => rw [if_neg (show ¬ gB none = 0 from one_ne)]; rfl
    | some b =>
      rw [if_pos (show gB (some b) = 0 from rfl), jgd_n _ hp (by decide), jgd_n _ hq (by decide), show gV (some a) = a from rfl, show gV (some b) = b from rfl, tooMuch_eq (ox a rfl) (oy b rfl), jbd_s]
      by_cases c : b17 (a * b)
      · rw [b01_f (fun e => e c), if_pos rfl, show tMul (some a) (some b) = some (a * b) from tLim_in c]
        unfold f_X12_product_87 f_X12_product_117
        rw [jzb_0, show M_isNo (M_isNo_s M 0) = 0 from rfl, if_pos rfl, jgd_n _ hp (by decide), jgd_n _ hq (by decide), nI_clamp (by omega), nI_clamp (by omega), show M_cell (M_isNo_s M 0) = M_cell M from rfl, cx.2, cy.2, show gV (some a) = a from rfl, show gV (some b) = b from rfl, E_mul]
      · rw [b01_t c, if_neg one_ne, show tMul (some a) (some b) = none from tLim_out c]
theorem prodM_loop (M : MS) {n k : Nat} (hn : n ≤ 24) (hk : k ≤ n) (za zb : Nat → Option Int) (oa : ∀ i, okO (za i)) (ob : ∀ i, okO (zb i)) (ha : ∀ i, k + i ≤ n → cIs M (tri n + (k + i)) (za i)) (hb : ∀ i, k + i ≤ n → cIs M (325 + tri (k + i) + k) (zb i)) :
    ∀ (d i f : Nat) (no : Int32) (s9 : Int64), i + d = n + 1 - k → d < f → rP (sI 0 (fun i => tMul (za i) (zb i)) i) no s9 → ∃ no' s', f_X12_product_10 f (nI n) (nI k) s9 (nI (k + i)) (M_isNo_s M no) = some (s', M_isNo_s M no') ∧ rP (sI 0 (fun i => tMul (za i) (zb i)) (n + 1 - k)) no' s' := by
  intro d
  induction d with
  | zero =>
    intro i f no s9 h1 hf hs
    obtain ⟨f, rfl⟩ : ∃ q, f = q + 1 := ⟨f - 1, by omega⟩
    obtain rfl : i = n + 1 - k := by omega
    exact ⟨no, s9, by rw [f_X12_product_10, if_pos (nI_lt (by omega) (by omega))], hs⟩
  | succ d ih =>
    intro i f no s9 h1 hf hs
    obtain ⟨f, rfl⟩ : ∃ q, f = q + 1 := ⟨f - 1, by omega⟩
    have hp : tri n + (k + i) < 650 := by have := tri24 hn (show k + i ≤ n by omega); omega
    have hq : 325 + tri (k + i) + k < 650 := by have := tri24 (show k + i ≤ 24 by omega) (show k ≤ k + i by omega); omega
    rw [f_X12_product_10, if_neg (nI_nlt (by omega) (by omega)), show (0 : Int32) = nI 0 from rfl, at_eq' hn, jbd_s, show (1 : Int32) = nI 1 from rfl, at_eq' (show k + i ≤ 24 by omega), jbd_s, Nat.mul_zero, Nat.zero_add, Nat.mul_one, show nI 0 = (0 : Int32) from rfl]
    rcases e1 : sI 0 (fun i => tMul (za i) (zb i)) i with _ | s1
    · rw [e1] at hs
      obtain rfl : no = 1 := hs
      rw [show M_isNo (M_isNo_s M 1) = 1 from rfl, if_neg one_ne]
      have h82 : f_X12_product_82 (f_X12_product_10 f) (nI n) (nI k) s9 (nI (k + i)) (nI (tri n + (k + i))) (nI (325 + tri (k + i) + k)) (M_isNo_s M 1) = f_X12_product_10 f (nI n) (nI k) (s9 + 0) (nI (k + i) + 1) (M_isNo_s M 1) := rfl
      rw [h82, nI_1]
      exact ih (i + 1) f 1 _ (by omega) (by omega) (by rw [sI_none e1 1]; rfl)
    · rw [e1] at hs
      obtain ⟨rfl, rfl⟩ := hs
      rw [show M_isNo (M_isNo_s M 0) = 0 from rfl, if_pos rfl, jgd_n _ hp (by decide), nI_clamp (by omega), nI_clamp (by omega)]
      have st := prodM_step (f_X12_product_10 f) (M_isNo_s M 0) hp hq (nI n) (nI k) (nI (k + i)) (E s1) (oa i) (ob i) (ha i (by omega)) (hb i (by omega)) rfl
      rw [st, nI_1]
      rcases e : tMul (za i) (zb i) with _ | v
      · exact ih (i + 1) f 1 _ (by omega) (by omega) (by rw [sI_bad (fun v hv => by rw [e] at hv; cases hv)]; rfl)
      · refine ih (i + 1) f 0 (E s1 + E v) (by omega) (by omega) ?_
        rw [sI_step e1 (show (fun i => tMul (za i) (zb i)) i = some v from e) (show 0 = 3 → b8 v by omega)]
        refine ⟨rfl, ?_⟩
        unfold tm
        rw [if_neg (by omega), if_neg (by omega), E_add]
/-- the product's number -/
def PT (M : MS) (a b n k : Nat) : Option Int := sI 0 (fun i => tMul (T M a n (k + i)) (T M b (k + i) k)) (n + 1 - k)
theorem PT_sm {X : XS} {M : MS} (hR : Rel X M) {a b : Nat} (ha : a < 4) (hb : b < 4) {n k : Nat} (hn : n ≤ 24) : ∀ v, PT M a b n k = some v → sm v := fun v hv => sI_sm (fun _ => okO_mul _ _) (show n + 1 - k ≤ 25 by omega) hv
theorem PT_X {X : XS} {M : MS} (hR : Rel X M) {a b : Nat} (ha : a < 4) (hb : b < 4) {n k : Nat} (hn : n ≤ 24) (hk : k ≤ n) : f_X2_productAt (nI n) (nI k) (xLaw X a) (xLaw X b) = some (tEnc (PT M a b n k)) :=
  prodX_loop (xLaw X a) (xLaw X b) hn hk (fun i => T M a n (k + i)) (fun i => T M b (k + i) k) (fun _ => okT (hR.law ha) _ _) (fun _ => okT (hR.law hb) _ _) (fun i hi => num_T (hR.law ha) hn hi) (fun i hi => num_T (hR.law hb) (by omega) (by omega)) (n + 1 - k) 0 1000000 0 (by omega) (by omega) rfl
theorem PT_M {M0 M : MS} {a b n N k : Nat} (oa : ∀ n k, okO (T M0 a n k)) (ob : ∀ n k, okO (T M0 b n k)) (hN : N ≤ 24) (hn : n ≤ N) (hk : k ≤ n) (ha : ∀ m j, m ≤ N → j ≤ m → cIs M (tri m + j) (T M0 a m j)) (hb : ∀ m j, m ≤ N → j ≤ m → cIs M (325 + tri m + j) (T M0 b m j)) : ∃ no' s', f_X12_product (nI n) (nI k) M = some (s', M_isNo_s M no') ∧ rP (PT M0 a b n k) no' s' := by
  unfold f_X12_product
  rw [jzb_0]
  exact prodM_loop M (show n ≤ 24 by omega) hk (fun i => T M0 a n (k + i)) (fun i => T M0 b (k + i) k) (fun _ => oa _ _) (fun _ => ob _ _) (fun i hi => ha n (k + i) hn hi) (fun i hi => hb (k + i) k (by omega) (by omega)) (n + 1 - k) 0 1000000 0 0 (by omega) (by omega) ⟨rfl, rfl⟩
/-- both triangles of the reference -/
theorem two_rows {X : XS} {M : MS} (hR : Rel X M) {a b N : Nat} (ha : a < 4) (hb : b < 4) (hN : N ≤ 24) : ∃ M1 M2, f_X12_findRows 0 (nI a) (nI N) M = some M1 ∧ f_X12_findRows 1 (nI b) (nI N) M1 = some M2 ∧ core M2 = core M ∧ (∀ m j, m ≤ N → j ≤ m → cIs M2 (tri m + j) (T M a m j)) ∧ (∀ m j, m ≤ N → j ≤ m → cIs M2 (325 + tri m + j) (T M b m j)) := by
  obtain ⟨M1, r1, r2, _, r4⟩ := findRows_eq M (s := 0) (l := a) (N := N) (by omega) ha hN (hR.lawB ha)
  have hl : M_law M1 = M_law M := by obtain ⟨g, c, rfl⟩ := r4; rfl
  obtain ⟨M2, q1, q2, q3, q4⟩ := findRows_eq M1 (s := 1) (l := b) (N := N) (by omega) hb hN (by rw [hl]; exact hR.lawB hb)
  have eT : ∀ m j, tRow (mA M1 b) (mB M1 b) (mT M1 b) m j = T M b m j := by intro m j; unfold mA mB mT; rw [hl]; rfl
  refine ⟨M1, M2, r1, q1, (rowsCore q4).trans (rowsCore r4), ?_, ?_⟩
  · intro m j hm hj
    have := r2 m j hm hj
    rw [Nat.mul_zero, Nat.zero_add] at this
    have hlt := tri24 (show m ≤ 24 by omega) hj
    obtain ⟨c1, c2⟩ := q3 (tri m + j) (by omega)
    exact ⟨c1.trans this.1, c2.trans this.2⟩
  · intro m j hm hj
    have := q2 m j hm hj
    rw [Nat.mul_one, eT] at this
    exact this
theorem op_times (a0 : Int32) (a1 : Int32) (a2 : Int32) (a3 : Int32) : oRW (f_X11_times a0 a1 a2 a3) (f_X12_times a0 a1 a2 a3) := by
  intro X M hR
  unfold f_X11_times f_X12_times
  rw [isLawX, isLawM, jbd_s, jbd_s]
  rcases rng (x := a0) (M := 3) (m := 3) (by decide) with ⟨a, ha, rfl⟩ | hbad
  · have ha4 : a < 4 := by omega
    rw [b01_in (m := 3) (M := 3) rfl ha (by decide), if_neg one_ne, if_neg one_ne, isLawX, isLawM, jbd_s, jbd_s]
    rcases rng (x := a1) (M := 3) (m := 3) (by decide) with ⟨b, hb, rfl⟩ | hbad
    · have hb4 : b < 4 := by omega
      rw [b01_in (m := 3) (M := 3) rfl hb (by decide), if_neg one_ne, if_neg one_ne, isPlace_eq, inI a2 24 24 (by decide), jbd_s, jbd_s]
      rcases rng (x := a2) (M := 24) (m := 24) (by decide) with ⟨n, hn, rfl⟩ | hbad
      · rw [b01_in (m := 24) (M := 24) rfl hn (by decide), if_neg one_ne, in_n _ (by omega), jbd_s]
        rcases rngN (k := a3) (n := n) (by omega) with ⟨k, hk, rfl⟩ | hbad
        · rw [b01_t (pl_in hn hk), if_neg one_ne, b01_t (pl_in hn hk).2, if_neg one_ne, jgd_n _ ha4 (by decide)]
          simp only [jgd_n _ hb4 (show 4 < 2 ^ 31 by decide)]
          obtain ⟨M1, M2, r1, r2, r3, r4, r5⟩ := two_rows hR ha4 hb4 hn
          obtain ⟨no, s', p1, p2⟩ := PT_M (okT (hR.law ha4)) (okT (hR.law hb4)) hn (Nat.le_refl n) hk r4 r5
          rw [r1, jbd_s, r2, jbd_s, p1, jbd_s]
          have fin : jbd (f_X2_productAt (nI n) (nI k) (xLaw X a) (xLaw X b)) (fun r44 => jbd (f_X11_answer r44) (fun r47 => some r47)) = some (ans (PT M a b n k)) := by
            rw [PT_X hR ha4 hb4 hn hk, jbd_s, answer_eq (PT_sm hR ha4 hb4 hn), jbd_s]
          refine ⟨ans (PT M a b n k), M_isNo_s M2 no, ?_, ?_, hR.core r3⟩
          · rw [← fin]
            rcases (show a = 0 ∨ a = 1 ∨ a = 2 ∨ a = 3 by omega) with rfl | rfl | rfl | rfl <;> rcases (show b = 0 ∨ b = 1 ∨ b = 2 ∨ b = 3 by omega) with rfl | rfl | rfl | rfl <;> rfl
          · show (if no = 0 then some (s', M_isNo_s M2 no) else some (-1000000000000000002, M_isNo_s M2 no)) = _
            rcases e : PT M a b n k with _ | v
            · rw [e] at p2; obtain rfl : no = 1 := p2; rw [if_neg one_ne]; rfl
            · rw [e] at p2; obtain ⟨rfl, rfl⟩ := p2; rw [if_pos rfl]; rfl
        · rw [b01_f (fun e => hbad e.2), if_pos rfl, b01_f hbad, if_pos rfl]; exact ⟨_, M, rfl, rfl, hR⟩
      · rw [b01_f (fun e => hbad e.1), if_pos rfl, b01_f hbad, if_pos rfl]; exact ⟨_, M, rfl, rfl, hR⟩
    · rw [b01_f hbad, if_pos rfl, if_pos rfl]
      exact ⟨_, M, rfl, rfl, hR⟩
  · rw [b01_f hbad, if_pos rfl, if_pos rfl]
    exact ⟨_, M, rfl, rfl, hR⟩
