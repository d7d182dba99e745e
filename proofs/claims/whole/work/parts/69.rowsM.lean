/-! the reference's rows -/
theorem nar0 : vp_nar .boolean 0 = 0 := by decide
theorem nar1 : vp_nar .boolean 1 = 1 := by decide
def gB (z : Option Int) : Int32 := match z with
  | none => 1
  | some _ => 0
def gV (z : Option Int) : Int := match z with
  | none => 0
  | some v => v
def cIs (M : MS) (q : Nat) (z : Option Int) : Prop := M_isGreat M q = gB z ∧ M_cell M q = E (gV z)
def putC (M : MS) (Q : Nat) (z : Option Int) : MS := M_cell_s (M_isGreat_s M (upd (M_isGreat M) Q (gB z))) (vp_updL (M_cell M) Q (E (gV z)))
theorem at_eq' {s n k : Nat} (hn : n ≤ 24) : f_X12_at (nI s) (nI n) (nI k) = some (nI (325 * s + tri n + k)) := by
  unfold f_X12_at
  rw [triI n (by omega), show (325 : Int32) = nI 325 from rfl, pk_mul, nI_add, nI_add]
theorem comes_eq (M : MS) {l o n k : Nat} (hl : l < 4) (ho : o = 0 ∨ o = 3) {O : Int32} (hO : O = nI o) (hb : ∀ i, i < 7 → b9 (M_law M (7 * l + i))) (hn : n ≤ 60) (hk : k ≤ 60) : ∃ c : Int32, f_X12_comes (nI l) O (nI n) (nI k) M = some c ∧ c.toInt = tCo (fun i => (M_law M (7 * l + o + i)).toInt) n k ∧ -1100 ≤ c.toInt ∧ c.toInt ≤ 1100 := by
  subst hO
  have hb' : ∀ i, i < 3 → b9 (M_law M (7 * l + o + i)) := fun i hi => by rw [Nat.add_assoc]; exact hb (o + i) (by omega)
  obtain ⟨h1, h2, h3⟩ := co_eq (hb' 0 (by omega)) (hb' 1 (by omega)) (hb' 2 (by omega)) hn hk
  refine ⟨_, ?_, h1, by rw [h1]; exact h2, by rw [h1]; exact h3⟩
  unfold f_X12_comes
  have e0 : (7 : Int32) * nI l + nI o = nI (7 * l + o) := by rw [show (7 : Int32) = nI 7 from rfl, pk_mul, nI_add]
  rw [e0, nI_1, show (2 : Int32) = nI 2 from rfl, nI_add, jgd_n _ (by omega) (by decide), jgd_n _ (by omega) (by decide), jgd_n _ (by omega) (by decide), nI_clamp (by omega), nI_clamp (by omega), nI_clamp (by omega)]
  rfl
section
variable (k39 : Int32 → Int32 → Int32 → Int32 → MS → Option MS) (k48 : Int32 → Int32 → Int32 → Int32 → Int32 → MS → Option MS)
variable {s l N r k : Nat}
theorem st284 (hr : r ≤ 24) (hQ : 325 * s + tri r + k < 650) (M : MS) (z : Option Int) {t0 : Int32} {v : Int64} (ht : t0 = gB z) (hv : z ≠ none → v = E (gV z)) : f_X12_findRows_284 k39 k48 (nI s) (nI l) (nI N) (nI r) (nI k) v t0 M = k48 (nI s) (nI l) (nI N) (nI r) (nI k + 1) (putC M (325 * s + tri r + k) z) := by
  subst ht
  unfold f_X12_findRows_284 f_X12_findRows_324
  rw [at_eq' hr, jbd_s, jgd_n _ hQ (by decide), jbd_s, nI_clamp (by omega), jgd_n _ hQ (by decide), jgd_n _ hQ (by decide)]
  cases z with
  | none => rw [if_neg (show ¬ gB none = 0 from one_ne)]; rfl
  | some p =>
    rw [if_pos (show gB (some p) = 0 from rfl), hv (by intro e; cases e), show gB (some p) = 0 from rfl, nar0]; rfl
theorem st264 (hr : r ≤ 24) (hQ : 325 * s + tri r + k < 650) (M : MS) {v : Int} (hv : sm v) : f_X12_findRows_264 k39 k48 (nI s) (nI l) (nI N) (nI r) (nI k) 0 (E v) M = k48 (nI s) (nI l) (nI N) (nI r) (nI k + 1) (putC M (325 * s + tri r + k) (tLim v)) := by
  unfold f_X12_findRows_264 f_X12_findRows_279
  rw [if_pos rfl, beyondM hv, jbd_s]
  by_cases c : b17 v
  · rw [b01_f (fun e => e c), if_pos rfl, tLim_in c]
    exact st284 k39 k48 hr hQ M (some v) rfl (fun _ => rfl)
  · rw [b01_t c, if_neg one_ne, tLim_out c]
    exact st284 k39 k48 hr hQ M none rfl (fun e => absurd rfl e)
theorem st207 (hr : r ≤ 24) (hQ : 325 * s + tri r + k < 650) (M : MS) (a b L U : Int32) : f_X12_findRows_207 k39 k48 (nI s) (nI l) (nI N) (nI r) (nI k) a b L U M = k48 (nI s) (nI l) (nI N) (nI r) (nI k + 1) (putC M (325 * s + tri r + k) none) := by
  unfold f_X12_findRows_207 f_X12_findRows_212 f_X12_findRows_264 f_X12_findRows_279
  rw [if_neg one_ne, if_neg one_ne]
  exact st284 k39 k48 hr hQ M none rfl (fun e => absurd rfl e)
/-- both parts are known -/
theorem st211 (hr : r ≤ 24) (hQ : 325 * s + tri r + k < 650) (M : MS) {a b : Int32} {L U : Nat} (hL : L < 650) (hU : U < 650) {p q : Int} (hp : b17 p) (hq : b17 q) (ha : (a = 0 ∧ p = 0) ∨ (¬ a = 0 ∧ a.toInt64 * M_cell M L = E p)) (hb : (b = 0 ∧ q = 0) ∨ (¬ b = 0 ∧ b.toInt64 * M_cell M U = E q)) :
    f_X12_findRows_211 k39 k48 (nI s) (nI l) (nI N) (nI r) (nI k) a b (nI L) (nI U) M = k48 (nI s) (nI l) (nI N) (nI r) (nI k + 1) (putC M (325 * s + tri r + k) (tLim (p + q))) := by
  unfold f_X12_findRows_211 f_X12_findRows_212
  rw [if_pos rfl]
  have fin : f_X12_findRows_243 k39 k48 (nI s) (nI l) (nI N) (nI r) (nI k) b (nI U) 0 (E p) M = k48 (nI s) (nI l) (nI N) (nI r) (nI k + 1) (putC M (325 * s + tri r + k) (tLim (p + q))) := by
    unfold f_X12_findRows_243 f_X12_findRows_263
    have hs : sm (p + q) := by unfold b17 at hp hq; unfold sm; omega
    rcases hb with ⟨h1, h2⟩ | ⟨h1, h2⟩
    · rw [if_pos h1, ← E_0, ← h2, E_add]; exact st264 k39 k48 hr hQ M hs
    · rw [if_neg h1, jgd_n _ hU (by decide), nI_clamp (by omega), h2, E_add]; exact st264 k39 k48 hr hQ M hs
  rcases ha with ⟨h1, h2⟩ | ⟨h1, h2⟩
  · rw [if_pos h1, ← E_0, ← h2]; exact fin
  · rw [if_neg h1, jgd_n _ hL (by decide), nI_clamp (by omega), h2]; exact fin
theorem st176 (hr : r ≤ 24) (hQ : 325 * s + tri r + k < 650) (M : MS) {a b : Int32} {L U : Nat} (hL : L < 650) (hU : U < 650) {p : Int} (hp : b17 p) (ha : (a = 0 ∧ p = 0) ∨ (¬ a = 0 ∧ a.toInt64 * M_cell M L = E p)) {y : Option Int} (hy : okO y) (hc : cIs M U y) :
    f_X12_findRows_176 k39 k48 (nI s) (nI l) (nI N) (nI r) (nI k) a b (nI L) (nI U) M = k48 (nI s) (nI l) (nI N) (nI r) (nI k + 1) (putC M (325 * s + tri r + k) (tSum (some p) (tPart b.toInt y))) := by
  unfold f_X12_findRows_176
  have hbb : b17 b.toInt := by have := b.toInt_lt; have := b.le_toInt; unfold b17; omega
  by_cases h : b = 0
  · rw [if_pos h, show tPart b.toInt y = some 0 by unfold tPart; rw [if_pos ((i32_0 b).mp h)]]
    exact st211 k39 k48 hr hQ M hL hU hp (q := 0) (by unfold b17; omega) ha (Or.inl ⟨h, rfl⟩)
  · rw [if_neg h, jgd_n _ hU (by decide), nI_clamp (by omega), tPart_mul (fun e => h ((i32_0 b).mpr e))]
    cases y with
    | none =>
      rw [if_neg (show ¬ M_isGreat M U = 0 by rw [hc.1]; exact one_ne)]
      exact st207 k39 k48 hr hQ M a b _ _
    | some q =>
      have hq := hy q rfl
      rw [if_pos (show M_isGreat M U = 0 from hc.1), hc.2, E_32, jgd_n _ hU (by decide), show gV (some q) = q from rfl, tooMuch_eq hbb hq, jbd_s]
      by_cases c : b17 (b.toInt * q)
      · rw [b01_f (fun e => e c), if_pos rfl, show tMul (some b.toInt) (some q) = some (b.toInt * q) from tLim_in c]
        exact st211 k39 k48 hr hQ M hL hU hp c ha (Or.inr ⟨h, by rw [hc.2, E_32, show gV (some q) = q from rfl, E_mul]⟩)
      · rw [b01_t c, if_neg one_ne, show tMul (some b.toInt) (some q) = none from tLim_out c]
        exact st207 k39 k48 hr hQ M a b _ _
theorem st140 (hr : r ≤ 24) (hQ : 325 * s + tri r + k < 650) (M : MS) {a b : Int32} {L : Nat} {t0 t1 t2 : Nat} (ht1 : t1 ≤ 24) (hL : L < 650) (hU : 325 * t0 + tri t1 + t2 < 650) {x y : Option Int} (hx : okO x) (hcx : cIs M L x) (hy : okO y) (hc : cIs M (325 * t0 + tri t1 + t2) y) :
    f_X12_findRows_140 k39 k48 (nI s) (nI l) (nI N) (nI r) (nI k) a b (nI L) (nI t0) (nI t1) (nI t2) M = k48 (nI s) (nI l) (nI N) (nI r) (nI k + 1) (putC M (325 * s + tri r + k) (tSum (tPart a.toInt x) (tPart b.toInt y))) := by
  unfold f_X12_findRows_140
  have haa : b17 a.toInt := by have := a.toInt_lt; have := a.le_toInt; unfold b17; omega
  rw [at_eq' ht1, jbd_s]
  by_cases h : a = 0
  · rw [if_pos h, show tPart a.toInt x = some 0 by unfold tPart; rw [if_pos ((i32_0 a).mp h)]]
    exact st176 k39 k48 hr hQ M hL hU (p := 0) (by unfold b17; omega) (Or.inl ⟨h, rfl⟩) hy hc
  · rw [if_neg h, jgd_n _ hL (by decide), nI_clamp (by omega), tPart_mul (fun e => h ((i32_0 a).mpr e))]
    cases x with
    | none =>
      rw [if_neg (show ¬ M_isGreat M L = 0 by rw [hcx.1]; exact one_ne), show tSum (tMul (some a.toInt) none) (tPart b.toInt y) = none from rfl]
      exact st207 k39 k48 hr hQ M a b _ _
    | some q =>
      have hq := hx q rfl
      rw [if_pos (show M_isGreat M L = 0 from hcx.1), hcx.2, E_32, jgd_n _ hL (by decide), show gV (some q) = q from rfl, tooMuch_eq haa hq, jbd_s]
      by_cases c : b17 (a.toInt * q)
      · rw [b01_f (fun e => e c), if_pos rfl, show tMul (some a.toInt) (some q) = some (a.toInt * q) from tLim_in c]
        exact st176 k39 k48 hr hQ M hL hU c (Or.inr ⟨h, by rw [hcx.2, E_32, show gV (some q) = q from rfl, E_mul]⟩) hy hc
      · rw [b01_t c, if_neg one_ne, show tMul (some a.toInt) (some q) = none from tLim_out c, show tSum none (tPart b.toInt y) = none from rfl]
        exact st207 k39 k48 hr hQ M a b _ _
end

def mA (M : MS) (l : Nat) : Nat → Int := fun i => (M_law M (7 * l + 0 + i)).toInt
def mB (M : MS) (l : Nat) : Nat → Int := fun i => (M_law M (7 * l + 3 + i)).toInt
def mT (M : MS) (l : Nat) : Int := (M_law M (7 * l + 6)).toInt
/-- the cells of a slot stand up to a place, those of the slots below are as they were -/
def goodM (M0 : MS) (s l : Nat) (M : MS) (q : Nat) : Prop := (∀ m j, m ≤ 24 → j ≤ m → tri m + j < q → cIs M (325 * s + tri m + j) (tRow (mA M0 l) (mB M0 l) (mT M0 l) m j)) ∧ (∀ p, p < 325 * s → M_isGreat M p = M_isGreat M0 p ∧ M_cell M p = M_cell M0 p) ∧ ∃ g c, M = M_cell_s (M_isGreat_s M0 g) c
theorem goodM_step {M0 M : MS} {s l n k : Nat} (hk : k ≤ n) (h : goodM M0 s l M (tri n + k)) : goodM M0 s l (putC M (325 * s + tri n + k) (tRow (mA M0 l) (mB M0 l) (mT M0 l) n k)) (tri n + k + 1) := by
  obtain ⟨h1, h2, g, c, h3⟩ := h
  refine ⟨?_, ?_, ?_⟩
  · intro m j hm hj hq
    by_cases e : tri m + j = tri n + k
    · obtain ⟨rfl, rfl⟩ := tri_inj hj hk e
      exact ⟨pk_us, pk_uLs⟩
    · have := h1 m j hm hj (by omega)
      exact ⟨(pk_un (by omega)).trans this.1, (pk_uLn (by omega)).trans this.2⟩
  · intro p hp
    exact ⟨(pk_un (by omega)).trans (h2 p hp).1, (pk_uLn (by omega)).trans (h2 p hp).2⟩
  · subst h3
    exact ⟨_, _, rfl⟩
theorem goodM_law {M0 M : MS} {s l q : Nat} (h : goodM M0 s l M q) : M_law M = M_law M0 := by
  obtain ⟨_, _, g, c, rfl⟩ := h; rfl
theorem rowsM_in (M0 : MS) {s l N : Nat} (hs : s ≤ 1) (hl : l < 4) (hb : ∀ i, i < 7 → b9 (M_law M0 (7 * l + i))) (k39 : Int32 → Int32 → Int32 → Int32 → MS → Option MS) {n : Nat} (hn : n + 1 ≤ 24) : ∀ (d k m : Nat) (M : MS), k + d = n + 2 → d < m → goodM M0 s l M (tri (n + 1) + k) →
    ∃ M', f_X12_findRows_48 k39 m (nI s) (nI l) (nI N) (nI (n + 1)) (nI k) M = k39 (nI s) (nI l) (nI N) (nI (n + 2)) M' ∧ goodM M0 s l M' (tri (n + 2)) := by
  intro d
  induction d with
  | zero =>
    intro k m M h1 hm hg
    obtain ⟨m, rfl⟩ : ∃ q, m = q + 1 := ⟨m - 1, by omega⟩
    obtain rfl : k = n + 2 := by omega
    have e : tri (n + 1) + (n + 2) = tri (n + 2) := by rw [tri_s (n + 1)]; omega
    refine ⟨M, ?_, e ▸ hg⟩
    rw [f_X12_findRows_48, if_pos (nI_lt (by omega) (by omega))]
    unfold f_X12_findRows_331
    rw [nI_1]
  | succ d ih =>
    intro k m M h1 hm hg
    obtain ⟨m, rfl⟩ : ∃ q, m = q + 1 := ⟨m - 1, by omega⟩
    have hq := tri24 hn (show k ≤ n + 1 by omega)
    have hlaw := goodM_law hg
    have hok := fun j => okO_row (a := mA M0 l) (b := mB M0 l) (t := mT M0 l) (hb 6 (by omega)) n j
    obtain ⟨M', g1, g2⟩ := ih (k + 1) m _ (by omega) (by omega) (goodM_step (by omega) hg)
    refine ⟨M', ?_, g2⟩
    rw [f_X12_findRows_48, if_neg (nI_nlt (by omega) (by omega))]
    have hbM : ∀ i, i < 7 → b9 (M_law M (7 * l + i)) := by rw [hlaw]; exact hb
    obtain ⟨a, a1, a2, _⟩ := comes_eq M hl (Or.inl rfl) (O := 0) rfl hbM (show n + 1 ≤ 60 by omega) (show k ≤ 60 by omega)
    obtain ⟨b, b1, b2, _⟩ := comes_eq M hl (Or.inr rfl) (O := 3) rfl hbM (show n + 1 ≤ 60 by omega) (show k ≤ 60 by omega)
    have a2' : a.toInt = tCo (mA M0 l) (n + 1) k := by rw [a2]; unfold mA; rw [hlaw]
    have b2' : b.toInt = tCo (mB M0 l) (n + 1) k := by rw [b2]; unfold mB; rw [hlaw]
    have hc : ∀ j, j ≤ n → cIs M (325 * s + tri n + j) (tRow (mA M0 l) (mB M0 l) (mT M0 l) n j) := fun j hj => hg.1 n j (by omega) hj (by rw [tri_s]; omega)
    have hQ : 325 * s + tri (n + 1) + k < 650 := by omega
    have hin : ∀ j, j ≤ n → 325 * s + tri n + j < 650 := fun j hj => by have := tri24 (show n ≤ 24 by omega) hj; omega
    have nx : tRow (mA M0 l) (mB M0 l) (mT M0 l) (n + 1) k = tSum (tPart (if k = 0 then 0 else a.toInt) (tRow (mA M0 l) (mB M0 l) (mT M0 l) n (k - 1))) (tPart (if k = n + 1 then 0 else b.toInt) (tRow (mA M0 l) (mB M0 l) (mT M0 l) n (if k = n + 1 then 0 else k))) := by
      show tNext _ _ _ _ _ = _
      unfold tNext
      rw [a2', b2']
      congr 1
      · by_cases h : k = 0
        · rw [if_pos h, if_pos h]
          unfold tPart
          rw [if_pos (rfl : (0 : Int) = 0)]
          split
          · rfl
          · show tLim (_ * 0) = _
            rw [Int.mul_zero]; exact tLim_in (by unfold b17; omega)
        · rw [if_neg h, if_neg h]
      · by_cases h : k = n + 1
        · rw [if_pos h, if_pos h]
          unfold tPart
          rw [if_pos (rfl : (0 : Int) = 0)]
          split
          · rfl
          · show tLim (_ * 0) = _
            rw [Int.mul_zero]; exact tLim_in (by unfold b17; omega)
        · rw [if_neg h, if_neg h, if_neg h]
    rw [nx] at g1
    unfold f_X12_findRows_74 f_X12_findRows_97 f_X12_findRows_117
    rw [← nI_1 k] at g1
    by_cases k0 : k = 0
    · subst k0
      rw [if_pos (show nI 0 ≤ 0 by decide), if_neg (nI_ge (by omega) (by omega)), b1, jbd_s, if_pos (show nI 0 ≤ 0 by decide), nI_pred, show (0 : Int32) = nI 0 from rfl, at_eq' (show n ≤ 24 by omega), jbd_s, if_neg (nI_ge (by omega) (by omega))]
      rw [if_pos rfl, if_neg (show ¬ 0 = n + 1 by omega), if_neg (show ¬ 0 = n + 1 by omega)] at g1
      exact (st140 k39 _ hn hQ M (show n ≤ 24 by omega) (hin 0 (by omega)) (hin 0 (by omega)) (hok 0) (hc 0 (by omega)) (hok 0) (hc 0 (by omega))).trans g1
    · obtain ⟨j, rfl⟩ : ∃ j, k = j + 1 := ⟨k - 1, by omega⟩
      rw [if_neg (nI_nle (by omega) (by omega)), a1, jbd_s]
      rw [if_neg k0] at g1
      by_cases kn : j + 1 = n + 1
      · rw [if_pos kn, if_pos kn] at g1
        rw [if_pos (nI_le (by omega) (by omega)), if_neg (nI_nle (by omega) (by omega)), nI_pred, nI_pred, at_eq' (show n ≤ 24 by omega), jbd_s, if_pos (nI_le (by omega) (by omega)), show (0 : Int32) = nI 0 from rfl]
        exact (st140 k39 _ hn hQ M (show n ≤ 24 by omega) (hin j (by omega)) (hin 0 (by omega)) (hok j) (hc j (by omega)) (hok 0) (hc 0 (by omega))).trans g1
      · rw [if_neg kn, if_neg kn] at g1
        rw [if_neg (nI_ge (by omega) (by omega)), b1, jbd_s, if_neg (nI_nle (by omega) (by omega)), nI_pred, nI_pred, at_eq' (show n ≤ 24 by omega), jbd_s, if_neg (nI_ge (by omega) (by omega))]
        exact (st140 k39 _ hn hQ M (show n ≤ 24 by omega) (hin j (by omega)) (hin (j + 1) (by omega)) (hok j) (hc j (by omega)) (hok (j + 1)) (hc (j + 1) (by omega))).trans g1
theorem rowsM_out (M0 : MS) {s l N : Nat} (hs : s ≤ 1) (hl : l < 4) (hN : N ≤ 24) (hb : ∀ i, i < 7 → b9 (M_law M0 (7 * l + i))) : ∀ (d n m : Nat) (M : MS), n + d = N → d < m → goodM M0 s l M (tri (n + 1)) →
    ∃ M', f_X12_findRows_39 m (nI s) (nI l) (nI N) (nI (n + 1)) M = some M' ∧ goodM M0 s l M' (tri (N + 1)) := by
  intro d
  induction d with
  | zero =>
    intro n m M h1 hm hg
    obtain ⟨m, rfl⟩ : ∃ q, m = q + 1 := ⟨m - 1, by omega⟩
    obtain rfl : n = N := by omega
    exact ⟨M, by rw [f_X12_findRows_39, if_pos (nI_lt (by omega) (by omega))], hg⟩
  | succ d ih =>
    intro n m M h1 hm hg
    obtain ⟨m, rfl⟩ : ∃ q, m = q + 1 := ⟨m - 1, by omega⟩
    obtain ⟨M1, a1, a2⟩ := rowsM_in M0 hs hl hb (N := N) (f_X12_findRows_39 m) (show n + 1 ≤ 24 by omega) (n + 2) 0 1000000 M (by omega) (by omega) hg
    obtain ⟨M', g1, g2⟩ := ih (n + 1) m M1 (by omega) (by omega) a2
    refine ⟨M', ?_, g2⟩
    rw [f_X12_findRows_39, if_neg (nI_nlt (by omega) (by omega))]
    exact a1.trans g1
theorem findRows_eq (M : MS) {s l N : Nat} (hs : s ≤ 1) (hl : l < 4) (hN : N ≤ 24) (hb : ∀ i, i < 7 → b9 (M_law M (7 * l + i))) : ∃ M', f_X12_findRows (nI s) (nI l) (nI N) M = some M' ∧ (∀ m j, m ≤ N → j ≤ m → cIs M' (325 * s + tri m + j) (tRow (mA M l) (mB M l) (mT M l) m j)) ∧ (∀ p, p < 325 * s → M_isGreat M' p = M_isGreat M p ∧ M_cell M' p = M_cell M p) ∧ ∃ g c, M' = M_cell_s (M_isGreat_s M g) c := by
  unfold f_X12_findRows
  have h0 : goodM M s l (putC M (325 * s + tri 0 + 0) (some (mT M l))) (tri 1) := by
    refine ⟨?_, ?_, _, _, rfl⟩
    · intro m j hm hj hq
      have e : tri 1 = 1 := by decide
      have : m = 0 := by
        rcases m with _ | m
        · rfl
        · rw [tri_s] at hq; omega
      subst this
      obtain rfl : j = 0 := by omega
      exact ⟨pk_us, pk_uLs⟩
    · intro p hp
      exact ⟨pk_un (by omega), pk_uLn (by omega)⟩
  obtain ⟨M', g1, g2, g3⟩ := rowsM_out M hs hl hN hb N 0 1000000 _ (by omega) (by omega) h0
  refine ⟨M', ?_, ?_, g3⟩
  · have t0 : tri 0 = 0 := by decide
    have hq : 325 * s + tri 0 + 0 < 650 := by omega
    rw [show (0 : Int32) = nI 0 from rfl, at_eq' (by omega), jbd_s, show (7 : Int32) * nI l + (6 : Int32) = nI (7 * l + 6) by rw [show (7 : Int32) = nI 7 from rfl, pk_mul, show (6 : Int32) = nI 6 from rfl, nI_add], jgd_n _ (by omega) (by decide), jgd_n _ hq (by decide), jbd_s, jgd_n _ hq (by decide), nI_clamp (by omega), nI_clamp (by omega), E_32, show nI 0 = (0 : Int32) from rfl, nar0]
    exact g1
  · intro m j hm hj
    exact g2 m j (by omega) hj (by have := tri_mono (show m + 1 ≤ N + 1 by omega); rw [tri_s] at this; omega)
