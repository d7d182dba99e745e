/-! rows of digits -/
def UN (x : Int32) : Nat := x.toBitVec.toNat
theorem UN_lt (x : Int32) : UN x < 4294967296 := x.toBitVec.isLt
theorem nI_UN (x : Int32) : nI (UN x) = x := by
  apply Int32.toBitVec.inj
  show BitVec.ofNat 32 x.toBitVec.toNat = x.toBitVec
  exact BitVec.ofNat_toNat _ _ |>.trans (BitVec.setWidth_eq _)
theorem UN_nI {n : Nat} (h : n < 4294967296) : UN (nI n) = n := Nat.mod_eq_of_lt h
theorem nI_inj32 {a b : Nat} (ha : a < 4294967296) (hb : b < 4294967296) : nI a = nI b ↔ a = b := by
  constructor
  · intro e
    have := congrArg UN e
    rwa [UN_nI ha, UN_nI hb] at this
  · intro e; rw [e]
def dg (x : Int32) (n k : Nat) : Nat := UN x / 16 ^ (n - 1 - k) % 16
theorem dg_lt (x : Int32) (n k : Nat) : dg x n k < 16 := Nat.mod_lt _ (by decide)
theorem sh4 {n k : Nat} (hk : k < n) : (4 : Int32) * ((nI n - (1 : Int32)) - nI k) = nI (4 * (n - 1 - k)) := by
  obtain ⟨m, rfl⟩ : ∃ m, n = m + 1 := ⟨n - 1, by omega⟩
  rw [nI_pred, pk_sub (by omega), show (4 : Int32) = nI 4 from rfl, pk_mul, Nat.add_sub_cancel]
theorem shU : ∀ j, j < 8 → (((nI (4 * j)).toUInt32 &&& Int32.toUInt32 31).toBitVec % 32).toNat = 4 * j := by decide
theorem shA : ∀ j, j < 8 → ((nI (4 * j) &&& (31 : Int32)).toBitVec.smod 32).toNat = 4 * j := by decide
theorem p16 (j : Nat) : 2 ^ (4 * j) = 16 ^ j := Nat.pow_mul 2 4 j
theorem ushr_and (x : Int32) {j : Nat} (hj : j < 8) : (jushr x (nI (4 * j))) &&& (15 : Int32) = nI (UN x / 16 ^ j % 16) := by
  have h := pk_ushr x (nI (4 * j)) (4 * j) (shU j hj)
  rw [pk_and _ (m := (15 : Int32)) 4 (by decide), show (2 : Nat) ^ 4 = 16 from rfl]
  unfold jushr UN
  rw [h, p16]
theorem sshr_and (x : Int32) {j : Nat} (hj : j < 8) : (x >>> (nI (4 * j) &&& (31 : Int32))) &&& (15 : Int32) = nI (UN x / 16 ^ j % 16) := by
  have h := pk_shr x (nI (4 * j) &&& (31 : Int32)) (4 * j) (shA j hj)
  rw [pk_and _ (m := (15 : Int32)) 4 (by decide), show (2 : Nat) ^ 4 = 16 from rfl]
  refine congrArg nI ?_
  have e1 : x.toInt = Int.bmod (UN x) (2 ^ 32) := BitVec.toInt_eq_toNat_bmod _
  have e2 : (x >>> (nI (4 * j) &&& (31 : Int32))).toInt = Int.bmod (UN (x >>> (nI (4 * j) &&& (31 : Int32)))) (2 ^ 32) := BitVec.toInt_eq_toNat_bmod _
  rw [e1, e2, Int.shiftRight_eq_div_pow] at h
  have u1 := UN_lt x
  have u2 := UN_lt (x >>> (nI (4 * j) &&& (31 : Int32)))
  show UN (x >>> (nI (4 * j) &&& (31 : Int32))) % 16 = _
  generalize UN (x >>> (nI (4 * j) &&& (31 : Int32))) = b at h u2 ⊢
  generalize UN x = a at h u1 ⊢
  rw [Int.bmod_def, Int.bmod_def] at h
  rcases (show j = 0 ∨ j = 1 ∨ j = 2 ∨ j = 3 ∨ j = 4 ∨ j = 5 ∨ j = 6 ∨ j = 7 by omega) with rfl | rfl | rfl | rfl | rfl | rfl | rfl | rfl <;> simp only [Nat.reduceMul, Nat.reducePow, Nat.pow_zero, Nat.pow_one, Nat.div_one] at h ⊢ <;> omega
theorem digX (x : Int32) {n k : Nat} (hn : n ≤ 8) (hk : k < n) : f_X11_digitAt x (nI n) (nI k) = some (nI (dg x n k)) := by
  unfold f_X11_digitAt
  rw [sh4 hk, ushr_and x (by omega)]; rfl
theorem digM (x : Int32) {n k : Nat} (hn : n ≤ 8) (hk : k < n) : (x >>> (((4 : Int32) * ((nI n - (1 : Int32)) - nI k)) &&& 31)) &&& (15 : Int32) = nI (dg x n k) := by
  rw [sh4 hk, sshr_and x (by omega)]; rfl
def pkI (f : Nat → Int32) : Nat → Int32
  | 0 => 0
  | k + 1 => (pkI f k <<< ((4 : Int32) &&& 31)) ||| f k
theorem pkI_congr {f g : Nat → Int32} : ∀ {n : Nat}, (∀ k, k < n → f k = g k) → pkI f n = pkI g n
  | 0, _ => rfl
  | n + 1, h => by
    show (pkI f n <<< ((4 : Int32) &&& 31)) ||| f n = (pkI g n <<< ((4 : Int32) &&& 31)) ||| g n
    rw [pkI_congr (fun k hk => h k (by omega)), h n (by omega)]
theorem packX_loop (o : OrdersS) {n : Nat} (hn : n ≤ 8) : ∀ (d k f : Nat), k + d = n → d < f → f_X6_packed_4 f (nI n) (pkI (Orders_row o) k) (nI k) o = some (pkI (Orders_row o) n) := by
  intro d
  induction d with
  | zero =>
    intro k f h1 hf
    obtain ⟨f, rfl⟩ : ∃ x, f = x + 1 := ⟨f - 1, by omega⟩
    obtain rfl : k = n := by omega
    rw [f_X6_packed_4, if_pos (nI_le (by omega) (by omega))]
  | succ d ih =>
    intro k f h1 hf
    obtain ⟨f, rfl⟩ : ∃ x, f = x + 1 := ⟨f - 1, by omega⟩
    rw [f_X6_packed_4, if_neg (nI_ge (by omega) (by omega)), if_neg (ge_lit (m := 8) (M := 8) rfl (show k < 8 by omega) (by decide)), jgd_n _ (by omega) (by decide), nI_clamp (by omega), nI_1]
    exact ih (k + 1) f (by omega) (by omega)
theorem packX (o : OrdersS) {n : Nat} (hn : n ≤ 8) : f_X6_packed (nI n) o = some (pkI (Orders_row o) n) := packX_loop o hn n 0 1000000 (by omega) (by omega)
theorem packM_loop (M : MS) {n : Nat} (hn : n ≤ 8) : ∀ (d k f : Nat), k + d = n → d < f → f_X12_packed_4 f (nI n) (pkI (M_digit M) k) (nI k) M = some (pkI (M_digit M) n) := by
  intro d
  induction d with
  | zero =>
    intro k f h1 hf
    obtain ⟨f, rfl⟩ : ∃ x, f = x + 1 := ⟨f - 1, by omega⟩
    obtain rfl : k = n := by omega
    rw [f_X12_packed_4, if_pos (nI_le (by omega) (by omega))]
  | succ d ih =>
    intro k f h1 hf
    obtain ⟨f, rfl⟩ : ∃ x, f = x + 1 := ⟨f - 1, by omega⟩
    rw [f_X12_packed_4, if_neg (nI_ge (by omega) (by omega)), jgd_n _ (by omega) (by decide), nI_clamp (by omega), nI_1]
    exact ih (k + 1) f (by omega) (by omega)
theorem packM (M : MS) {n : Nat} (hn : n ≤ 8) : f_X12_packed (nI n) M = some (pkI (M_digit M) n) := packM_loop M hn n 0 1000000 (by omega) (by omega)
def pkN (d : Nat → Nat) : Nat → Nat
  | 0 => 0
  | k + 1 => pkN d k * 16 + d k
theorem nI_or (a b : Nat) : nI a ||| nI b = nI (a ||| b) := by
  apply Int32.toBitVec.inj
  show BitVec.ofNat 32 a ||| BitVec.ofNat 32 b = BitVec.ofNat 32 (a ||| b)
  exact BitVec.ofNat_or.symm
theorem shl_or {v d : Nat} (hv : v < 268435456) (hd : d < 16) : (nI v <<< ((4 : Int32) &&& 31)) ||| nI d = nI (v * 16 + d) := by
  rw [pk_shlN ((4 : Int32) &&& 31) 4 (by decide) (by omega), nI_or]
  have := Nat.two_pow_add_eq_or_of_lt (i := 4) (b := d) hd v
  rw [show v * 2 ^ 4 = 2 ^ 4 * v by omega, ← this, show 2 ^ 4 * v + d = v * 16 + d by omega]
theorem pkN_lt {d : Nat → Nat} : ∀ {n : Nat}, (∀ k, k < n → d k < 16) → pkN d n < 16 ^ n
  | 0, _ => by show (0 : Nat) < 1; decide
  | n + 1, h => by
    have h1 := pkN_lt (fun k hk => h k (show k < n + 1 by omega)) (n := n)
    have h2 := h n (by omega)
    show pkN d n * 16 + d n < 16 ^ (n + 1)
    rw [Nat.pow_succ]; omega
theorem pkI_nI {f : Nat → Int32} {d : Nat → Nat} : ∀ {n : Nat}, n ≤ 8 → (∀ k, k < n → f k = nI (d k) ∧ d k < 16) → pkI f n = nI (pkN d n)
  | 0, _, _ => rfl
  | n + 1, hn, h => by
    show (pkI f n <<< ((4 : Int32) &&& 31)) ||| f n = nI (pkN d n * 16 + d n)
    rw [pkI_nI (by omega) (fun k hk => h k (by omega)), (h n (by omega)).1]
    have h1 := pkN_lt (fun k hk => (h k (show k < n + 1 by omega)).2) (n := n)
    have h2 : 16 ^ n ≤ 16 ^ 7 := Nat.pow_le_pow_right (by decide) (by omega)
    exact shl_or (by have : (16 : Nat) ^ 7 = 268435456 := by decide
                     omega) (h n (by omega)).2
theorem pkN_dg (x : Int32) (n : Nat) : ∀ k, k ≤ n → pkN (dg x n) k = UN x / 16 ^ (n - k) % 16 ^ k
  | 0, _ => by show 0 = _ % 16 ^ 0; rw [Nat.pow_zero, Nat.mod_one]
  | k + 1, h => by
    show pkN (dg x n) k * 16 + dg x n k = _
    rw [pkN_dg x n k (by omega)]
    unfold dg
    rw [show n - k = (n - (k + 1)) + 1 by omega, Nat.pow_succ, ← Nat.div_div_eq_div_mul, show n - 1 - k = n - (k + 1) by omega, Nat.pow_succ, Nat.mul_comm (16 ^ k) 16, Nat.mod_mul]
    omega
theorem pkN_all (x : Int32) (n : Nat) : pkN (dg x n) n = UN x % 16 ^ n := by
  rw [pkN_dg x n n (Nat.le_refl _), Nat.sub_self, Nat.pow_zero, Nat.div_one]
theorem p16_le {n : Nat} (hn : n ≤ 8) : 16 ^ n ≤ 4294967296 := by
  have : (16 : Nat) ^ n ≤ 16 ^ 8 := Nat.pow_le_pow_right (by decide) hn
  exact this
theorem pk_row (x : Int32) {n : Nat} (hn : n ≤ 8) {f : Nat → Int32} (hf : ∀ k, k < n → f k = nI (dg x n k)) : pkI f n = x ↔ UN x < 16 ^ n := by
  rw [pkI_nI (d := dg x n) hn (fun k hk => ⟨hf k hk, dg_lt x n k⟩), pkN_all]
  have hp : 0 < 16 ^ n := Nat.pow_pos (by decide)
  have h1 := Nat.mod_lt (UN x) hp
  have h2 := p16_le hn
  have h3 : nI (UN x % 16 ^ n) = x ↔ UN x % 16 ^ n = UN x := by
    rw [← nI_inj32 (by omega) (UN_lt x), nI_UN]
  rw [h3]
  constructor
  · intro e; omega
  · intro e; exact Nat.mod_eq_of_lt e
/-- a digit's row, laid by the reference -/
theorem unpackM (M : MS) (x : Int32) {n : Nat} (hn : n ≤ 8) : ∃ r g, f_X12_unpack (nI n) x M = some (r, M_digit_s M g) ∧ (r = 0 ∨ r = 1) ∧ (r = 1 ↔ UN x < 16 ^ n) ∧ ∀ k, k < n → g k = nI (dg x n k) := by
  have H : ∀ (d k f : Nat) (g : Nat → Int32), k + d = n → d < f → (∀ j, j < k → g j = nI (dg x n j)) → ∃ r g', f_X12_unpack_2 f (nI n) x (nI k) (M_digit_s M g) = some (r, M_digit_s M g') ∧ (r = 0 ∨ r = 1) ∧ (r = 1 ↔ UN x < 16 ^ n) ∧ ∀ k, k < n → g' k = nI (dg x n k) := by
    intro d
    induction d with
    | zero =>
      intro k f g h1 hf hg
      obtain ⟨f, rfl⟩ : ∃ x, f = x + 1 := ⟨f - 1, by omega⟩
      obtain rfl : k = n := by omega
      rw [f_X12_unpack_2, if_pos (nI_le (by omega) (by omega))]
      unfold f_X12_unpack_31
      rw [packM _ hn, jbd_s, show M_digit (M_digit_s M g) = g from rfl]
      have hp := pk_row x hn hg
      by_cases h : pkI g k = x
      · rw [if_pos h]
        exact ⟨1, g, rfl, Or.inr rfl, ⟨fun _ => hp.mp h, fun _ => rfl⟩, hg⟩
      · rw [if_neg h]
        exact ⟨0, g, rfl, Or.inl rfl, ⟨fun e => absurd e (by decide), fun e => absurd (hp.mpr e) h⟩, hg⟩
    | succ d ih =>
      intro k f g h1 hf hg
      obtain ⟨f, rfl⟩ : ∃ x, f = x + 1 := ⟨f - 1, by omega⟩
      obtain ⟨r, g', e1, e2⟩ := ih (k + 1) f (upd g k (nI (dg x n k))) (by omega) (by omega) (fun j hj => by
        by_cases h : j = k
        · subst h; exact pk_us
        · rw [pk_un h]; exact hg j (by omega))
      refine ⟨r, g', ?_, e2⟩
      rw [f_X12_unpack_2, if_neg (nI_ge (by omega) (by omega)), jgd_n _ (by omega) (by decide), nI_clamp (by omega), digM x hn (by omega), nI_1]
      exact e1
  exact H n 0 1000000 (M_digit M) (by omega) (by omega) (fun j hj => by omega)
theorem unpackX (g0 : ArrI8S) (x : Int32) {n : Nat} (hn : n ≤ 8) : ∃ g : ArrI8S, f_X6_unpack (nI n) x g0 = some g ∧ ∀ k, k < n → g k = nI (dg x n k) := by
  have H : ∀ (d k f : Nat) (g : ArrI8S), k + d = n → d < f → (∀ j, j < k → g j = nI (dg x n j)) → ∃ g' : ArrI8S, f_X6_unpack_2 f (nI n) x (nI k) g = some g' ∧ ∀ k, k < n → g' k = nI (dg x n k) := by
    intro d
    induction d with
    | zero =>
      intro k f g h1 hf hg
      obtain ⟨f, rfl⟩ : ∃ x, f = x + 1 := ⟨f - 1, by omega⟩
      obtain rfl : k = n := by omega
      exact ⟨g, by rw [f_X6_unpack_2, if_pos (nI_le (by omega) (by omega))], hg⟩
    | succ d ih =>
      intro k f g h1 hf hg
      obtain ⟨f, rfl⟩ : ∃ x, f = x + 1 := ⟨f - 1, by omega⟩
      obtain ⟨g', e1, e2⟩ := ih (k + 1) f (upd g k (nI (dg x n k))) (by omega) (by omega) (fun j hj => by
        by_cases h : j = k
        · subst h; exact pk_us
        · rw [pk_un h]; exact hg j (by omega))
      refine ⟨g', ?_, e2⟩
      rw [f_X6_unpack_2, if_neg (nI_ge (by omega) (by omega)), if_neg (ge_lit (m := 8) (M := 8) rfl (show k < 8 by omega) (by decide)), digX x hn (by omega), jbd_s, jgd_n _ (by omega) (by decide), nI_clamp (by omega), nI_1]
      exact e1
  exact H n 0 1000000 g0 (by omega) (by omega) (fun j hj => by omega)
theorem aloneX (x : Int32) {n : Nat} (hn : n ≤ 8) : f_X11_hasDigitsAlone x (nI n) = some (b01 (UN x < 16 ^ n)) := by
  unfold f_X11_hasDigitsAlone
  by_cases h8 : n = 8
  · subst h8
    rw [if_pos (by decide), b01_t (UN_lt x)]; rfl
  · rw [if_neg (ge_lit (m := 8) (M := 8) rfl (show n < 8 by omega) (by decide)), show (4 : Int32) * nI n = nI (4 * n) from pk_mul 4 n]
    have h := pk_ushr x (nI (4 * n)) (4 * n) (shU n (by omega))
    rw [p16] at h
    have hz : jushr x (nI (4 * n)) = 0 ↔ UN x < 16 ^ n := by
      have hp : 0 < 16 ^ n := Nat.pow_pos (by decide)
      have e : UN (jushr x (nI (4 * n))) = UN x / 16 ^ n := h
      rw [← nI_UN (jushr x (nI (4 * n))), e, show (0 : Int32) = nI 0 from rfl, nI_inj32 (Nat.lt_of_le_of_lt (Nat.div_le_self _ _) (UN_lt x)) (by decide)]
      exact Nat.div_eq_zero_iff.trans ⟨fun e => e.resolve_left (by omega), fun e => Or.inr e⟩
    by_cases c : UN x < 16 ^ n
    · rw [if_pos (hz.mpr c), b01_t c]; rfl
    · rw [if_neg (fun e => c (hz.mp e)), b01_f c]; rfl
