/-! turning a polynomial: Horner's way from one base into another is linear -/
def Sg (f : Nat → Int) : Nat → Int
  | 0 => 0
  | n + 1 => Sg f n + f n
theorem Sg_congr {f g : Nat → Int} : ∀ {n : Nat}, (∀ i, i < n → f i = g i) → Sg f n = Sg g n
  | 0, _ => rfl
  | n + 1, h => by
    show Sg f n + f n = Sg g n + g n
    rw [Sg_congr (fun i hi => h i (by omega)), h n (by omega)]
theorem Sg_add (f g : Nat → Int) : ∀ n, Sg (fun i => f i + g i) n = Sg f n + Sg g n
  | 0 => rfl
  | n + 1 => by
    show Sg (fun i => f i + g i) n + (f n + g n) = (Sg f n + f n) + (Sg g n + g n)
    rw [Sg_add f g n]; omega
theorem Sg_mul (a : Int) (f : Nat → Int) : ∀ n, Sg (fun i => a * f i) n = a * Sg f n
  | 0 => by show 0 = a * 0; rw [Int.mul_zero]
  | n + 1 => by
    show Sg (fun i => a * f i) n + a * f n = a * (Sg f n + f n)
    rw [Sg_mul a f n, Int.mul_add]
theorem Sg_mulr (a : Int) (f : Nat → Int) (n : Nat) : Sg (fun i => f i * a) n = Sg f n * a := by
  rw [Int.mul_comm, ← Sg_mul]
  exact Sg_congr (fun i _ => Int.mul_comm _ _)
theorem Sg_0 : ∀ n, Sg (fun _ => 0) n = 0
  | 0 => rfl
  | n + 1 => by
    show Sg (fun _ => 0) n + 0 = 0
    rw [Sg_0 n]; rfl
theorem Sg_swap (f : Nat → Nat → Int) (m : Nat) : ∀ n, Sg (fun i => Sg (fun k => f i k) m) n = Sg (fun k => Sg (fun i => f i k) n) m
  | 0 => (Sg_0 m).symm
  | n + 1 => by
    show Sg (fun i => Sg (fun k => f i k) m) n + Sg (fun k => f n k) m = Sg (fun k => Sg (fun i => f i k) n + f n k) m
    rw [Sg_swap f m n, Sg_add]
theorem Sg_one (c : Nat → Int) (k : Nat) : ∀ n, Sg (fun i => c i * (if k = i then 1 else 0)) n = if k < n then c k else 0
  | 0 => by rw [if_neg (by omega)]; rfl
  | n + 1 => by
    show Sg (fun i => c i * (if k = i then 1 else 0)) n + c n * (if k = n then 1 else 0) = _
    rw [Sg_one c k n]
    by_cases h : k = n
    · subst h; rw [if_neg (by omega), if_pos rfl, if_pos (by omega)]; omega
    · rw [if_neg h]
      by_cases h2 : k < n
      · rw [if_pos h2, if_pos (by omega)]; omega
      · rw [if_neg h2, if_neg (by omega)]; omega
theorem Sg_bound {c B : Nat → Int} {C : Int} (hC : 0 ≤ C) : ∀ {n : Nat}, (∀ i, i < n → -C ≤ c i ∧ c i ≤ C) → -(C * Sg (fun i => ((B i).natAbs : Int)) n) ≤ Sg (fun i => c i * B i) n ∧ Sg (fun i => c i * B i) n ≤ C * Sg (fun i => ((B i).natAbs : Int)) n
  | 0, _ => by
    show -(C * 0) ≤ 0 ∧ 0 ≤ C * 0
    rw [Int.mul_zero]; omega
  | n + 1, h => by
    obtain ⟨h1, h2⟩ := Sg_bound (B := B) hC (fun i hi => h i (show i < n + 1 by omega)) (n := n)
    show -(C * (Sg (fun i => ((B i).natAbs : Int)) n + ((B n).natAbs : Int))) ≤ Sg (fun i => c i * B i) n + c n * B n ∧ Sg (fun i => c i * B i) n + c n * B n ≤ C * (Sg (fun i => ((B i).natAbs : Int)) n + ((B n).natAbs : Int))
    rw [Int.mul_add]
    have hc := h n (by omega)
    have key : (c n * B n).natAbs ≤ C * ((B n).natAbs : Int) := by
      rw [Int.natAbs_mul, Int.natCast_mul]
      exact Int.mul_le_mul_of_nonneg_right (by omega) (by omega)
    omega
def mulP (zt : Nat → Int) (z : Int) (p : Nat → Int) (j : Nat) : Int := (if j = 0 then 0 else p (j - 1)) + (zt j - z) * p j
def horn (zs zt c : Nat → Int) : Nat → Nat → Int
  | 0, _ => 0
  | d + 1, j => mulP zt (zs (8 - d)) (horn zs zt c d) j + (if j = 0 then c (8 - d) else 0)
def eU (i : Nat) : Nat → Int := fun k => if k = i then 1 else 0
theorem horn_lin (zs zt c : Nat → Int) : ∀ d, d ≤ 9 → ∀ j, horn zs zt c d j = Sg (fun i => c i * horn zs zt (eU i) d j) 9 := by
  intro d
  induction d with
  | zero =>
    intro _ j
    show 0 = Sg (fun i => c i * 0) 9
    rw [Sg_congr (g := fun _ => 0) (fun i _ => Int.mul_zero _), Sg_0]
  | succ d ih =>
    intro hd j
    have e : ∀ i, i < 9 → c i * horn zs zt (eU i) (d + 1) j = (if j = 0 then 0 else c i * horn zs zt (eU i) d (j - 1)) + (zt j - zs (8 - d)) * (c i * horn zs zt (eU i) d j) + (if j = 0 then c i * (if 8 - d = i then 1 else 0) else 0) := by
      intro i _
      show c i * (((if j = 0 then 0 else horn zs zt (eU i) d (j - 1)) + (zt j - zs (8 - d)) * horn zs zt (eU i) d j) + (if j = 0 then (if 8 - d = i then 1 else 0) else 0)) = _
      rw [Int.mul_add, Int.mul_add, Int.mul_left_comm]
      by_cases h : j = 0
      · rw [if_pos h, if_pos h, if_pos h, if_pos h, Int.mul_zero]
      · rw [if_neg h, if_neg h, if_neg h, if_neg h, Int.mul_zero]
    rw [Sg_congr e, Sg_add, Sg_add, Sg_mul, ← ih (by omega) j]
    show ((if j = 0 then 0 else horn zs zt c d (j - 1)) + (zt j - zs (8 - d)) * horn zs zt c d j) + (if j = 0 then c (8 - d) else 0) = _
    by_cases h : j = 0
    · simp only [if_pos h]
      rw [Sg_0, Sg_one c (8 - d) 9, if_pos (by omega)]
    · simp only [if_neg h]
      rw [Sg_0, ← ih (by omega) (j - 1)]
def zf (b : Nat) (k : Nat) : Int := if b = 0 then 0 else if b = 2 then -(k : Int) else k
def tAt (t : List (List Int)) (i j : Nat) : Int := (t.getD i []).getD j 0
def tB00 : List (List Int) := [[1, 0, 0, 0, 0, 0, 0, 0, 0], [0, 1, 0, 0, 0, 0, 0, 0, 0], [0, 0, 1, 0, 0, 0, 0, 0, 0], [0, 0, 0, 1, 0, 0, 0, 0, 0], [0, 0, 0, 0, 1, 0, 0, 0, 0], [0, 0, 0, 0, 0, 1, 0, 0, 0], [0, 0, 0, 0, 0, 0, 1, 0, 0], [0, 0, 0, 0, 0, 0, 0, 1, 0], [0, 0, 0, 0, 0, 0, 0, 0, 1]]
def tB01 : List (List Int) := [[1, 0, 0, 0, 0, 0, 0, 0, 0], [0, 1, 0, 0, 0, 0, 0, 0, 0], [0, 1, 1, 0, 0, 0, 0, 0, 0], [0, 1, 3, 1, 0, 0, 0, 0, 0], [0, 1, 7, 6, 1, 0, 0, 0, 0], [0, 1, 15, 25, 10, 1, 0, 0, 0], [0, 1, 31, 90, 65, 15, 1, 0, 0], [0, 1, 63, 301, 350, 140, 21, 1, 0], [0, 1, 127, 966, 1701, 1050, 266, 28, 1]]
def tB02 : List (List Int) := [[1, 0, 0, 0, 0, 0, 0, 0, 0], [0, 1, 0, 0, 0, 0, 0, 0, 0], [0, -1, 1, 0, 0, 0, 0, 0, 0], [0, 1, -3, 1, 0, 0, 0, 0, 0], [0, -1, 7, -6, 1, 0, 0, 0, 0], [0, 1, -15, 25, -10, 1, 0, 0, 0], [0, -1, 31, -90, 65, -15, 1, 0, 0], [0, 1, -63, 301, -350, 140, -21, 1, 0], [0, -1, 127, -966, 1701, -1050, 266, -28, 1]]
def tB10 : List (List Int) := [[1, 0, 0, 0, 0, 0, 0, 0, 0], [0, 1, 0, 0, 0, 0, 0, 0, 0], [0, -1, 1, 0, 0, 0, 0, 0, 0], [0, 2, -3, 1, 0, 0, 0, 0, 0], [0, -6, 11, -6, 1, 0, 0, 0, 0], [0, 24, -50, 35, -10, 1, 0, 0, 0], [0, -120, 274, -225, 85, -15, 1, 0, 0], [0, 720, -1764, 1624, -735, 175, -21, 1, 0], [0, -5040, 13068, -13132, 6769, -1960, 322, -28, 1]]
def tB11 : List (List Int) := [[1, 0, 0, 0, 0, 0, 0, 0, 0], [0, 1, 0, 0, 0, 0, 0, 0, 0], [0, 0, 1, 0, 0, 0, 0, 0, 0], [0, 0, 0, 1, 0, 0, 0, 0, 0], [0, 0, 0, 0, 1, 0, 0, 0, 0], [0, 0, 0, 0, 0, 1, 0, 0, 0], [0, 0, 0, 0, 0, 0, 1, 0, 0], [0, 0, 0, 0, 0, 0, 0, 1, 0], [0, 0, 0, 0, 0, 0, 0, 0, 1]]
def tB12 : List (List Int) := [[1, 0, 0, 0, 0, 0, 0, 0, 0], [0, 1, 0, 0, 0, 0, 0, 0, 0], [0, -2, 1, 0, 0, 0, 0, 0, 0], [0, 6, -6, 1, 0, 0, 0, 0, 0], [0, -24, 36, -12, 1, 0, 0, 0, 0], [0, 120, -240, 120, -20, 1, 0, 0, 0], [0, -720, 1800, -1200, 300, -30, 1, 0, 0], [0, 5040, -15120, 12600, -4200, 630, -42, 1, 0], [0, -40320, 141120, -141120, 58800, -11760, 1176, -56, 1]]
def tB20 : List (List Int) := [[1, 0, 0, 0, 0, 0, 0, 0, 0], [0, 1, 0, 0, 0, 0, 0, 0, 0], [0, 1, 1, 0, 0, 0, 0, 0, 0], [0, 2, 3, 1, 0, 0, 0, 0, 0], [0, 6, 11, 6, 1, 0, 0, 0, 0], [0, 24, 50, 35, 10, 1, 0, 0, 0], [0, 120, 274, 225, 85, 15, 1, 0, 0], [0, 720, 1764, 1624, 735, 175, 21, 1, 0], [0, 5040, 13068, 13132, 6769, 1960, 322, 28, 1]]
def tB21 : List (List Int) := [[1, 0, 0, 0, 0, 0, 0, 0, 0], [0, 1, 0, 0, 0, 0, 0, 0, 0], [0, 2, 1, 0, 0, 0, 0, 0, 0], [0, 6, 6, 1, 0, 0, 0, 0, 0], [0, 24, 36, 12, 1, 0, 0, 0, 0], [0, 120, 240, 120, 20, 1, 0, 0, 0], [0, 720, 1800, 1200, 300, 30, 1, 0, 0], [0, 5040, 15120, 12600, 4200, 630, 42, 1, 0], [0, 40320, 141120, 141120, 58800, 11760, 1176, 56, 1]]
def tB22 : List (List Int) := [[1, 0, 0, 0, 0, 0, 0, 0, 0], [0, 1, 0, 0, 0, 0, 0, 0, 0], [0, 0, 1, 0, 0, 0, 0, 0, 0], [0, 0, 0, 1, 0, 0, 0, 0, 0], [0, 0, 0, 0, 1, 0, 0, 0, 0], [0, 0, 0, 0, 0, 1, 0, 0, 0], [0, 0, 0, 0, 0, 0, 1, 0, 0], [0, 0, 0, 0, 0, 0, 0, 1, 0], [0, 0, 0, 0, 0, 0, 0, 0, 1]]
theorem tab_ok {zs zt : Nat → Int} {t : List (List Int)} (h : ∀ i, i < 9 → ∀ j, j < 9 → horn zs zt (eU i) 9 j = tAt t i j) (c : Nat → Int) {j : Nat} (hj : j < 9) : horn zs zt c 9 j = Sg (fun i => c i * tAt t i j) 9 := by
  rw [horn_lin zs zt c 9 (by omega) j]
  exact Sg_congr (fun i hi => by rw [h i hi j hj])
theorem tok00 : ∀ i, i < 9 → ∀ j, j < 9 → horn (zf 0) (zf 0) (eU i) 9 j = tAt tB00 i j := by decide +kernel
theorem tok01 : ∀ i, i < 9 → ∀ j, j < 9 → horn (zf 0) (zf 1) (eU i) 9 j = tAt tB01 i j := by decide +kernel
theorem tok02 : ∀ i, i < 9 → ∀ j, j < 9 → horn (zf 0) (zf 2) (eU i) 9 j = tAt tB02 i j := by decide +kernel
theorem tok10 : ∀ i, i < 9 → ∀ j, j < 9 → horn (zf 1) (zf 0) (eU i) 9 j = tAt tB10 i j := by decide +kernel
theorem tok11 : ∀ i, i < 9 → ∀ j, j < 9 → horn (zf 1) (zf 1) (eU i) 9 j = tAt tB11 i j := by decide +kernel
theorem tok12 : ∀ i, i < 9 → ∀ j, j < 9 → horn (zf 1) (zf 2) (eU i) 9 j = tAt tB12 i j := by decide +kernel
theorem tok20 : ∀ i, i < 9 → ∀ j, j < 9 → horn (zf 2) (zf 0) (eU i) 9 j = tAt tB20 i j := by decide +kernel
theorem tok21 : ∀ i, i < 9 → ∀ j, j < 9 → horn (zf 2) (zf 1) (eU i) 9 j = tAt tB21 i j := by decide +kernel
theorem tok22 : ∀ i, i < 9 → ∀ j, j < 9 → horn (zf 2) (zf 2) (eU i) 9 j = tAt tB22 i j := by decide +kernel
theorem tab_comp {zs zm zt : Nat → Int} {t1 t2 t3 : List (List Int)} (h1 : ∀ i, i < 9 → ∀ j, j < 9 → horn zs zm (eU i) 9 j = tAt t1 i j) (h2 : ∀ i, i < 9 → ∀ j, j < 9 → horn zm zt (eU i) 9 j = tAt t2 i j) (h3 : ∀ i, i < 9 → ∀ j, j < 9 → horn zs zt (eU i) 9 j = tAt t3 i j) (hc : ∀ i, i < 9 → ∀ j, j < 9 → Sg (fun k => tAt t1 i k * tAt t2 k j) 9 = tAt t3 i j) (c : Nat → Int) {j : Nat} (hj : j < 9) : horn zm zt (horn zs zm c 9) 9 j = horn zs zt c 9 j := by
  rw [tab_ok h2 _ hj, tab_ok h3 c hj]
  rw [Sg_congr (g := fun k => Sg (fun i => c i * (tAt t1 i k * tAt t2 k j)) 9) (fun k hk => by
    show horn zs zm c 9 k * tAt t2 k j = _
    rw [tab_ok h1 c hk, ← Sg_mulr]
    exact Sg_congr (fun i _ => Int.mul_assoc _ _ _))]
  rw [← Sg_swap (fun i k => c i * (tAt t1 i k * tAt t2 k j)) 9 9]
  refine Sg_congr (fun i hi => ?_)
  rw [Sg_mul, hc i hi j hj]
theorem comp012 (c : Nat → Int) {j : Nat} (hj : j < 9) : horn (zf 1) (zf 2) (horn (zf 0) (zf 1) c 9) 9 j = horn (zf 0) (zf 2) c 9 j := tab_comp tok01 tok12 tok02 (by decide +kernel) c hj
theorem comp210 (c : Nat → Int) {j : Nat} (hj : j < 9) : horn (zf 1) (zf 0) (horn (zf 2) (zf 1) c 9) 9 j = horn (zf 2) (zf 0) c 9 j := tab_comp tok21 tok10 tok20 (by decide +kernel) c hj
theorem horn11 (c : Nat → Int) {j : Nat} (hj : j < 9) : horn (zf 1) (zf 1) c 9 j = c j := by
  rw [tab_ok tok11 c hj]
  have : ∀ j, j < 9 → ∀ i, i < 9 → tAt tB11 i j = if j = i then 1 else 0 := by decide +kernel
  rw [Sg_congr (g := fun i => c i * (if j = i then 1 else 0)) (fun i hi => by rw [this j hj i hi]), Sg_one, if_pos hj]
theorem comp101 (c : Nat → Int) {j : Nat} (hj : j < 9) : horn (zf 0) (zf 1) (horn (zf 1) (zf 0) c 9) 9 j = c j := (tab_comp tok10 tok01 tok11 (by decide +kernel) c hj).trans (horn11 c hj)
theorem comp121 (c : Nat → Int) {j : Nat} (hj : j < 9) : horn (zf 2) (zf 1) (horn (zf 1) (zf 2) c 9) 9 j = c j := (tab_comp tok12 tok21 tok11 (by decide +kernel) c hj).trans (horn11 c hj)
/-- the top number stays -/
theorem horn_top {a : Nat} (ha : a = 0 ∨ a = 1 ∨ a = 2) (c : Nat → Int) : horn (zf a) (zf 1) c 9 8 = c 8 := by
  rcases ha with rfl | rfl | rfl
  · rw [tab_ok tok01 c (by decide)]
    rw [Sg_congr (g := fun i => c i * (if 8 = i then 1 else 0)) (fun i hi => by rw [show tAt tB01 i 8 = if 8 = i then 1 else 0 from (by decide +kernel : ∀ i, i < 9 → tAt tB01 i 8 = if 8 = i then 1 else 0) i hi]), Sg_one, if_pos (by decide)]
  · exact horn11 c (by decide)
  · rw [tab_ok tok21 c (by decide)]
    rw [Sg_congr (g := fun i => c i * (if 8 = i then 1 else 0)) (fun i hi => by rw [show tAt tB21 i 8 = if 8 = i then 1 else 0 from (by decide +kernel : ∀ i, i < 9 → tAt tB21 i 8 = if 8 = i then 1 else 0) i hi]), Sg_one, if_pos (by decide)]
theorem horn_b {a b : Nat} (ha : a = 0 ∨ a = 1 ∨ a = 2) (hb : b = 0 ∨ b = 1 ∨ b = 2) {c : Nat → Int} {C : Int} (hC : 0 ≤ C) (hc : ∀ i, i < 9 → -C ≤ c i ∧ c i ≤ C) {j : Nat} (hj : j < 9) : -(C * 158323) ≤ horn (zf a) (zf b) c 9 j ∧ horn (zf a) (zf b) c 9 j ≤ C * 158323 := by
  have H : ∀ (t : List (List Int)), (∀ i, i < 9 → ∀ j, j < 9 → horn (zf a) (zf b) (eU i) 9 j = tAt t i j) → (∀ j, j < 9 → Sg (fun i => ((tAt t i j).natAbs : Int)) 9 ≤ 158323) → -(C * 158323) ≤ horn (zf a) (zf b) c 9 j ∧ horn (zf a) (zf b) c 9 j ≤ C * 158323 := by
    intro t h1 h2
    rw [tab_ok h1 c hj]
    have h3 := Sg_bound (B := fun i => tAt t i j) hC hc
    have h4 : C * Sg (fun i => ((tAt t i j).natAbs : Int)) 9 ≤ C * 158323 := Int.mul_le_mul_of_nonneg_left (h2 j hj) hC
    omega
  rcases ha with rfl | rfl | rfl <;> rcases hb with rfl | rfl | rfl
  · exact H _ tok00 (by decide +kernel)
  · exact H _ tok01 (by decide +kernel)
  · exact H _ tok02 (by decide +kernel)
  · exact H _ tok10 (by decide +kernel)
  · exact H _ tok11 (by decide +kernel)
  · exact H _ tok12 (by decide +kernel)
  · exact H _ tok20 (by decide +kernel)
  · exact H _ tok21 (by decide +kernel)
  · exact H _ tok22 (by decide +kernel)
theorem horn_scale {zs zt c : Nat → Int} (a : Int) : ∀ d j, horn zs zt (fun i => a * c i) d j = a * horn zs zt c d j := by
  intro d
  induction d with
  | zero => intro j; show 0 = a * 0; rw [Int.mul_zero]
  | succ d ih =>
    intro j
    show ((if j = 0 then 0 else horn zs zt (fun i => a * c i) d (j - 1)) + (zt j - zs (8 - d)) * horn zs zt (fun i => a * c i) d j) + (if j = 0 then a * c (8 - d) else 0) = a * (((if j = 0 then 0 else horn zs zt c d (j - 1)) + (zt j - zs (8 - d)) * horn zs zt c d j) + (if j = 0 then c (8 - d) else 0))
    rw [ih, ih, Int.mul_add, Int.mul_add, Int.mul_left_comm a]
    by_cases h : j = 0
    · rw [if_pos h, if_pos h, if_pos h, if_pos h, Int.mul_zero]
    · rw [if_neg h, if_neg h, if_neg h, if_neg h, Int.mul_zero]
theorem horn_congr {zs zt c c' : Nat → Int} (h : ∀ i, i < 9 → c i = c' i) : ∀ d j, d ≤ 9 → horn zs zt c d j = horn zs zt c' d j := by
  intro d
  induction d with
  | zero => intro j _; rfl
  | succ d ih =>
    intro j hd
    show ((if j = 0 then 0 else horn zs zt c d (j - 1)) + (zt j - zs (8 - d)) * horn zs zt c d j) + (if j = 0 then c (8 - d) else 0) = ((if j = 0 then 0 else horn zs zt c' d (j - 1)) + (zt j - zs (8 - d)) * horn zs zt c' d j) + (if j = 0 then c' (8 - d) else 0)
    rw [ih _ (by omega), ih _ (by omega), h (8 - d) (by omega)]
