/-! rings, in the reference -/
theorem dN_id : ∀ i, i < 8 → i = dN 1985229328 i := by decide +kernel
theorem piece8 (c : Nat) (hc : c < 8) {P U X A : Nat} (h : chkP 7 P U X A = true) (hP : P = 0 + 1) (hU : U = erU 1985229328 c) (hX : X = 0 + dN 1985229328 c * 16 ^ 0) (hA : A = 0 + clN (dN 0) 0 (dN 1985229328 c)) : good0 7 (0 + 1) (skp (fun i => i) c) (updN o0 0 c) (0 + clN o0 0 c) := by
  have e1 : clN o0 0 c = clN (dN 0) 0 (dN 1985229328 c) := by rw [clN_congr (y := dN 0) (fun q hq => by omega), ← dN_id c hc]
  rw [e1, ← hA]
  rw [hP] at h
  refine chk_good (N := 8) 7 (0 + 1) U X A _ _ (by decide) h ?_ (fun q hq => ?_) (fun i hi => ?_)
  · have := dN_lt 1985229328 c
    rw [hX, Nat.pow_zero]; omega
  · obtain rfl : q = 0 := by omega
    rw [un_s, hX, dN_top (by decide) (dN_lt _ _)]
    exact ⟨dN_id c hc, hc⟩
  · rw [hU, dN_er]
    unfold skp
    split
    · exact ⟨dN_id i (by omega), show i < 8 by omega⟩
    · exact ⟨dN_id (i + 1) (by omega), show i + 1 < 8 by omega⟩
theorem good_top (n : Nat) (h1 : 1 ≤ n) (hn : n ≤ 8) : good0 n 0 (fun i => i) o0 0 := by
  by_cases h8 : n = 8
  · subst h8
    refine ⟨by decide +kernel, fun c hc => ?_⟩
    have hc8 : c < 8 := hc
    rcases (show c = 0 ∨ c = 1 ∨ c = 2 ∨ c = 3 ∨ c = 4 ∨ c = 5 ∨ c = 6 ∨ c = 7 by omega) with rfl | rfl | rfl | rfl | rfl | rfl | rfl | rfl
    · exact piece8 0 (by decide) chk8_0 rfl rfl (by decide +kernel) (by decide +kernel)
    · exact piece8 1 (by decide) chk8_1 rfl rfl (by decide +kernel) (by decide +kernel)
    · exact piece8 2 (by decide) chk8_2 rfl rfl (by decide +kernel) (by decide +kernel)
    · exact piece8 3 (by decide) chk8_3 rfl rfl (by decide +kernel) (by decide +kernel)
    · exact piece8 4 (by decide) chk8_4 rfl rfl (by decide +kernel) (by decide +kernel)
    · exact piece8 5 (by decide) chk8_5 rfl rfl (by decide +kernel) (by decide +kernel)
    · exact piece8 6 (by decide) chk8_6 rfl rfl (by decide +kernel) (by decide +kernel)
    · exact piece8 7 (by decide) chk8_7 rfl rfl (by decide +kernel) (by decide +kernel)
  · have H : chkP n 0 1985229328 0 0 = true := by
      rcases (show n = 1 ∨ n = 2 ∨ n = 3 ∨ n = 4 ∨ n = 5 ∨ n = 6 ∨ n = 7 by omega) with rfl | rfl | rfl | rfl | rfl | rfl | rfl
      · exact chk1
      · exact chk2
      · exact chk3
      · exact chk4
      · exact chk5
      · exact chk6
      · exact chk7
    exact chk_good (N := n) n 0 1985229328 0 0 _ _ (by omega) H (by decide) (fun q hq => by omega) (fun i hi => ⟨dN_id i (by omega), hi⟩)
theorem good0_leaf {n : Nat} : ∀ l p u x a y, p + l = n → y ∈ prm l p u x → good0 l p u x a → ∃ r, rgF y n 0 0 0 = some r
  | 0, p, u, x, a, y, h, hy, hg => by
    obtain rfl : p = n := by omega
    obtain rfl : y = x := List.mem_singleton.mp hy
    exact ⟨a, hg⟩
  | l + 1, p, u, x, a, y, h, hy, hg => by
    obtain ⟨c, _, h2, h3⟩ := mem_sibs.mp (show y ∈ sibs _ 0 (l + 1) from hy)
    exact good0_leaf l (p + 1) _ _ _ y (by omega) h3 (hg.2 c (by omega))
theorem cov_top (n : Nat) (x : Nat → Nat) : cov n 0 n (fun i => i) x := fun v hv => Or.inr ⟨v, hv, rfl⟩
theorem rgF_perm {n : Nat} (h1 : 1 ≤ n) (hn : n ≤ 8) {d : Nat → Nat} (hd : perm n d) : ∃ r, rgF d n 0 0 0 = some r := by
  obtain ⟨y, y1, y2⟩ := prm_mem hd n 0 (fun i => i) o0 (by omega) (fun i hi => by omega) (cov_top n o0)
  obtain ⟨r, hr⟩ := good0_leaf (n := n) n 0 _ _ 0 y (by omega) y1 (good_top n h1 hn)
  refine ⟨r, ?_⟩
  rw [← hr]
  exact rgF_congr (N := n) (fun q hq => ⟨(y2 q hq).symm, hd.1 q hq⟩) n 0 0 0 (by omega)
def mk0 (n : Nat) (y : Nat → Nat) : Nat := (rgF y n 0 0 0).getD 0
theorem tb32 : ∀ met, met < 256 → ∀ e, e < 8 → decide (((nI met >>> (nI e &&& 31)) &&& (1 : Int32)) = 0) = !(tb met e) := by decide +kernel
theorem or32 : ∀ met, met < 256 → ∀ e, e < 8 → (tb met e || (decide ((nI met ||| ((1 : Int32) <<< (nI e &&& 31))) = nI (met + 2 ^ e)) && decide (met + 2 ^ e < 256))) = true := by decide +kernel
theorem rings34 (k7 : Int32 → Int32 → Int32 → Int32 → MS → Option Int32) (M : MS) {n : Nat} (hn : n ≤ 8) {g : Nat → Int32} {y : Nat → Nat} (hg : rep n g y) (hy : ∀ q, q < n → y q < n) (v3 v4 : Int32) : ∀ (f F met e met' : Nat), wkF y f met e = some met' → met < 256 → e < n → f ≤ F → f_X12_rings_34 k7 F (nI n) (nI met) v3 v4 (nI e) (M_digit_s M g) = f_X12_rings_62 k7 (nI n) (nI met') v3 v4 (M_digit_s M g) ∧ met' < 256 := by
  intro f
  induction f with
  | zero => intro F met e met' h; cases h
  | succ f ih =>
    intro F met e met' h hm he hF
    obtain ⟨F, rfl⟩ : ∃ q, F = q + 1 := ⟨F - 1, by omega⟩
    have h' : cond (tb met e) (some met) (wkF y f (met + 2 ^ e) (y e)) = some met' := h
    have ht := tb32 met hm e (by omega)
    rw [f_X12_rings_34]
    cases hb : tb met e with
    | true =>
      rw [hb] at h' ht
      cases h'
      rw [if_neg (of_decide_eq_false ht)]
      exact ⟨rfl, hm⟩
    | false =>
      rw [hb] at h' ht
      have ho := or32 met hm e (by omega)
      rw [hb, Bool.false_or, Bool.and_eq_true, decide_eq_true_eq, decide_eq_true_eq] at ho
      rw [if_pos (of_decide_eq_true ht), jgd_n _ (by omega) (by decide), nI_clamp (by omega), dig_get, (hg e he).1, ho.1]
      exact ih F (met + 2 ^ e) (y e) met' h' ho.2 (hy e he) (by omega)
theorem rings7 (M : MS) {n : Nat} (hn : n ≤ 8) {g : Nat → Int32} {y : Nat → Nat} (hg : rep n g y) (hy : ∀ q, q < n → y q < n) : ∀ (c d met many r F : Nat), rgF y c d met many = some r → met < 256 → d + c = n → c < F → f_X12_rings_7 F (nI n) (nI met) (nI many) (nI d) (M_digit_s M g) = some (nI r) := by
  intro c
  induction c with
  | zero =>
    intro d met many r F h hm hd hF
    obtain ⟨F, rfl⟩ : ∃ q, F = q + 1 := ⟨F - 1, by omega⟩
    cases h
    rw [f_X12_rings_7, if_pos (nI_le (by omega) (by omega))]
  | succ c ih =>
    intro d met many r F h hm hd hF
    obtain ⟨F, rfl⟩ : ∃ q, F = q + 1 := ⟨F - 1, by omega⟩
    have h' : (match wkF y 9 met d with | none => none | some met' => rgF y c (d + 1) met' (many + cond (tb met d) 0 1)) = some r := h
    cases hw : wkF y 9 met d with
    | none => rw [hw] at h'; cases h'
    | some met' =>
      rw [hw] at h'
      have ht := tb32 met hm d (by omega)
      rw [f_X12_rings_7, if_neg (nI_ge (by omega) (by omega))]
      unfold f_X12_rings_28
      have go : ∀ t : Nat, t = cond (tb met d) 0 1 → f_X12_rings_34 (f_X12_rings_7 F) jFU (nI n) (nI met) (nI many + nI t) (nI d) (nI d) (M_digit_s M g) = some (nI r) := by
        intro t ht2
        obtain ⟨e1, e2⟩ := rings34 (f_X12_rings_7 F) M hn hg hy (nI many + nI t) (nI d) 9 jFU met d met' hw hm (by omega) (by unfold jFU; omega)
        rw [e1]
        unfold f_X12_rings_62
        rw [nI_add, nI_1, ht2]
        exact ih (d + 1) met' _ r F h' e2 (by omega) (by omega)
      cases hb : tb met d with
      | true =>
        rw [hb] at ht
        rw [if_neg (of_decide_eq_false ht)]
        exact go 0 (by rw [hb]; rfl)
      | false =>
        rw [hb] at ht
        rw [if_pos (of_decide_eq_true ht)]
        exact go 1 (by rw [hb]; rfl)
def mkA (mu n : Nat) (y : Nat → Nat) : Nat := if mu = 0 then mk0 n y else mkR mu y n
theorem mkA_congr {mu n : Nat} {x y : Nat → Nat} (h : ∀ i, i < n → y i = x i) (hx : ∀ i, i < n → x i < n) : mkA mu n y = mkA mu n x := by
  unfold mkA
  split
  · unfold mk0
    rw [rgF_congr (N := n) (fun q hq => ⟨h q hq, by rw [h q hq]; exact hx q hq⟩) n 0 0 0 (by omega)]
  · exact mkR_congr h
theorem markAll (M : MS) {n : Nat} (h1 : 1 ≤ n) (hn : n ≤ 8) {g : Nat → Int32} {y : Nat → Nat} (hg : rep n g y) (hp : perm n y) {mu : Nat} (hm4 : mu ≤ 4) : ∃ h, f_X12_markOf (nI n) (nI mu) (M_digit_s M g) = some (nI (mkA mu n y), M_digit_s (M_other_s M h) g) := by
  by_cases h0 : mu = 0
  · subst h0
    obtain ⟨r, hr⟩ := rgF_perm h1 hn hp
    refine ⟨M_other M, ?_⟩
    unfold f_X12_markOf
    rw [if_pos (by decide)]
    have e := rings7 M hn hg hp.1 n 0 0 0 r 1000000 hr (by decide) (by omega) (by omega)
    rw [show f_X12_rings (nI n) (M_digit_s M g) = some (nI r) from e, jbd_s, mo_self]
    show _ = some (nI (mk0 n y), M_digit_s M g)
    unfold mk0
    rw [hr]; rfl
  · obtain ⟨h, e⟩ := markM M hn hg (show 1 ≤ mu by omega) hm4
    refine ⟨h, ?_⟩
    rw [e, mo_comm]
    unfold mkA
    rw [if_neg h0]
theorem SN_one {cl : Nat → Nat} (A B : Nat) (f : Nat → Nat) : ∀ l, (∀ c, c < l → cl c = 0 ∨ cl c = 1) → (∀ c, c < l → f c = if cl c = 1 then A else B) → SN f l + SN cl l * B = SN cl l * A + l * B
  | 0, _, _ => by show 0 + 0 * B = 0 * A + 0 * B; omega
  | l + 1, h1, h2 => by
    have ih := SN_one A B f l (fun c hc => h1 c (by omega)) (fun c hc => h2 c (by omega))
    show SN f l + f l + (SN cl l + cl l) * B = (SN cl l + cl l) * A + (l + 1) * B
    rw [h2 l (by omega), Nat.add_mul, Nat.add_mul, Nat.add_mul]
    rcases h1 l (by omega) with e | e
    · rw [e, if_neg (by decide)]; omega
    · rw [e, if_pos rfl]; omega
theorem clN_01 (x : Nat → Nat) (p d : Nat) : clN x p d = 0 ∨ clN x p d = 1 := by
  unfold clN
  cases Nat.beq (ceN x p p d) p with
  | true => exact Or.inr rfl
  | false => exact Or.inl rfl
theorem good_0 (n : Nat) (hn : n ≤ 8) : Good n (mk0 n) T0 (fun p u x _ _ c => clN x p (u c)) (fun _ _ _ _ _ _ => 0) (fun p l u x s a => s = 0 ∧ good0 l p u x a) := by
  refine ⟨fun u x s a h => ⟨?_, fun m hm => ?_⟩, fun p l u x s a c hp h hi hc => ⟨rfl, h.2.2 c (by omega)⟩, fun p l u x s a hp h m hm => ?_⟩
  · have : rgF x n 0 0 0 = some a := h.2
    unfold mk0
    rw [this]; rfl
  · rw [h.1]; exact base0 m hm
  · rw [h.1, rec0 l (by omega) m hm]
    have e := SN_one (cl := fun c => clN x p (u c)) (wN T0 0 l m 1) (wN T0 0 l m 0) (fun c => wN T0 0 l m (clN x p (u c))) (l + 1) (fun c _ => clN_01 _ _ _) (fun c _ => by
      rcases clN_01 x p (u c) with q | q
      · rw [q, if_neg (by decide)]
      · rw [q, if_pos rfl])
    rw [h.2.1] at e
    have e0 : wN T0 0 l m 0 = T0 0 l m := by unfold wN; rw [if_neg (by omega)]; rfl
    rw [e0, Nat.one_mul, Nat.one_mul, Nat.succ_mul] at e
    show wN T0 0 l m 1 + l * T0 0 l m = SN (fun c => wN T0 0 l m (clN x p (u c))) (l + 1)
    omega
