/-! one walk for all five marks -/
def GM (gr : Int32 → Int32 → Int32 → Int32 → OrdersS → Option Int32) (nxI : Int32 → Int32 → Int32 → Option Int32) : Nat → Int32 → Int32 → Int32 → Int32 → OrdersS → Option (Int32 × OrdersS)
  | 0, _, _, _, _, _ => none
  | n + 1, v1, v5, v6, v7, s0 => if v1 ≤ v7 then some (v6, s0) else jbd (f_X6_lesserLater v1 v7 s0) (fun r41 => jbd (gr v5 (v1 - v7) r41 v7 s0) (fun r64 => jbd (nxI v5 (v1 - v7) r41) (fun r80 => GM gr nxI n v1 r80 (v6 + r64) (v7 + (1 : Int32)) s0)))
def G55 (gr : Int32 → Int32 → Int32 → Int32 → OrdersS → Option Int32) (nxI : Int32 → Int32 → Int32 → Option Int32) (wy : Int32 → Int32 → Int32 → OrdersS → Option (Int32 × OrdersS)) (k33 : Int32 → Int32 → Int32 → Int32 → Int32 → Int32 → OrdersS → Option (Int32 × OrdersS)) : Nat → Int32 → Int32 → Int32 → Int32 → Int32 → Int32 → Int32 → Int32 → OrdersS → Option (Int32 × OrdersS)
  | 0, _, _, _, _, _, _, _, _, _ => none
  | n + 1, v1, v6, v7, v8, v9, v10, v11, v12, s0 =>
    if v11 ≤ v12 then f_X6_ith_160 k33 v1 v6 v7 v8 v9 v10 s0
    else jbd (f_X6_unusedDigit v9 v12) (fun r72 => jgd v10 8 (jbd (gr v6 v11 v12 v10 (Orders_row_s s0 (upd (Orders_row s0) (Int32.toNatClampNeg v10) r72))) (fun r90 => jbd (nxI v6 v11 v12) (fun r103 => jbd (wy r103 (v11 - (1 : Int32)) (v7 - r90) (Orders_row_s s0 (upd (Orders_row s0) (Int32.toNatClampNeg v10) r72))) (fun r => if r.1 ≤ v8 then G55 gr nxI wy k33 n v1 v6 v7 (v8 - r.1) v9 v10 v11 (v12 + (1 : Int32)) r.2 else f_X6_ith_160 k33 v1 r103 (v7 - r90) v8 v9 v10 r.2)))))
def G33 (gr : Int32 → Int32 → Int32 → Int32 → OrdersS → Option Int32) (nxI : Int32 → Int32 → Int32 → Option Int32) (wy : Int32 → Int32 → Int32 → OrdersS → Option (Int32 × OrdersS)) : Nat → Int32 → Int32 → Int32 → Int32 → Int32 → Int32 → OrdersS → Option (Int32 × OrdersS)
  | 0, _, _, _, _, _, _, _ => none
  | n + 1, v1, v6, v7, v8, v9, v10, s0 => if v1 ≤ v10 then f_X6_ith_182 v1 s0 else if (8 : Int32) ≤ v10 then f_X6_ith_182 v1 s0 else G55 gr nxI wy (G33 gr nxI wy n) jFU v1 v6 v7 v8 v9 v10 (v1 - v10) (0 : Int32) s0
theorem jbd_m {α β γ : Type} (x : Option α) (F : α → β) (K : β → Option γ) : jbd (jbd x (fun r => some (F r))) K = jbd x (fun r => K (F r)) := by cases x <;> rfl
def grA (mu : Nat) (s l j p : Int32) (o : OrdersS) : Option Int32 := match mu with
  | 0 => f_X9_growth s l j p (Orders_row o)
  | 1 => f_X0_growth s l j p
  | 2 => f_X3_growth s l j p
  | 3 => f_X1_growth s l j p
  | _ => f_X4_growth s l j p (Orders_rise o)
def nxA (mu : Nat) (s l j : Int32) : Option Int32 := match mu with
  | 0 => f_X9_next s l j
  | 1 => f_X0_next s l j
  | 2 => f_X3_next s l j
  | 3 => f_X1_next s l j
  | _ => f_X4_next s l j
def wyA (mu : Nat) (s l m : Int32) (o : OrdersS) : Option (Int32 × OrdersS) := match mu with
  | 0 => jbd (f_X9_ways s l m (Orders_rings o)) (fun r => some (r, o))
  | 1 => jbd (f_X0_ways s l m (Orders_falls o)) (fun r => some (r, o))
  | 2 => jbd (f_X3_ways s l m (Orders_pairs o)) (fun r => some (r, o))
  | 3 => jbd (f_X1_ways s l m (Orders_rings o)) (fun r => some (r, o))
  | _ => jbd (f_X4_ways s l m (Orders_rise o)) (fun r => some (r.1, Orders_rise_s o r.2))
theorem GM_0 : ∀ n v1 v5 v6 v7 o, f_X6_markOf_31 n v1 v5 v6 v7 o = GM (grA 0) (nxA 0) n v1 v5 v6 v7 o
  | 0, _, _, _, _, _ => rfl
  | n + 1, v1, v5, v6, v7, o => by
    rw [f_X6_markOf_31, GM]
    simp only [GM_0 n]
    rfl
theorem G55_0 (k33 : Int32 → Int32 → Int32 → Int32 → Int32 → Int32 → OrdersS → Option (Int32 × OrdersS)) : ∀ n v1 v6 v7 v8 v9 v10 v11 v12 o, f_X6_ith_55 k33 n v1 v6 v7 v8 v9 v10 v11 v12 o = G55 (grA 0) (nxA 0) (wyA 0) k33 n v1 v6 v7 v8 v9 v10 v11 v12 o
  | 0, _, _, _, _, _, _, _, _, _ => rfl
  | n + 1, v1, v6, v7, v8, v9, v10, v11, v12, o => by
    rw [f_X6_ith_55, G55]
    simp only [G55_0 k33 n, wyA, jbd_m]
    rfl
theorem G33_0 : ∀ n, f_X6_ith_33 n = G33 (grA 0) (nxA 0) (wyA 0) n
  | 0 => by funext v1 v6 v7 v8 v9 v10 o; rfl
  | n + 1 => by
    funext v1 v6 v7 v8 v9 v10 o
    rw [f_X6_ith_33, G33, G55_0, G33_0 n]
theorem GM_1 : ∀ n v1 v5 v6 v7 o, f_X6_markOf_31a n v1 v5 v6 v7 o = GM (grA 1) (nxA 1) n v1 v5 v6 v7 o
  | 0, _, _, _, _, _ => rfl
  | n + 1, v1, v5, v6, v7, o => by
    rw [f_X6_markOf_31a, GM]
    simp only [GM_1 n]
    rfl
theorem G55_1 (k33 : Int32 → Int32 → Int32 → Int32 → Int32 → Int32 → OrdersS → Option (Int32 × OrdersS)) : ∀ n v1 v6 v7 v8 v9 v10 v11 v12 o, f_X6_ith_55a k33 n v1 v6 v7 v8 v9 v10 v11 v12 o = G55 (grA 1) (nxA 1) (wyA 1) k33 n v1 v6 v7 v8 v9 v10 v11 v12 o
  | 0, _, _, _, _, _, _, _, _, _ => rfl
  | n + 1, v1, v6, v7, v8, v9, v10, v11, v12, o => by
    rw [f_X6_ith_55a, G55]
    simp only [G55_1 k33 n, wyA, jbd_m]
    rfl
theorem G33_1 : ∀ n, f_X6_ith_33a n = G33 (grA 1) (nxA 1) (wyA 1) n
  | 0 => by funext v1 v6 v7 v8 v9 v10 o; rfl
  | n + 1 => by
    funext v1 v6 v7 v8 v9 v10 o
    rw [f_X6_ith_33a, G33, G55_1, G33_1 n]
theorem GM_2 : ∀ n v1 v5 v6 v7 o, f_X6_markOf_31b n v1 v5 v6 v7 o = GM (grA 2) (nxA 2) n v1 v5 v6 v7 o
  | 0, _, _, _, _, _ => rfl
  | n + 1, v1, v5, v6, v7, o => by
    rw [f_X6_markOf_31b, GM]
    simp only [GM_2 n]
    rfl
theorem G55_2 (k33 : Int32 → Int32 → Int32 → Int32 → Int32 → Int32 → OrdersS → Option (Int32 × OrdersS)) : ∀ n v1 v6 v7 v8 v9 v10 v11 v12 o, f_X6_ith_55b k33 n v1 v6 v7 v8 v9 v10 v11 v12 o = G55 (grA 2) (nxA 2) (wyA 2) k33 n v1 v6 v7 v8 v9 v10 v11 v12 o
  | 0, _, _, _, _, _, _, _, _, _ => rfl
  | n + 1, v1, v6, v7, v8, v9, v10, v11, v12, o => by
    rw [f_X6_ith_55b, G55]
    simp only [G55_2 k33 n, wyA, jbd_m]
    rfl
theorem G33_2 : ∀ n, f_X6_ith_33b n = G33 (grA 2) (nxA 2) (wyA 2) n
  | 0 => by funext v1 v6 v7 v8 v9 v10 o; rfl
  | n + 1 => by
    funext v1 v6 v7 v8 v9 v10 o
    rw [f_X6_ith_33b, G33, G55_2, G33_2 n]
theorem GM_3 : ∀ n v1 v5 v6 v7 o, f_X6_markOf_31c n v1 v5 v6 v7 o = GM (grA 3) (nxA 3) n v1 v5 v6 v7 o
  | 0, _, _, _, _, _ => rfl
  | n + 1, v1, v5, v6, v7, o => by
    rw [f_X6_markOf_31c, GM]
    simp only [GM_3 n]
    rfl
theorem G55_3 (k33 : Int32 → Int32 → Int32 → Int32 → Int32 → Int32 → OrdersS → Option (Int32 × OrdersS)) : ∀ n v1 v6 v7 v8 v9 v10 v11 v12 o, f_X6_ith_55c k33 n v1 v6 v7 v8 v9 v10 v11 v12 o = G55 (grA 3) (nxA 3) (wyA 3) k33 n v1 v6 v7 v8 v9 v10 v11 v12 o
  | 0, _, _, _, _, _, _, _, _, _ => rfl
  | n + 1, v1, v6, v7, v8, v9, v10, v11, v12, o => by
    rw [f_X6_ith_55c, G55]
    simp only [G55_3 k33 n, wyA, jbd_m]
    rfl
theorem G33_3 : ∀ n, f_X6_ith_33c n = G33 (grA 3) (nxA 3) (wyA 3) n
  | 0 => by funext v1 v6 v7 v8 v9 v10 o; rfl
  | n + 1 => by
    funext v1 v6 v7 v8 v9 v10 o
    rw [f_X6_ith_33c, G33, G55_3, G33_3 n]
theorem GM_4 : ∀ n v1 v5 v6 v7 o, f_X6_markOf_31d n v1 v5 v6 v7 o = GM (grA 4) (nxA 4) n v1 v5 v6 v7 o
  | 0, _, _, _, _, _ => rfl
  | n + 1, v1, v5, v6, v7, o => by
    rw [f_X6_markOf_31d, GM]
    simp only [GM_4 n]
    rfl
theorem G55_4 (k33 : Int32 → Int32 → Int32 → Int32 → Int32 → Int32 → OrdersS → Option (Int32 × OrdersS)) : ∀ n v1 v6 v7 v8 v9 v10 v11 v12 o, f_X6_ith_55d k33 n v1 v6 v7 v8 v9 v10 v11 v12 o = G55 (grA 4) (nxA 4) (wyA 4) k33 n v1 v6 v7 v8 v9 v10 v11 v12 o
  | 0, _, _, _, _, _, _, _, _, _ => rfl
  | n + 1, v1, v6, v7, v8, v9, v10, v11, v12, o => by
    rw [f_X6_ith_55d, G55]
    simp only [G55_4 k33 n, wyA, jbd_m]
    rfl
theorem G33_4 : ∀ n, f_X6_ith_33d n = G33 (grA 4) (nxA 4) (wyA 4) n
  | 0 => by funext v1 v6 v7 v8 v9 v10 o; rfl
  | n + 1 => by
    funext v1 v6 v7 v8 v9 v10 o
    rw [f_X6_ith_33d, G33, G55_4, G33_4 n]
/-! what a step of the class does -/
def Cls (n v : Nat) (T : Nat → Nat → Nat → Nat) (g nx : Nat → (Nat → Nat) → (Nat → Nat) → Nat → Nat → Nat → Nat) (Iv : Nat → Nat → (Nat → Nat) → (Nat → Nat) → Nat → Nat → Prop) (mu : Nat) : Prop :=
  (∀ p l u x s a c o, p + (l + 1) = n → c ≤ l → Iv p (l + 1) u x s a → (∀ i, i < l + 1 → u i < 8) → (∀ q, q < p → Orders_row o q = nI (x q) ∧ x q < 8) → Orders_row o p = nI (u c) → grA mu (nI s) (nI (l + 1)) (nI c) (nI p) o = some (nI (g p u x s (l + 1) c)) ∧ g p u x s (l + 1) c ≤ 8) ∧
  (∀ p l u x s a c, p + (l + 1) = n → c ≤ l → Iv p (l + 1) u x s a → nxA mu (nI s) (nI (l + 1)) (nI c) = some (nI (nx p u x s (l + 1) c))) ∧
  (∀ p l u x s a o, p + l = n → Iv p l u x s a → a ≤ 1000 → ROrd o → ∃ o', wyA mu (nI s) (nI l) (J32 ((v : Int) - a)) o = some (nI (wN T s l v a), o') ∧ ROrd o' ∧ Orders_row o' = Orders_row o)
theorem cls0 (n v : Nat) (hn : n ≤ 8) (hv : v < 29) : Cls n v T0 (fun p u x _ _ c => clN x p (u c)) (fun _ _ _ _ _ _ => 0) (fun p l u x s a => s = 0 ∧ good0 l p u x a) 0 := by
  refine ⟨fun p l u x s a c o hp hc hI hu hx hr => ⟨?_, ?_⟩, fun p l u x s a c hp hc hI => rfl, fun p l u x s a o hp hI ha hO => ?_⟩
  · show f_X9_growth (nI s) (nI (l + 1)) (nI c) (nI p) (Orders_row o) = some (nI (clN x p (u c)))
    exact gr9 (by omega) (fun q hq => (hx q hq).1) (fun q hq => (hx q hq).2) hr (hu c (by omega)) _ _ _
  · show clN x p (u c) ≤ 8
    rcases clN_01 x p (u c) with e | e <;> omega
  · refine ⟨o, ?_, hO, rfl⟩
    show jbd (f_X9_ways (nI s) (nI l) (J32 ((v : Int) - a)) (Orders_rings o)) (fun r => some (r, o)) = _
    have hs : s = 0 := hI.1
    rw [hO.1, ways9 _ (by omega) hv ha, jbd_s, hs]
theorem cls1 (n v : Nat) (hn : n ≤ 8) (hv : v < 29) : Cls n v T1 (fun _ _ _ s _ c => if c < s then 1 else 0) (fun _ _ _ _ _ c => c) (fun p l u x s a => I1 p l u x s a) 1 := by
  refine ⟨fun p l u x s a c o hp hc hI hu hx hr => ⟨?_, ?_⟩, fun p l u x s a c hp hc hI => rfl, fun p l u x s a o hp hI ha hO => ?_⟩
  · have hs : s ≤ l + 1 := hI.2.1
    show (if nI s ≤ nI c then some (0 : Int32) else some 1) = some (nI (if c < s then 1 else 0))
    by_cases e : c < s
    · rw [if_neg (nI_ge e (by omega)), if_pos e]; rfl
    · rw [if_pos (nI_le (by omega) (by omega)), if_neg e]; rfl
  · show (if c < s then 1 else 0) ≤ 8
    split <;> omega
  · refine ⟨o, ?_, hO, rfl⟩
    show jbd (f_X0_ways (nI s) (nI l) (J32 ((v : Int) - a)) (Orders_falls o)) (fun r => some (r, o)) = _
    rw [hO.2.1, ways0 (by omega) hI.2.1 hv ha, jbd_s]
theorem cls2 (n v : Nat) (hn : n ≤ 8) (hv : v < 29) : Cls n v T2 (fun _ _ _ _ _ c => c) (fun _ _ _ _ _ _ => 0) (fun p l u x s a => s = 0 ∧ I2 p l u x a) 2 := by
  refine ⟨fun p l u x s a c o hp hc hI hu hx hr => ⟨rfl, show c ≤ 8 by omega⟩, fun p l u x s a c hp hc hI => rfl, fun p l u x s a o hp hI ha hO => ?_⟩
  refine ⟨o, ?_, hO, rfl⟩
  show jbd (f_X3_ways (nI s) (nI l) (J32 ((v : Int) - a)) (Orders_pairs o)) (fun r => some (r, o)) = _
  have hs : s = 0 := hI.1
  rw [hO.2.2.1, ways3 _ (by omega) hv ha, jbd_s, hs]
theorem cls3 (n v : Nat) (hn : n ≤ 8) (hv : v < 29) : Cls n v T3 (fun _ _ _ s l c => if l - s ≤ c then 1 else 0) (fun _ _ _ s l c => min s (l - 1 - c)) (fun p l u x s a => I3 p l u x s a) 3 := by
  refine ⟨fun p l u x s a c o hp hc hI hu hx hr => ⟨?_, ?_⟩, fun p l u x s a c hp hc hI => ?_, fun p l u x s a o hp hI ha hO => ?_⟩
  · have hs : s ≤ l + 1 := hI.2.1
    show (if nI c < (nI (l + 1) - nI s) then some (0 : Int32) else some 1) = some (nI (if l + 1 - s ≤ c then 1 else 0))
    rw [pk_sub hs]
    by_cases e : l + 1 - s ≤ c
    · rw [if_neg (nI_nlt e (by omega)), if_pos e]; rfl
    · rw [if_pos (nI_lt (by omega) (by omega)), if_neg e]; rfl
  · show (if l + 1 - s ≤ c then 1 else 0) ≤ 8
    split <;> omega
  · have hs : s ≤ l + 1 := hI.2.1
    show jbd (f_J9_min_7cf53 (nI s) ((nI (l + 1) - (1 : Int32)) - nI c)) (fun r6 => some r6) = some (nI (min s (l + 1 - 1 - c)))
    rw [nI_pred, pk_sub hc, min32 (by omega) (by omega), jbd_s, Nat.add_sub_cancel]
  · refine ⟨o, ?_, hO, rfl⟩
    show jbd (f_X1_ways (nI s) (nI l) (J32 ((v : Int) - a)) (Orders_rings o)) (fun r => some (r, o)) = _
    rw [hO.1, ways1 (by omega) hI.2.1 hv ha, jbd_s]
theorem cls4 (n v : Nat) (hn : n ≤ 8) (hv : v < 29) : Cls n v T4 (fun _ _ _ s _ c => ocw 9 (nxW s c) - ocw 9 s) (fun _ _ _ s _ c => nxW s c) (fun p l u x s a => I4 p l u x s a) 4 := by
  refine ⟨fun p l u x s a c o hp hc hI hu hx hr => ?_, fun p l u x s a c hp hc hI => ?_, fun p l u x s a o hp hI ha hO => ?_⟩
  · obtain ⟨_, b1, b2, b3, b4, _⟩ := hI
    have hz := zcw_le s b2
    obtain ⟨a1, a2, a3, a4⟩ := nxW_ok s b2 b1 c (by omega) (by omega)
    have hz2 := zcw_le _ a2
    refine ⟨?_, show ocw 9 (nxW s c) - ocw 9 s ≤ 8 by omega⟩
    show jbd (f_X4_next (nI s) (nI (l + 1)) (nI c)) (fun r4 => jbd (f_J6_bitCount_0f7a4 r4) (fun r7 => jbd (f_J6_bitCount_0f7a4 (nI s)) (fun r11 => some (r7 - r11)))) = _
    rw [show f_X4_next (nI s) (nI (l + 1)) (nI c) = some (nI (nxW s c)) from nxW_eq s b2 c (by omega), jbd_s, bc_eq a1 a2, jbd_s, bc_eq b1 b2, jbd_s, pk_sub (by omega)]
    rw [show ocw 9 (nxW s c) + 1 - (ocw 9 s + 1) = ocw 9 (nxW s c) - ocw 9 s by omega]
  · obtain ⟨_, b1, b2, b3, b4, _⟩ := hI
    have hz := zcw_le s b2
    exact nxW_eq s b2 c (by omega)
  · obtain ⟨_, b1, b2, b3, b4, _⟩ := hI
    obtain ⟨r', e1, e2⟩ := ways4 hO.2.2.2 (nI l) b1 b2 hv ha
    refine ⟨Orders_rise_s o r', ?_, ⟨hO.1, hO.2.1, hO.2.2.1, e2⟩, rfl⟩
    show jbd (f_X4_ways (nI s) (nI l) (J32 ((v : Int) - a)) (Orders_rise o)) (fun r => some (r.1, Orders_rise_s o r.2)) = _
    rw [e1, jbd_s]; rfl
theorem cnt_len {α : Type} (p : α → Bool) : ∀ L : List α, cntP p L ≤ L.length
  | [] => Nat.le_refl _
  | x :: t => by
    have := cnt_len p t
    show (if p x then 1 else 0) + cntP p t ≤ t.length + 1
    split <;> omega
section
variable {n v : Nat} {mk : (Nat → Nat) → Nat} {T : Nat → Nat → Nat → Nat} {g nx : Nat → (Nat → Nat) → (Nat → Nat) → Nat → Nat → Nat → Nat} {Iv : Nat → Nat → (Nat → Nat) → (Nat → Nat) → Nat → Nat → Prop} {mu : Nat}
theorem g55 (HG : Good n mk T g nx Iv) (HC : Cls n v T g nx Iv mu) (hv : v < 29) (hn : n ≤ 8) (k33 : Int32 → Int32 → Int32 → Int32 → Int32 → Int32 → OrdersS → Option (Int32 × OrdersS)) {p l : Nat} {u x : Nat → Nat} {s a mask : Nat} (hp : p + (l + 1) = n) (hi : inc u (l + 1)) (hI : Iv p (l + 1) u x s a) (hu : ∀ i, i < l + 1 → u i < 8) (hx : ∀ q, q < p → x q < 8) (ha : a ≤ 8 * p) (hm : maskOk mask (l + 1) u) : ∀ (d c f i : Nat) (o : OrdersS), c + d = l + 1 → d < f → ROrd o → (∀ q, q < p → Orders_row o q = nI (x q)) → i < cntP (fun y => decide (mk y = v)) (sibs (fun c => prm l (p + 1) (skp u c) (updN x p (u c))) c d) → i < 2 ^ 31 → ∃ c' i' o', c' ≤ l ∧ nthP (fun y => decide (mk y = v)) (sibs (fun c => prm l (p + 1) (skp u c) (updN x p (u c))) c d) i = nthP (fun y => decide (mk y = v)) (prm l (p + 1) (skp u c') (updN x p (u c'))) i' ∧ i' < cntP (fun y => decide (mk y = v)) (prm l (p + 1) (skp u c') (updN x p (u c'))) ∧ G55 (grA mu) (nxA mu) (wyA mu) k33 f (nI n) (nI s) (J32 ((v : Int) - a)) (nI i) (nI mask) (nI p) (nI (l + 1)) (nI c) o = f_X6_ith_160 k33 (nI n) (nI (nx p u x s (l + 1) c')) (J32 ((v : Int) - ((a + g p u x s (l + 1) c' : Nat) : Int))) (nI i') (nI mask) (nI p) o' ∧ ROrd o' ∧ (∀ q, q < p → Orders_row o' q = nI (x q)) ∧ Orders_row o' p = nI (u c') := by
  intro d
  induction d with
  | zero =>
    intro c f i o h1 hf hO hrow hci h31
    have : i < 0 := hci
    omega
  | succ d ih =>
    intro c f i o h1 hf hO hrow hci h31
    obtain ⟨f, rfl⟩ : ∃ x, f = x + 1 := ⟨f - 1, by omega⟩
    have hcl : c ≤ l := by omega
    obtain ⟨m1, m2⟩ := mask_digit hm (by omega) (show c < l + 1 by omega)
    have hI' := HG.2.1 p l u x s a c hp hI hi hcl
    have hcnt := cnt_gen hv HG l (p + 1) (skp u c) (updN x p (u c)) _ _ (by omega) (inc_skp hi c) hI'
    have hlen := cnt_len (fun y => decide (mk y = v)) (prm l (p + 1) (skp u c) (updN x p (u c)))
    rw [prm_len l _ _ _ (by omega)] at hlen
    have hfc := fc_r l (by omega)
    have hrow1 : ∀ q, q < p → Orders_row (Orders_row_s o (upd (Orders_row o) p (nI (u c)))) q = nI (x q) ∧ x q < 8 := fun q hq => ⟨(pk_un (by omega)).trans (hrow q hq), hx q hq⟩
    have hrowp : Orders_row (Orders_row_s o (upd (Orders_row o) p (nI (u c)))) p = nI (u c) := pk_us
    obtain ⟨e1, e2⟩ := HC.1 p l u x s a c (Orders_row_s o (upd (Orders_row o) p (nI (u c)))) hp hcl hI hu hrow1 hrowp
    have e3 := HC.2.1 p l u x s a c hp hcl hI
    obtain ⟨o', w1, w2, w3⟩ := HC.2.2 (p + 1) l (skp u c) (updN x p (u c)) _ _ (Orders_row_s o (upd (Orders_row o) p (nI (u c)))) (by omega) hI' (by omega) hO
    have hJ : J32 ((v : Int) - a) - nI (g p u x s (l + 1) c) = J32 ((v : Int) - ((a + g p u x s (l + 1) c : Nat) : Int)) := by
      rw [J_nI, J_sub]; exact congrArg J32 (by omega)
    have hci' : i < cntP (fun y => decide (mk y = v)) (prm l (p + 1) (skp u c) (updN x p (u c)) ++ sibs (fun c => prm l (p + 1) (skp u c) (updN x p (u c))) (c + 1) d) := hci
    have hnth : nthP (fun y => decide (mk y = v)) (sibs (fun c => prm l (p + 1) (skp u c) (updN x p (u c))) c (d + 1)) i = if i < cntP (fun y => decide (mk y = v)) (prm l (p + 1) (skp u c) (updN x p (u c))) then nthP (fun y => decide (mk y = v)) (prm l (p + 1) (skp u c) (updN x p (u c))) i else nthP (fun y => decide (mk y = v)) (sibs (fun c => prm l (p + 1) (skp u c) (updN x p (u c))) (c + 1) d) (i - cntP (fun y => decide (mk y = v)) (prm l (p + 1) (skp u c) (updN x p (u c)))) := nth_app _ _ _ _
    rw [cnt_app] at hci'
    rw [hnth, G55, if_neg (nI_ge (by omega) (by omega)), m1, jbd_s, jgd_n _ (by omega) (by decide), nI_clamp (by omega), e1, jbd_s, e3, jbd_s, nI_pred, hJ, w1, jbd_s, ← hcnt]
    by_cases hw : i < cntP (fun y => decide (mk y = v)) (prm l (p + 1) (skp u c) (updN x p (u c)))
    · rw [if_pos hw, if_neg (show ¬ nI (cntP (fun y => decide (mk y = v)) (prm l (p + 1) (skp u c) (updN x p (u c)))) ≤ nI i from nI_ge hw (by omega))]
      exact ⟨c, i, o', hcl, rfl, hw, rfl, w2, fun q hq => by rw [w3]; exact (hrow1 q hq).1, by rw [w3]; exact hrowp⟩
    · rw [if_neg hw, if_pos (show nI (cntP (fun y => decide (mk y = v)) (prm l (p + 1) (skp u c) (updN x p (u c)))) ≤ nI i from nI_le (by omega) h31)]
      show ∃ c' i' o'', _ ∧ _ ∧ _ ∧ G55 (grA mu) (nxA mu) (wyA mu) k33 f (nI n) (nI s) (J32 ((v : Int) - a)) (nI i - nI (cntP (fun y => decide (mk y = v)) (prm l (p + 1) (skp u c) (updN x p (u c))))) (nI mask) (nI p) (nI (l + 1)) (nI c + 1) o' = _ ∧ _
      rw [pk_sub (by omega), nI_1]
      exact ih (c + 1) f _ o' (by omega) (by omega) w2 (fun q hq => by rw [w3]; exact (hrow1 q hq).1) (by omega) (by omega)
theorem g33 (HG : Good n mk T g nx Iv) (HC : Cls n v T g nx Iv mu) (hv : v < 29) (hn : n ≤ 8) : ∀ (l p : Nat) (u x : Nat → Nat) (s a i f mask : Nat) (o : OrdersS), p + l = n → inc u l → Iv p l u x s a → (∀ i, i < l → u i < 8) → (∀ q, q < p → x q < 8) → a ≤ 8 * p → maskOk mask l u → ROrd o → (∀ q, q < p → Orders_row o q = nI (x q)) → i < cntP (fun y => decide (mk y = v)) (prm l p u x) → i < 2 ^ 31 → l < f → ∃ y o', nthP (fun y => decide (mk y = v)) (prm l p u x) i = some y ∧ G33 (grA mu) (nxA mu) (wyA mu) f (nI n) (nI s) (J32 ((v : Int) - a)) (nI i) (nI mask) (nI p) o = some (nI (pkN y n), o') ∧ ROrd o' := by
  intro l
  induction l with
  | zero =>
    intro p u x s a i f mask o hp hi hI hu hx ha hm hO hrow hci h31 hf
    obtain ⟨f, rfl⟩ : ∃ x, f = x + 1 := ⟨f - 1, by omega⟩
    obtain rfl : p = n := by omega
    have hci' : i < (if decide (mk x = v) = true then 1 else 0) + 0 := hci
    refine ⟨x, o, ?_, ?_, hO⟩
    · by_cases e : decide (mk x = v) = true
      · rw [if_pos e] at hci'
        obtain rfl : i = 0 := by omega
        show (if decide (mk x = v) = true then some x else none) = some x
        rw [if_pos e]
      · rw [if_neg e] at hci'; omega
    · rw [G33, if_pos (nI_le (by omega) (by omega))]
      unfold f_X6_ith_182
      rw [packX _ hn, jbd_s, pkI_nI (d := x) hn (fun k hk => ⟨hrow k hk, by have := hx k hk; omega⟩)]
  | succ l ih =>
    intro p u x s a i f mask o hp hi hI hu hx ha hm hO hrow hci h31 hf
    obtain ⟨f, rfl⟩ : ∃ x, f = x + 1 := ⟨f - 1, by omega⟩
    obtain ⟨c, i', o', b1, b2, b3, b4, b5, b6, b7⟩ := g55 HG HC hv hn (G33 (grA mu) (nxA mu) (wyA mu) f) hp hi hI hu hx ha hm (l + 1) 0 1000000 i o (by omega) (by omega) hO hrow hci h31
    have hI' := HG.2.1 p l u x s a c hp hI hi b1
    have hg8 := (HC.1 p l u x s a c o' hp b1 hI hu (fun q hq => ⟨b6 q hq, hx q hq⟩) b7).2
    have hlen := cnt_len (fun y => decide (mk y = v)) (prm l (p + 1) (skp u c) (updN x p (u c)))
    rw [prm_len l _ _ _ (by omega)] at hlen
    have hfc := fc_r l (by omega)
    obtain ⟨y, o2, c1, c2, c3⟩ := ih (p + 1) (skp u c) (updN x p (u c)) _ _ i' f (mask - 2 ^ u c) o' (by omega) (inc_skp hi c) hI' (skp_bd hu c) (fun q hq => by
      by_cases e : q = p
      · subst e; rw [un_s]; exact hu c (by omega)
      · rw [un_n e]; exact hx q (by omega)) (by omega) (mask_s hm (by omega) b1) b5 (fun q hq => by
      by_cases e : q = p
      · subst e; rw [un_s]; exact b7
      · rw [un_n e]; exact b6 q (by omega)) b3 (by omega) (by omega)
    refine ⟨y, o2, ?_, ?_, c3⟩
    · show nthP _ (sibs _ 0 (l + 1)) i = some y
      rw [b2]; exact c1
    · rw [G33, if_neg (nI_ge (by omega) (by omega)), if_neg (ge_lit (m := 8) (M := 8) rfl (show p < 8 by omega) (by decide)), pk_sub (by omega), show n - p = l + 1 by omega, show (0 : Int32) = nI 0 from rfl, show jFU = 1000000 from rfl, b4]
      unfold f_X6_ith_160
      rw [jgd_n _ (by omega) (by decide), nI_clamp (by omega), b7, (mask_digit hm (by omega) (show c < l + 1 by omega)).2, nI_1]
      exact c2
/-! the digits behind a place that are lesser: as many as the place's digit has lesser ones left -/
theorem lesSN {d : Nat → Nat} (hd : perm n d) (w : Nat) : ∀ (l p : Nat) (u x : Nat → Nat), p + l = n → (∀ q, q < p → x q = d q) → cov n p l u x → lesA d w p l = SN (fun i => if u i < w then 1 else 0) l
  | 0, _, _, _, _, _, _ => rfl
  | l + 1, p, u, x, hp, hx, hc => by
    obtain ⟨c, hc1, hc2⟩ : ∃ c, c < l + 1 ∧ u c = d p := by
      rcases hc (d p) (hd.1 p (by omega)) with ⟨q, a1, a2⟩ | h
      · rw [hx q a1] at a2
        have := perm_inj hd (by omega) (by omega) a2
        omega
      · exact h
    have ih := lesSN hd w l (p + 1) (skp u c) (updN x p (u c)) (by omega) (fun q hq => by
      by_cases e : q = p
      · subst e; rw [un_s]; exact hc2
      · rw [un_n e]; exact hx q (by omega)) (cov_s hc hc1)
    show (if d p < w then 1 else 0) + lesA d w (p + 1) l = _
    rw [ih, ← SN_skp (fun z => if z < w then 1 else 0) u l c (by omega), hc2, Nat.add_comm]
theorem gMark (HG : Good n mk T g nx Iv) (HC : Cls n v T g nx Iv mu) (hn : n ≤ 8) {d : Nat → Nat} (hd : perm n d) (hmk : ∀ x, (∀ q, q < n → x q = d q) → mk x = mk d) {o : OrdersS} (hrow : ∀ q, q < n → Orders_row o q = nI (d q)) : ∀ (l p : Nat) (u x : Nat → Nat) (s a f : Nat), p + l = n → inc u l → Iv p l u x s a → (∀ i, i < l → u i < 8) → (∀ q, q < p → x q = d q) → cov n p l u x → l < f → GM (grA mu) (nxA mu) f (nI n) (nI s) (nI a) (nI p) o = some (nI (mk d), o) := by
  intro l
  induction l with
  | zero =>
    intro p u x s a f hp hi hI hu hx hc hf
    obtain ⟨f, rfl⟩ : ∃ x, f = x + 1 := ⟨f - 1, by omega⟩
    obtain rfl : p = n := by omega
    rw [GM, if_pos (nI_le (by omega) (by omega)), ← (HG.1 u x s a hI).1, hmk x hx]
  | succ l ih =>
    intro p u x s a f hp hi hI hu hx hc hf
    obtain ⟨f, rfl⟩ : ∃ x, f = x + 1 := ⟨f - 1, by omega⟩
    obtain ⟨c, hc1, hc2⟩ : ∃ c, c < l + 1 ∧ u c = d p := by
      rcases hc (d p) (hd.1 p (by omega)) with ⟨q, a1, a2⟩ | h
      · rw [hx q a1] at a2
        have := perm_inj hd (by omega) (by omega) a2
        omega
      · exact h
    have hx' : ∀ q, q < p + 1 → updN x p (u c) q = d q := fun q hq => by
      by_cases e : q = p
      · subst e; rw [un_s]; exact hc2
      · rw [un_n e]; exact hx q (by omega)
    have hles : les d n p = c := by
      unfold les
      rw [show n - 1 - p = l by omega, lesSN hd (d p) l (p + 1) (skp u c) (updN x p (u c)) (by omega) hx' (cov_s hc hc1), ← hc2]
      exact SN_less hi (by omega)
    have e1 := (HC.1 p l u x s a c o hp (by omega) hI hu (fun q hq => ⟨by rw [hx q hq]; exact hrow q (by omega), by rw [hx q hq]; have := hd.1 q (by omega); omega⟩) (by rw [hc2]; exact hrow p (by omega))).1
    have e3 := HC.2.1 p l u x s a c hp (by omega) hI
    rw [GM, if_neg (nI_ge (by omega) (by omega)), lesX o hn (dd := d) (fun k hk => ⟨hrow k hk, by have := hd.1 k hk; omega⟩) (show p < n by omega), jbd_s, hles, pk_sub (by omega), show n - p = l + 1 by omega, e1, jbd_s, e3, jbd_s, nI_add, nI_1]
    exact ih (p + 1) (skp u c) (updN x p (u c)) _ _ f (by omega) (inc_skp hi c) (HG.2.1 p l u x s a c hp hI hi (by omega)) (skp_bd hu c) hx' (cov_s hc hc1) (by omega)
end
