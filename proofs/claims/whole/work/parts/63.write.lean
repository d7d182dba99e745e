theorem se8 (x : BitVec 32) (i : Nat) (hi : i < 8) : ((x.signExtend 8).signExtend 32).getLsbD i = x.getLsbD i := by
  rw [BitVec.getLsbD_signExtend, BitVec.getLsbD_signExtend]
  simp [show i < 32 by omega, hi]
theorem byteBits (v : Int64) (k : Nat) (hk : k < 8) : (vp_nar .byte (Int8.toInt32 (Int32.toInt8 (Int64.toInt32 (jlushr v ((8 : Int32) * nI k)))))) &&& 255 = Int64.toInt32 ((v >>> (Int32.toInt64 ((8 : Int32) * nI k) &&& 63)) &&& (255 : Int64)) := by
  rw [vp_nar_byte]
  have e8 : (8 : Int32) * nI k = nI (8 * k) := pk_mul 8 k
  rw [e8]
  apply Int32.toBitVec_inj.mp
  have hs1 : (jlushr v (nI (8 * k))).toBitVec = v.toBitVec >>> (8 * k) := by
    rcases (show k = 0 ∨ k = 1 ∨ k = 2 ∨ k = 3 ∨ k = 4 ∨ k = 5 ∨ k = 6 ∨ k = 7 by omega) with rfl | rfl | rfl | rfl | rfl | rfl | rfl | rfl <;> rfl
  have hs2 : (v >>> (Int32.toInt64 (nI (8 * k)) &&& 63)).toBitVec = v.toBitVec.sshiftRight (8 * k) := by
    rcases (show k = 0 ∨ k = 1 ∨ k = 2 ∨ k = 3 ∨ k = 4 ∨ k = 5 ∨ k = 6 ∨ k = 7 by omega) with rfl | rfl | rfl | rfl | rfl | rfl | rfl | rfl <;> rfl
  rw [Int32.toBitVec_and, Int8.toBitVec_toInt32, Int32.toBitVec_toInt8, Int8.toBitVec_toInt32, Int32.toBitVec_toInt8, Int64.toBitVec_toInt32, Int64.toBitVec_toInt32, Int64.toBitVec_and, hs1, hs2]
  apply BitVec.eq_of_getLsbD_eq
  intro i hi
  rw [BitVec.getLsbD_and, BitVec.getLsbD_signExtend (w := 64), BitVec.getLsbD_and]
  have hm1 : (Int32.toBitVec 255).getLsbD i = decide (i < 8) := by
    have : ∀ i, i < 32 → (Int32.toBitVec 255).getLsbD i = decide (i < 8) := by decide +kernel
    exact this i hi
  have hm2 : (Int64.toBitVec 255).getLsbD i = decide (i < 8) := by
    have : ∀ i, i < 32 → (Int64.toBitVec 255).getLsbD i = decide (i < 8) := by decide +kernel
    exact this i hi
  rw [hm1, hm2]
  by_cases h8 : i < 8
  · have h64 : i < 64 := by omega
    rw [se8 _ _ h8, se8 _ _ h8, BitVec.getLsbD_signExtend, BitVec.getLsbD_ushiftRight, BitVec.getLsbD_sshiftRight]
    simp [h8, hi, h64, show 8 * k + i < 64 by omega, show ¬ 64 ≤ i by omega]
  · simp [h8, show i < 64 by omega]
def xByte (v : Int64) (k : Nat) : Int32 := vp_nar .byte (Int8.toInt32 (Int32.toInt8 (Int64.toInt32 (jlushr v ((8 : Int32) * nI k)))))
def mByte (v : Int64) (k : Nat) : Int32 := Int64.toInt32 ((v >>> (Int32.toInt64 ((8 : Int32) * nI k) &&& 63)) &&& (255 : Int64))
theorem appX_loop (v : Int64) : ∀ (c l n : Nat) (t : TextS), Text_length t = nI l → l + c ≤ 120 → c < n → ∃ t' : TextS, f_X10_append_18 n v (nI c - 1) t = some (1, t') ∧ Text_length t' = nI (l + c) ∧ (∀ j, j < l → Text_bytes t' j = Text_bytes t j) ∧ ∀ q, q < c → Text_bytes t' (l + q) = xByte v (c - 1 - q) := by
  intro c
  induction c with
  | zero =>
    intro l n t h1 h2 hn
    obtain ⟨n, rfl⟩ : ∃ q, n = q + 1 := ⟨n - 1, by omega⟩
    exact ⟨t, by rw [f_X10_append_18, if_pos (by decide)]; rfl, h1, fun _ _ => rfl, fun q hq => by omega⟩
  | succ c ih =>
    intro l n t h1 h2 hn
    obtain ⟨n, rfl⟩ : ∃ q, n = q + 1 := ⟨n - 1, by omega⟩
    obtain ⟨t', g1, g2, g3, g4⟩ := ih (l + 1) n (Text_length_s (Text_bytes_s t (upd (Text_bytes t) l (xByte v c))) (nI l + 1)) (nI_1 l) (by omega) (by omega)
    refine ⟨t', ?_, by rw [g2]; congr 1; omega, fun j hj => ?_, fun q hq => ?_⟩
    · rw [nI_pred, f_X10_append_18, if_neg (nI_pos (by omega)), h1, jgd_n _ (show l < 120 by omega) (by decide), nI_clamp (by omega)]
      have e : nI c + (-1 : Int32) = nI c - 1 := (Int32.sub_eq_add_neg _ _).symm
      rw [e]
      have e2 : Text_length (Text_bytes_s t (upd (Text_bytes t) l (vp_nar .byte (Int8.toInt32 (Int32.toInt8 (Int64.toInt32 (jlushr v ((8 : Int32) * nI c)))))))) = nI l := h1
      rw [e2]
      exact g1
    · rw [g3 j (by omega)]
      show upd (Text_bytes t) l (xByte v c) j = _
      rw [pk_un (by omega)]
    · cases q with
      | zero =>
        rw [g3 (l + 0) (by omega)]
        show upd (Text_bytes t) l (xByte v c) (l + 0) = _
        rw [Nat.add_zero, pk_us]
        rfl
      | succ q =>
        have := g4 q (by omega)
        rw [show l + (q + 1) = l + 1 + q by omega, this]
        congr 1
        omega
theorem wrM_loop (v : Int64) (N l : Nat) (hN : N ≤ 8) (hl : l + N ≤ 120) : ∀ (d i n : Nat) (M : MS), i + d = N → d < n → M_bytes M = nI l → ∃ f : Nat → Int32, f_X12_write_31 n (nI N) v (nI i) M = some (nI (l + N), M_bytes_s (M_text_s M f) (nI (l + N))) ∧ (∀ j, j < l + i → f j = M_text M j) ∧ ∀ q, i ≤ q → q < N → f (l + q) = mByte v (N - 1 - q) := by
  intro d
  induction d with
  | zero =>
    intro i n M h1 hn hb
    obtain ⟨n, rfl⟩ : ∃ q, n = q + 1 := ⟨n - 1, by omega⟩
    refine ⟨M_text M, ?_, fun _ _ => rfl, fun q h1 h2 => by omega⟩
    rw [f_X12_write_31, if_pos (nI_le (by omega) (by omega))]
    unfold f_X12_write_71
    rw [hb, nI_add]
    rfl
  | succ d ih =>
    intro i n M h1 hn hb
    obtain ⟨n, rfl⟩ : ∃ q, n = q + 1 := ⟨n - 1, by omega⟩
    obtain ⟨f, g1, g2, g3⟩ := ih (i + 1) n (M_text_s M (upd (M_text M) (l + i) (mByte v (N - 1 - i)))) (by omega) (by omega) hb
    refine ⟨f, ?_, fun j hj => ?_, fun q hq1 hq2 => ?_⟩
    · have e1 : nI N - 1 - nI i = nI (N - 1 - i) := by
        have a1 : nI N - (1 : Int32) = nI (N - 1) := by
          show nI N - nI 1 = _
          exact pk_sub (by omega)
        rw [a1, pk_sub (by omega)]
      have e2 : nI i + (1 : Int32) = nI (i + 1) := nI_1 i
      rw [f_X12_write_31, if_neg (nI_ge (by omega) (by omega)), hb, nI_add, jgd_n _ (show l + i < 120 by omega) (by decide), nI_clamp (by omega), e1, e2]
      exact g1
    · rw [g2 j (by omega)]
      show upd (M_text M) (l + i) _ j = _
      rw [pk_un (by omega)]
    · by_cases hqi : q = i
      · subst hqi
        rw [g2 (l + q) (by omega)]
        show upd (M_text M) (l + q) _ (l + q) = _
        rw [pk_us]
      · exact g3 q (by omega) hq2
theorem Rel.setText {X : XS} {M : MS} (h : Rel X M) (t : TextS) (f : Nat → Int32) (b : Int32) (ht : RText t (M_bytes_s (M_text_s M f) b)) : Rel (X_text_s X t) (M_bytes_s (M_text_s M f) b) := ⟨ht, h.2.1, h.2.2.1, h.2.2.2⟩
theorem within1 {x : Int32} : (1 ≤ x ∧ x ≤ 8) ↔ ∃ n : Nat, 1 ≤ n ∧ n ≤ 8 ∧ x = nI n := by
  constructor
  · intro h
    obtain ⟨n, hn, rfl⟩ := nI_of2 (M := 8) (n := 8) (x := x) (by decide) (Int32.not_lt.mpr (Int32.le_trans (by decide) h.1)) h.2
    refine ⟨n, ?_, hn, rfl⟩
    have := Int32.le_iff_toInt_le.mp h.1
    rw [nI_toInt (by omega)] at this
    have h1 : (1 : Int32).toInt = 1 := by decide
    omega
  · rintro ⟨n, h1, h2, rfl⟩
    exact ⟨by show nI 1 ≤ nI n; exact nI_le h1 (by omega), by show nI n ≤ nI 8; exact nI_le h2 (by decide)⟩
theorem rngW {x : Int32} : ((1 : Int64) ≤ x.toInt64 ∧ x.toInt64 ≤ 8) ↔ (1 ≤ x ∧ x ≤ 8) := by
  rw [i64_le, i64_ge, Int32.le_iff_toInt_le, Int32.le_iff_toInt_le]
  exact Iff.rfl
theorem op_write (a0 : Int32) (a1 : Int64) : oWW (f_X11_write a0 a1) (f_X12_write a0 a1) := by
  intro X M hR
  unfold f_X11_write f_X12_write
  rw [within_eq, in_eq, jbd_s, jbd_s, b01_iff rngW]
  by_cases hx : 1 ≤ a0 ∧ a0 ≤ 8
  · rw [b01_t hx, if_neg one_ne, if_neg one_ne]
    obtain ⟨N, hN1, hN8, rfl⟩ := within1.mp hx
    obtain ⟨l, h1, h2, h3, h4⟩ := hR.1
    have e120 : (120 : Int32) - nI l = nI (120 - l) := pk_sub (a := 120) h1
    unfold f_X10_append
    rw [h2, h3, e120, nI_add]
    by_cases hf : l + N ≤ 120
    · rw [if_pos (nI_le (by omega) (by omega)), if_pos (by show nI (l + N) ≤ nI 120; exact nI_le hf (by decide))]
      obtain ⟨t', g1, g2, g3, g4⟩ := appX_loop a1 N l 1000000 (X_text X) h2 hf (by omega)
      obtain ⟨f, k1, k2, k3⟩ := wrM_loop a1 N l hN8 hf N 0 1000000 M (by omega) (by omega) h3
      refine ⟨nI (l + N), X_text_s X t', M_bytes_s (M_text_s M f) (nI (l + N)), ?_, k1, ?_⟩
      · have g1' : f_X10_append_18 jFU a1 (nI N - 1) (X_text X) = some (1, t') := g1
        rw [g1', jbd_s, if_neg (show ¬ ((1 : Int32), t').1 = 0 from one_ne)]
        show some (Text_length t', _) = _
        rw [g2]
      · refine hR.setText t' f _ ⟨l + N, hf, g2, rfl, fun j hj => ?_⟩
        show f j = _
        by_cases hjl : j < l
        · rw [k2 j (by omega), g3 j hjl]
          exact h4 j hjl
        · obtain ⟨q, rfl⟩ : ∃ q, j = l + q := ⟨j - l, by omega⟩
          rw [k3 q (by omega) (by omega), g4 q (by omega)]
          exact (byteBits a1 (N - 1 - q) (by omega)).symm
    · rw [if_neg (nI_ge (by omega) (by omega)), if_neg (by show ¬ nI (l + N) ≤ nI 120; exact nI_ge (by omega) (by omega)), jzb_0, jbd_s, if_pos rfl]
      exact ⟨_, X, M, rfl, rfl, hR⟩
  · rw [b01_f hx, if_pos rfl, if_pos rfl]
    exact ⟨_, X, M, rfl, rfl, hR⟩
