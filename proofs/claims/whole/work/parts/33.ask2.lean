/-! ===== Int32 by its bits (out of kit/laws/BITS.to-paste) ===== -/
def bt (x : Int32) (i : Nat) : Bool := x.toBitVec.getLsbD i
theorem b_ext {x y : Int32} (h : ∀ i, i < 32 → bt x i = bt y i) : x = y := Int32.toBitVec_inj.mp (BitVec.eq_of_getLsbD_eq (fun i hi => h i hi))
theorem b_or (x y : Int32) (i : Nat) : bt (x ||| y) i = (bt x i || bt y i) := by unfold bt; rw [Int32.toBitVec_or, BitVec.getLsbD_or]
theorem b_and (x y : Int32) (i : Nat) : bt (x &&& y) i = (bt x i && bt y i) := by unfold bt; rw [Int32.toBitVec_and, BitVec.getLsbD_and]
theorem b_xor (x y : Int32) (i : Nat) : bt (x ^^^ y) i = (bt x i ^^ bt y i) := by unfold bt; rw [Int32.toBitVec_xor, BitVec.getLsbD_xor]
theorem b_big {x : Int32} {i : Nat} (h : 32 ≤ i) : bt x i = false := BitVec.getLsbD_of_ge _ _ h
theorem b_255 (i : Nat) : bt 255 i = decide (i < 8) := by
  rcases Nat.lt_or_ge i 32 with h | h
  · exact (by decide +kernel : ∀ i, i < 32 → bt 255 i = decide (i < 8)) i h
  · rw [b_big h, decide_eq_false (by omega)]
theorem b_65535 (i : Nat) : bt 65535 i = decide (i < 16) := by
  rcases Nat.lt_or_ge i 32 with h | h
  · exact (by decide +kernel : ∀ i, i < 32 → bt 65535 i = decide (i < 16)) i h
  · rw [b_big h, decide_eq_false (by omega)]
theorem b_m1 : ∀ i, i < 32 → bt (-1) i = true := by decide +kernel
theorem b_0 (i : Nat) : bt 0 i = false := BitVec.getLsbD_zero
theorem s_l : ∀ n, n < 32 → ((nI n &&& 31).toBitVec.smod 32).toNat = n := by decide +kernel
theorem s_u : ∀ n, n < 32 → (((nI n).toUInt32 &&& Int32.toUInt32 31).toBitVec % 32).toNat = n := by decide +kernel
theorem b_shl (n : Nat) (hn : n < 32) (x : Int32) {i : Nat} (hi : i < 32) : bt (x <<< (nI n &&& 31)) i = (decide (n ≤ i) && bt x (i - n)) := by
  unfold bt
  rw [Int32.toBitVec_shiftLeft]
  show (x.toBitVec <<< ((nI n &&& 31).toBitVec.smod 32).toNat).getLsbD i = _
  rw [s_l n hn, BitVec.getLsbD_shiftLeft]
  rcases Nat.lt_or_ge i n with h | h
  · simp [h, Nat.not_le.mpr h]
  · simp [hi, h, Nat.not_lt.mpr h]
theorem b_ushr (n : Nat) (hn : n < 32) (x : Int32) (i : Nat) : bt ((x.toUInt32 >>> ((nI n).toUInt32 &&& Int32.toUInt32 31)).toInt32) i = bt x (n + i) := by
  show (x.toUInt32 >>> ((nI n).toUInt32 &&& Int32.toUInt32 31)).toBitVec.getLsbD i = x.toUInt32.toBitVec.getLsbD (n + i)
  rw [UInt32.toBitVec_shiftRight]
  show (x.toUInt32.toBitVec >>> (((nI n).toUInt32 &&& Int32.toUInt32 31).toBitVec % 32).toNat).getLsbD i = _
  rw [s_u n hn, BitVec.getLsbD_ushiftRight]
theorem b_sshr (n : Nat) (hn : n < 32) (x : Int32) {i : Nat} (hi : i < 32) : bt (x >>> (nI n &&& 31)) i = if n + i < 32 then bt x (n + i) else bt x 31 := by
  unfold bt
  rw [Int32.toBitVec_shiftRight]
  show (x.toBitVec.sshiftRight ((nI n &&& 31).toBitVec.smod 32).toNat).getLsbD i = _
  rw [s_l n hn, BitVec.getLsbD_sshiftRight, BitVec.msb_eq_getLsbD_last]
  simp [hi]
theorem b_shl8 (x : Int32) {i : Nat} (hi : i < 32) : bt (x <<< ((8 : Int32) &&& 31)) i = (decide (8 ≤ i) && bt x (i - 8)) := b_shl 8 (by omega) x hi
theorem b_shl16 (x : Int32) {i : Nat} (hi : i < 32) : bt (x <<< ((16 : Int32) &&& 31)) i = (decide (16 ≤ i) && bt x (i - 16)) := b_shl 16 (by omega) x hi
theorem b_shl24 (x : Int32) {i : Nat} (hi : i < 32) : bt (x <<< ((24 : Int32) &&& 31)) i = (decide (24 ≤ i) && bt x (i - 24)) := b_shl 24 (by omega) x hi
theorem b_sshr8 (x : Int32) {i : Nat} (hi : i < 32) : bt (x >>> ((8 : Int32) &&& 31)) i = if 8 + i < 32 then bt x (8 + i) else bt x 31 := b_sshr 8 (by omega) x hi
theorem b_1 (i : Nat) : bt 1 i = decide (i = 0) := by
  rcases Nat.lt_or_ge i 32 with h | h
  · exact (by decide +kernel : ∀ i, i < 32 → bt 1 i = decide (i = 0)) i h
  · rw [b_big h, decide_eq_false (by omega)]
/-- one bit, looked at -/
theorem b_bit (x : Int32) {k : Nat} (hk : k < 32) : ((x >>> (nI k &&& 31)) &&& 1) = if bt x k then 1 else 0 := by
  apply b_ext
  intro i hi
  rw [b_and, b_sshr k hk x hi, b_1]
  by_cases h : i = 0
  · subst h
    cases hb : bt x k <;> simp [hk, hb, b_1, b_0]
  · simp only [h, decide_false, Bool.and_false]
    cases hb : bt x k <;> simp [h, b_1, b_0]
/-! ===== asking calls with a number of a thing ===== -/
theorem n_lad (k j : Nat) : (OfNat.ofNat k : Int32) + nI j = nI (k + j) := by rw [show (OfNat.ofNat k : Int32) = nI k from rfl, nI_add]
theorem n_adl (k j : Nat) : nI j + (OfNat.ofNat k : Int32) = nI (j + k) := by rw [show (OfNat.ofNat k : Int32) = nI k from rfl, nI_add]
theorem n_ck {x : Int32} {N : Nat} (j : Nat) (e : x = nI j) (h : j < N) (hN : N < 2 ^ 31) : ¬ (x < 0 ∨ N ≤ x.toNatClampNeg) := by rw [e]; exact nI_in h hN
theorem n_cl {x : Int32} (j : Nat) (e : x = nI j) (h : j < 2 ^ 31) : x.toNatClampNeg = j := by rw [e]; exact nI_clamp h
theorem wI_same {M : z_Mem} {a k : Nat} {v : Int32} : (z_wI M a k v).1 a k = v := by rw [wI_rd, if_pos ⟨rfl, rfl⟩]
theorem wI_slot {M : z_Mem} {a k j : Nat} {v : Int32} (h : j ≠ k) : (z_wI M a k v).1 a j = M.1 a j := by rw [wI_rd, if_neg (fun g => h g.2)]
theorem ck_f {α : Type} {j N : Nat} {b : Option α} (h : j < N) (hN : N < 2147483648) : (if nI j < 0 ∨ N ≤ (nI j).toNatClampNeg then none else b) = b := if_neg (nI_in h hN)
theorem ck_g {j N : Nat} (h : j < N) (h2 : j < 2147483648) : (nI j < 0 ∨ N ≤ j) = False := eq_false (fun g => g.elim (nI_pos h2) (fun k => by omega))
theorem k_1 : (1 : Int32) = nI 1 := rfl
theorem k_12 : (12 : Int32) = nI 12 := rfl
theorem k_13 : (13 : Int32) = nI 13 := rfl
theorem k_20 : (20 : Int32) = nI 20 := rfl
theorem k_28 : (28 : Int32) = nI 28 := rfl
theorem k_36 : (36 : Int32) = nI 36 := rfl
theorem k_44 : (44 : Int32) = nI 44 := rfl
theorem k_52 : (52 : Int32) = nI 52 := rfl
theorem k_60 : (60 : Int32) = nI 60 := rfl
theorem k_65 : (65 : Int32) = nI 65 := rfl
theorem k_70 : (70 : Int32) = nI 70 := rfl
theorem k_75 : (75 : Int32) = nI 75 := rfl
theorem k_83 : (83 : Int32) = nI 83 := rfl
theorem k_91 : (91 : Int32) = nI 91 := rfl
theorem k_97 : (97 : Int32) = nI 97 := rfl
theorem k_105 : (105 : Int32) = nI 105 := rfl
theorem k_106 : (106 : Int32) = nI 106 := rfl
theorem k_107 : (107 : Int32) = nI 107 := rfl
theorem k_108 : (108 : Int32) = nI 108 := rfl
theorem k_110 : (110 : Int32) = nI 110 := rfl
theorem k_111 : (111 : Int32) = nI 111 := rfl
theorem k_112 : (112 : Int32) = nI 112 := rfl
theorem k_113 : (113 : Int32) = nI 113 := rfl
theorem nI_p0 {n : Nat} (h : n < 2147483648) : (nI n < 0) = False := eq_false (nI_pos h)
theorem nle_f {a b : Nat} (h : b < a) : (a ≤ b) = False := eq_false (by omega)
theorem nI_cl {n : Nat} (h : n < 2147483648) : (nI n).toNatClampNeg = n := nI_clamp h
section
variable {w : Nat} {M : z_Mem} {p n j : Nat} {a : Int32}
theorem is_t (h : j < n) (hn : n < 2 ^ 30) : F_X12_isIn w M (nI j).toInt64 0 ((nI n - 1).toInt64) = some (true, M) := by
  have := f_isIn w M (nI j) 0 (nI n - 1)
  rw [decide_eq_true ((i_cnt hn).mpr ⟨j, h, rfl⟩)] at this
  exact this
theorem is_f (h : ¬ ∃ j, j < n ∧ a = nI j) (hn : n < 2 ^ 30) : F_X12_isIn w M a.toInt64 0 ((nI n - 1).toInt64) = some (false, M) := by
  have := f_isIn w M a 0 (nI n - 1)
  rw [decide_eq_false (fun g => h ((i_cnt hn).mp g))] at this
  exact this
theorem in_t {B C : Int64} (b c : Int32) (hB : b.toInt64 = B) (hC : c.toInt64 = C) (h : b ≤ a ∧ a ≤ c) : F_X12_isIn w M a.toInt64 B C = some (true, M) := by
  rw [← hB, ← hC, f_isIn, decide_eq_true h]
theorem in_f {B C : Int64} (b c : Int32) (hB : b.toInt64 = B) (hC : c.toInt64 = C) (h : ¬ (b ≤ a ∧ a ≤ c)) : F_X12_isIn w M a.toInt64 B C = some (false, M) := by
  rw [← hB, ← hC, f_isIn, decide_eq_false h]
theorem thR_t (hc : M.1 (p + 2) 5 = nI n) (hn : n < 2 ^ 30) (h : j < n) : F_X6_isThere w M p (nI j) = some (true, M) := by
  unfold F_X6_isThere
  rw [if_neg (nI_pos (by omega)), hc, if_neg (nI_ge h (by omega))]
theorem thR_f (hc : M.1 (p + 2) 5 = nI n) (hn : n < 2 ^ 30) (h : ¬ ∃ j, j < n ∧ a = nI j) : F_X6_isThere w M p a = some (false, M) := by
  unfold F_X6_isThere
  by_cases h1 : a < 0
  · rw [if_pos h1]
  · rw [if_neg h1, hc]
    by_cases h2 : nI n ≤ a
    · rw [if_pos h2]
    · exact absurd ((i_cntB hn).mpr ⟨h1, h2⟩) h
theorem thD_t (hc : M.1 (p + 8) 3 = nI n) (hn : n < 2 ^ 30) (h : j < n) : F_X1_isThere w M p (nI j) = some (true, M) := by
  unfold F_X1_isThere
  rw [if_neg (nI_pos (by omega)), hc, if_neg (nI_ge h (by omega))]
theorem thD_f (hc : M.1 (p + 8) 3 = nI n) (hn : n < 2 ^ 30) (h : ¬ ∃ j, j < n ∧ a = nI j) : F_X1_isThere w M p a = some (false, M) := by
  unfold F_X1_isThere
  by_cases h1 : a < 0
  · rw [if_pos h1]
  · rw [if_neg h1, hc]
    by_cases h2 : nI n ≤ a
    · rw [if_pos h2]
    · exact absurd ((i_cntB hn).mpr ⟨h1, h2⟩) h
theorem sd_f (h : ¬ (a = 0 ∨ a = 1)) : F_X11_isSide w M a = some (false, M) ∧ F_X12_isSideAt w M a = some (false, M) := by
  unfold F_X11_isSide F_X12_isSideAt
  rw [if_neg (fun e => h (Or.inl e)), if_neg (fun e => h (Or.inr e))]
  exact ⟨rfl, rfl⟩
theorem call_chest (h : r_Rel M) (a : Int32) : r_ok (F_X11_chest w M a) (fun M => F_X12_chest w M a) := by
  obtain ⟨P, ⟨⟨_, _, _, _, _, _, _, s12, s13⟩, _⟩, ⟨⟨_, _, _, _, _, _, u12, u13, _⟩, _⟩, hv⟩ := h.2.2.2.2.2.2.1
  by_cases hr : a = 0 ∨ a = 1
  · rcases hr with rfl | rfl
    · exact ⟨_, _, z_st M 0, rfl, (show _ = some (_, _) from congrArg (fun v => some (v, z_st M 0)) (u12.trans s12.symm)), r_stv 0 h⟩
    · exact ⟨_, _, z_st M 0, rfl, (show _ = some (_, _) from congrArg (fun v => some (v, z_st M 0)) (u13.trans s13.symm)), r_stv 0 h⟩
  · refine ⟨-1, z_wI M 0 11 2, z_st M 2, ?_, ?_, r_stv 2 h⟩
    · unfold F_X11_chest
      rw [(sd_f hr).1]; rfl
    · show F_X12_chest w _ a = _
      unfold F_X12_chest
      rw [(sd_f hr).2, ← st_v]; rfl
theorem call_right (h : r_Rel M) (a b : Int32) : r_ok (F_X11_right w M a b) (fun M => F_X12_right w M a b) := by
  obtain ⟨P, ⟨_, ⟨c0, ca⟩, _⟩, ⟨_, ⟨b0, ba⟩, _⟩, ⟨_, ⟨v0, va⟩, _⟩⟩ := h.2.2.2.2.2.2.1
  by_cases hx : ∃ j, j < P.2.1.1 ∧ a = nI j
  · obtain ⟨j, hj, rfl⟩ := hx
    obtain ⟨c1, c2, c3, c4, c5⟩ := ca j hj
    obtain ⟨b1, b2, b3, b4, b5⟩ := ba j hj
    have e1 : F_X6_isThere w M 7 (nI j) = some (true, M) := thR_t c0 (by omega) hj
    have m1 : ∀ N, F_X12_isIn w N (nI j).toInt64 0 ((nI P.2.1.1 - 1).toInt64) = some (true, N) := fun N => is_t hj (by omega)
    simp only [Nat.reduceAdd] at c1 c2 c3 c4 c5
    by_cases hr : (0 : Int32) ≤ b ∧ b ≤ 4
    · have m2 := fun N => in_t (w := w) (M := N) (B := 0) (C := 4) 0 4 rfl rfl hr
      have hvj := (va j hj).2.1
      rcases i_lit4 hr with rfl | rfl | rfl | rfl | rfl
      · refine ⟨P.2.1.2 0 j, z_wI M 0 11 0, z_st M 0, ?_, ?_, r_stv 0 h⟩
        · simp (decide := true) (disch := omega) only [F_X11_right, F_X11_answer, e1, c1, Option.bind_some, wI_row, wI_slot, wI_same, wI_2, nI_p0, false_or, nle_f, nI_cl, n_lad, n_adl, nI_add, if_true, if_false, ite_true, ite_false]
        · simp (decide := true) (disch := omega) only [F_X12_right, F_X12_isRightAt, m1, m2, b0, b1, show (20 : Int32) + 8 * 0 = nI 20 from rfl, z_st, wI_wI, Option.bind_some, wI_row, wI_slot, wI_same, wI_2, nI_p0, false_or, nle_f, nI_cl, n_lad, n_adl, nI_add, if_true, if_false, ite_true, ite_false]
      · refine ⟨P.2.1.2 1 j, z_wI M 0 11 0, z_st M 0, ?_, ?_, r_stv 0 h⟩
        · simp (decide := true) (disch := omega) only [F_X11_right, F_X11_answer, e1, c2, Option.bind_some, wI_row, wI_slot, wI_same, wI_2, nI_p0, false_or, nle_f, nI_cl, n_lad, n_adl, nI_add, if_true, if_false, ite_true, ite_false]
        · simp (decide := true) (disch := omega) only [F_X12_right, F_X12_isRightAt, m1, m2, b0, b2, show (20 : Int32) + 8 * 1 = nI 28 from rfl, z_st, wI_wI, Option.bind_some, wI_row, wI_slot, wI_same, wI_2, nI_p0, false_or, nle_f, nI_cl, n_lad, n_adl, nI_add, if_true, if_false, ite_true, ite_false]
      · rcases hvj with ⟨g1, g2⟩ | ⟨g1, g2⟩ | ⟨g1, g2, _⟩
        · refine ⟨-1, z_wI M 0 11 8, z_st M 8, ?_, ?_, r_stv 8 h⟩
          · simp (decide := true) (disch := omega) only [F_X11_right, F_X11_refuse, e1, c2, g1, Option.bind_some, wI_row, wI_slot, wI_same, wI_2, nI_p0, false_or, nle_f, nI_cl, n_lad, n_adl, nI_add, if_true, if_false, ite_true, ite_false]
          · simp (decide := true) (disch := omega) only [F_X12_right, F_X12_isRightAt, F_X12_refuse, m1, m2, b0, b3, g2, k_36, z_st, wI_wI, Option.bind_some, wI_row, wI_slot, wI_same, wI_2, nI_p0, false_or, nle_f, nI_cl, n_lad, n_adl, nI_add, if_true, if_false, ite_true, ite_false]
        · refine ⟨-1, z_wI M 0 11 8, z_st M 8, ?_, ?_, r_stv 8 h⟩
          · simp (decide := true) (disch := omega) only [F_X11_right, F_X11_refuse, e1, c2, g1, Option.bind_some, wI_row, wI_slot, wI_same, wI_2, nI_p0, false_or, nle_f, nI_cl, n_lad, n_adl, nI_add, if_true, if_false, ite_true, ite_false]
          · simp (decide := true) (disch := omega) only [F_X12_right, F_X12_isRightAt, F_X12_refuse, m1, m2, b0, b3, g2, k_36, z_st, wI_wI, Option.bind_some, wI_row, wI_slot, wI_same, wI_2, nI_p0, false_or, nle_f, nI_cl, n_lad, n_adl, nI_add, if_true, if_false, ite_true, ite_false]
        · have g3 : ¬ P.2.1.2 2 j = 0 := fun e => by rw [e] at g2; exact absurd g2 (by decide)
          refine ⟨P.2.1.2 2 j, z_wI M 0 11 0, z_st M 0, ?_, ?_, r_stv 0 h⟩
          · simp (decide := true) (disch := omega) only [F_X11_right, F_X11_answer, e1, c2, c3, g1, Option.bind_some, wI_row, wI_slot, wI_same, wI_2, nI_p0, false_or, nle_f, nI_cl, n_lad, n_adl, nI_add, if_true, if_false, ite_true, ite_false]
          · simp (decide := true) (disch := omega) only [F_X12_right, F_X12_isRightAt, m1, m2, b0, b3, g3, k_36, show (20 : Int32) + 8 * 2 = nI 36 from rfl, z_st, wI_wI, Option.bind_some, wI_row, wI_slot, wI_same, wI_2, nI_p0, false_or, nle_f, nI_cl, n_lad, n_adl, nI_add, if_true, if_false, ite_true, ite_false]
      · refine ⟨P.2.1.2 3 j, z_wI M 0 11 0, z_st M 0, ?_, ?_, r_stv 0 h⟩
        · simp (decide := true) (disch := omega) only [F_X11_right, F_X11_answer, e1, c4, Option.bind_some, wI_row, wI_slot, wI_same, wI_2, nI_p0, false_or, nle_f, nI_cl, n_lad, n_adl, nI_add, if_true, if_false, ite_true, ite_false]
        · simp (decide := true) (disch := omega) only [F_X12_right, F_X12_isRightAt, m1, m2, b0, b4, show (20 : Int32) + 8 * 3 = nI 44 from rfl, z_st, wI_wI, Option.bind_some, wI_row, wI_slot, wI_same, wI_2, nI_p0, false_or, nle_f, nI_cl, n_lad, n_adl, nI_add, if_true, if_false, ite_true, ite_false]
      · refine ⟨P.2.1.2 4 j, z_wI M 0 11 0, z_st M 0, ?_, ?_, r_stv 0 h⟩
        · simp (decide := true) (disch := omega) only [F_X11_right, F_X11_answer, e1, c5, Option.bind_some, wI_row, wI_slot, wI_same, wI_2, nI_p0, false_or, nle_f, nI_cl, n_lad, n_adl, nI_add, if_true, if_false, ite_true, ite_false]
        · simp (decide := true) (disch := omega) only [F_X12_right, F_X12_isRightAt, m1, m2, b0, b5, show (20 : Int32) + 8 * 4 = nI 52 from rfl, z_st, wI_wI, Option.bind_some, wI_row, wI_slot, wI_same, wI_2, nI_p0, false_or, nle_f, nI_cl, n_lad, n_adl, nI_add, if_true, if_false, ite_true, ite_false]
    · refine ⟨-1, z_wI M 0 11 5, z_st M 5, ?_, ?_, r_stv 5 h⟩
      · have k0 := i_ne 0 hr (by decide)
        have k1 := i_ne 1 hr (by decide)
        have k2 := i_ne 2 hr (by decide)
        have k3 := i_ne 3 hr (by decide)
        have k4 := i_ne 4 hr (by decide)
        simp (decide := true) (disch := omega) only [F_X11_right, F_X11_refuse, e1, k0, k1, k2, k3, k4, Option.bind_some, wI_row, wI_slot, wI_same, wI_2, nI_p0, false_or, nle_f, nI_cl, n_lad, n_adl, nI_add, if_true, if_false, ite_true, ite_false]
      · have m2 := fun N => in_f (w := w) (M := N) (B := 0) (C := 4) 0 4 rfl rfl hr
        simp (decide := true) (disch := omega) only [F_X12_right, F_X12_isRightAt, F_X12_refuse, m1, m2, b0, z_st, wI_wI, Option.bind_some, wI_row, wI_slot, wI_same, wI_2, nI_p0, false_or, nle_f, nI_cl, n_lad, n_adl, nI_add, if_true, if_false, ite_true, ite_false]
  · refine ⟨-1, z_wI M 0 11 2, z_st M 2, ?_, ?_, r_stv 2 h⟩
    · have e1 := thR_f (w := w) c0 (by omega) hx
      simp (decide := true) (disch := omega) only [F_X11_right, F_X11_refuse, e1, Option.bind_some, wI_row, wI_slot, wI_same, wI_2, nI_p0, false_or, nle_f, nI_cl, n_lad, n_adl, nI_add, if_true, if_false, ite_true, ite_false]
    · have m1 := fun N => is_f (w := w) (M := N) hx (by omega)
      simp (decide := true) (disch := omega) only [F_X12_right, F_X12_isRightAt, F_X12_refuse, m1, b0, z_st, wI_wI, Option.bind_some, wI_row, wI_slot, wI_same, wI_2, nI_p0, false_or, nle_f, nI_cl, n_lad, n_adl, nI_add, if_true, if_false, ite_true, ite_false]
theorem call_debt (h : r_Rel M) (a b : Int32) : r_ok (F_X11_debt w M a b) (fun M => F_X12_debt w M a b) := by
  obtain ⟨P, ⟨_, _, ⟨c0, _, ca⟩, _⟩, ⟨_, _, ⟨b0, _, ba⟩, _⟩, ⟨_, _, ⟨v0, va⟩, _⟩⟩ := h.2.2.2.2.2.2.1
  by_cases hx : ∃ j, j < P.2.2.1.2.length ∧ a = nI j
  · obtain ⟨j, hj, rfl⟩ := hx
    obtain ⟨c1, c2, c3⟩ := ca j _ (List.getElem?_eq_getElem hj)
    obtain ⟨b1, b2, b3⟩ := ba j _ (List.getElem?_eq_getElem hj)
    have e1 : F_X1_isThere w M 7 (nI j) = some (true, M) := thD_t c0 (by omega) hj
    have m1 : ∀ N, F_X12_isIn w N (nI j).toInt64 0 ((nI P.2.2.1.2.length - 1).toInt64) = some (true, N) := fun N => is_t hj (by omega)
    simp only [Nat.reduceAdd] at c1 c2 c3
    by_cases hr : (0 : Int32) ≤ b ∧ b ≤ 2
    · have m2 := fun N => in_t (w := w) (M := N) (B := 0) (C := 2) 0 2 rfl rfl hr
      rcases i_lit2 hr with rfl | rfl | rfl
      · refine ⟨M.1 16 j, z_wI M 0 11 0, z_st M 0, ?_, ?_, r_stv 0 h⟩
        · simp (decide := true) (disch := omega) only [F_X11_debt, F_X11_answer, e1, Option.bind_some, wI_row, wI_slot, wI_same, wI_2, nI_p0, false_or, nle_f, nI_cl, n_lad, n_adl, nI_add, if_true, if_false, ite_true, ite_false]
        · simp (decide := true) (disch := omega) only [F_X12_debt, F_X12_isDebtAt, m1, m2, b0, b1, c1, show (60 : Int32) + 5 * 0 = nI 60 from rfl, z_st, wI_wI, Option.bind_some, wI_row, wI_slot, wI_same, wI_2, nI_p0, false_or, nle_f, nI_cl, n_lad, n_adl, nI_add, if_true, if_false, ite_true, ite_false]
      · refine ⟨M.1 17 j, z_wI M 0 11 0, z_st M 0, ?_, ?_, r_stv 0 h⟩
        · simp (decide := true) (disch := omega) only [F_X11_debt, F_X11_answer, e1, Option.bind_some, wI_row, wI_slot, wI_same, wI_2, nI_p0, false_or, nle_f, nI_cl, n_lad, n_adl, nI_add, if_true, if_false, ite_true, ite_false]
        · simp (decide := true) (disch := omega) only [F_X12_debt, F_X12_isDebtAt, m1, m2, b0, b2, c2, show (60 : Int32) + 5 * 1 = nI 65 from rfl, z_st, wI_wI, Option.bind_some, wI_row, wI_slot, wI_same, wI_2, nI_p0, false_or, nle_f, nI_cl, n_lad, n_adl, nI_add, if_true, if_false, ite_true, ite_false]
      · refine ⟨M.1 18 j, z_wI M 0 11 0, z_st M 0, ?_, ?_, r_stv 0 h⟩
        · simp (decide := true) (disch := omega) only [F_X11_debt, F_X11_answer, e1, Option.bind_some, wI_row, wI_slot, wI_same, wI_2, nI_p0, false_or, nle_f, nI_cl, n_lad, n_adl, nI_add, if_true, if_false, ite_true, ite_false]
        · simp (decide := true) (disch := omega) only [F_X12_debt, F_X12_isDebtAt, m1, m2, b0, b3, c3, show (60 : Int32) + 5 * 2 = nI 70 from rfl, z_st, wI_wI, Option.bind_some, wI_row, wI_slot, wI_same, wI_2, nI_p0, false_or, nle_f, nI_cl, n_lad, n_adl, nI_add, if_true, if_false, ite_true, ite_false]
    · refine ⟨-1, z_wI M 0 11 5, z_st M 5, ?_, ?_, r_stv 5 h⟩
      · have k0 := i_ne 0 hr (by decide)
        have k1 := i_ne 1 hr (by decide)
        have k2 := i_ne 2 hr (by decide)
        simp (decide := true) (disch := omega) only [F_X11_debt, F_X11_refuse, e1, k0, k1, k2, Option.bind_some, wI_row, wI_slot, wI_same, wI_2, nI_p0, false_or, nle_f, nI_cl, n_lad, n_adl, nI_add, if_true, if_false, ite_true, ite_false]
      · have m2 := fun N => in_f (w := w) (M := N) (B := 0) (C := 2) 0 2 rfl rfl hr
        simp (decide := true) (disch := omega) only [F_X12_debt, F_X12_isDebtAt, F_X12_refuse, m1, m2, b0, z_st, wI_wI, Option.bind_some, wI_row, wI_slot, wI_same, wI_2, nI_p0, false_or, nle_f, nI_cl, n_lad, n_adl, nI_add, if_true, if_false, ite_true, ite_false]
  · refine ⟨-1, z_wI M 0 11 2, z_st M 2, ?_, ?_, r_stv 2 h⟩
    · have e1 := thD_f (w := w) c0 (by omega) hx
      simp (decide := true) (disch := omega) only [F_X11_debt, F_X11_refuse, e1, Option.bind_some, wI_row, wI_slot, wI_same, wI_2, nI_p0, false_or, nle_f, nI_cl, n_lad, n_adl, nI_add, if_true, if_false, ite_true, ite_false]
    · have m1 := fun N => is_f (w := w) (M := N) hx (by omega)
      simp (decide := true) (disch := omega) only [F_X12_debt, F_X12_isDebtAt, F_X12_refuse, m1, b0, z_st, wI_wI, Option.bind_some, wI_row, wI_slot, wI_same, wI_2, nI_p0, false_or, nle_f, nI_cl, n_lad, n_adl, nI_add, if_true, if_false, ite_true, ite_false]
theorem i_cx (x : Int32) (n : Nat) (hn : n < 2 ^ 30) : (∃ j, j < n ∧ x = nI j) ∨ ((¬ ∃ j, j < n ∧ x = nI j) ∧ (x < 0 ∨ (¬ x < 0 ∧ ¬ x < nI n ∧ nI n ≤ x))) := by
  by_cases h : ∃ j, j < n ∧ x = nI j
  · exact Or.inl h
  · refine Or.inr ⟨h, ?_⟩
    by_cases h1 : x < 0
    · exact Or.inl h1
    · refine Or.inr ⟨h1, ?_⟩
      by_cases h2 : nI n ≤ x
      · exact ⟨i_nlt.mpr h2, h2⟩
      · exact absurd ((i_cntB hn).mpr ⟨h1, h2⟩) h
theorem nI_l1 {a b : Nat} (h : a < b) (hb : b < 2147483648) : (nI b ≤ nI a) = False := eq_false (nI_ge h hb)
theorem nI_l2 {a b : Nat} (h : a < b) (hb : b < 2147483648) : (nI a < nI b) = True := eq_true (nI_lt h hb)
theorem call_clause (h : r_Rel M) (a b : Int32) : r_ok (F_X11_clause w M a b) (fun M => F_X12_clause w M a b) := by
  obtain ⟨P, ⟨_, _, _, ⟨_, c0, _, ca, _⟩, _⟩, ⟨_, _, _, ⟨_, b0, _, ba, _⟩, _⟩, ⟨_, _, _, ⟨_, v0, _⟩, _⟩⟩ := h.2.2.2.2.2.2.1
  simp only [Nat.reduceAdd] at c0
  rcases i_cx a P.2.2.2.1.2.1.1 (by omega) with ⟨j, hj, rfl⟩ | ⟨hx, hx2⟩
  · obtain ⟨c1, c2⟩ := ca j hj
    obtain ⟨b1, b2⟩ := ba j hj
    have m1 : ∀ N, F_X12_isIn w N (nI j).toInt64 0 ((nI P.2.2.2.1.2.1.1 - 1).toInt64) = some (true, N) := fun N => is_t hj (by omega)
    simp only [Nat.reduceAdd] at c1 c2
    by_cases hr : (0 : Int32) ≤ b ∧ b ≤ 1
    · have m2 := fun N => in_t (w := w) (M := N) (B := 0) (C := 1) 0 1 rfl rfl hr
      rcases i_lit1 hr with rfl | rfl
      · refine ⟨M.1 20 j, z_wI M 0 11 0, z_st M 0, ?_, ?_, r_stv 0 h⟩
        · simp (decide := true) (disch := omega) only [F_X11_clause, F_X11_answer, c0, nI_l2, Option.bind_some, wI_row, wI_slot, wI_same, wI_2, nI_p0, false_or, nle_f, nI_cl, n_lad, n_adl, nI_add, if_true, if_false, ite_true, ite_false]
        · simp (decide := true) (disch := omega) only [F_X12_clause, m1, m2, b0, b1, c1, show (75 : Int32) + 8 * 0 = nI 75 from rfl, z_st, wI_wI, Option.bind_some, wI_row, wI_slot, wI_same, wI_2, nI_p0, false_or, nle_f, nI_cl, n_lad, n_adl, nI_add, if_true, if_false, ite_true, ite_false]
      · refine ⟨M.1 21 j, z_wI M 0 11 0, z_st M 0, ?_, ?_, r_stv 0 h⟩
        · simp (decide := true) (disch := omega) only [F_X11_clause, F_X11_answer, c0, nI_l2, Option.bind_some, wI_row, wI_slot, wI_same, wI_2, nI_p0, false_or, nle_f, nI_cl, n_lad, n_adl, nI_add, if_true, if_false, ite_true, ite_false]
        · simp (decide := true) (disch := omega) only [F_X12_clause, m1, m2, b0, b2, c2, show (75 : Int32) + 8 * 1 = nI 83 from rfl, z_st, wI_wI, Option.bind_some, wI_row, wI_slot, wI_same, wI_2, nI_p0, false_or, nle_f, nI_cl, n_lad, n_adl, nI_add, if_true, if_false, ite_true, ite_false]
    · refine ⟨-1, z_wI M 0 11 5, z_st M 5, ?_, ?_, r_stv 5 h⟩
      · have k0 := i_ne 0 hr (by decide)
        have k1 := i_ne 1 hr (by decide)
        simp (decide := true) (disch := omega) only [F_X11_clause, F_X11_refuse, c0, nI_p0, nI_l2, k0, k1, Option.bind_some, wI_row, wI_slot, wI_same, wI_2, nI_p0, false_or, nle_f, nI_cl, n_lad, n_adl, nI_add, if_true, if_false, ite_true, ite_false]
      · have m2 := fun N => in_f (w := w) (M := N) (B := 0) (C := 1) 0 1 rfl rfl hr
        simp (decide := true) (disch := omega) only [F_X12_clause, F_X12_refuse, m1, m2, b0, z_st, wI_wI, Option.bind_some, wI_row, wI_slot, wI_same, wI_2, nI_p0, false_or, nle_f, nI_cl, n_lad, n_adl, nI_add, if_true, if_false, ite_true, ite_false]
  · refine ⟨-1, z_wI M 0 11 2, z_st M 2, ?_, ?_, r_stv 2 h⟩
    · rcases hx2 with k | ⟨k1, k2, _⟩
      · simp (decide := true) (disch := omega) only [F_X11_clause, F_X11_refuse, c0, k, Option.bind_some, wI_row, wI_slot, wI_same, wI_2, nI_p0, false_or, nle_f, nI_cl, n_lad, n_adl, nI_add, if_true, if_false, ite_true, ite_false]
      · simp (decide := true) (disch := omega) only [F_X11_clause, F_X11_refuse, c0, k1, k2, Option.bind_some, wI_row, wI_slot, wI_same, wI_2, nI_p0, false_or, nle_f, nI_cl, n_lad, n_adl, nI_add, if_true, if_false, ite_true, ite_false]
    · have m1 := fun N => is_f (w := w) (M := N) hx (by omega)
      simp (decide := true) (disch := omega) only [F_X12_clause, F_X12_refuse, m1, b0, z_st, wI_wI, Option.bind_some, wI_row, wI_slot, wI_same, wI_2, nI_p0, false_or, nle_f, nI_cl, n_lad, n_adl, nI_add, if_true, if_false, ite_true, ite_false]
theorem call_witness (h : r_Rel M) (a b : Int32) : r_ok (F_X11_witness w M a b) (fun M => F_X12_witness w M a b) := by
  obtain ⟨P, ⟨_, _, _, ⟨_, _, c0, _, ca⟩, _⟩, ⟨_, _, _, ⟨_, _, b0, _, ba⟩, _⟩, ⟨_, _, _, ⟨_, _, v0, _⟩, _⟩⟩ := h.2.2.2.2.2.2.1
  simp only [Nat.reduceAdd] at c0
  rcases i_cx a P.2.2.2.1.2.2.1 (by omega) with ⟨j, hj, rfl⟩ | ⟨hx, hx2⟩
  · obtain ⟨c1, c2⟩ := ca j hj
    obtain ⟨b1, b2⟩ := ba j hj
    have m1 : ∀ N, F_X12_isIn w N (nI j).toInt64 0 ((nI P.2.2.2.1.2.2.1 - 1).toInt64) = some (true, N) := fun N => is_t hj (by omega)
    simp only [Nat.reduceAdd] at c1 c2
    by_cases hr : b = 0 ∨ b = 1
    · rcases hr with rfl | rfl
      · refine ⟨M.1 22 j, z_wI M 0 11 0, z_st M 0, ?_, ?_, r_stv 0 h⟩
        · simp (decide := true) (disch := omega) only [F_X11_witness, F_X11_isSide, F_X11_answer, c0, nI_l1, Option.bind_some, wI_row, wI_slot, wI_same, wI_2, nI_p0, false_or, nle_f, nI_cl, n_lad, n_adl, nI_add, if_true, if_false, ite_true, ite_false]
        · simp (decide := true) (disch := omega) only [F_X12_witness, F_X12_isSideAt, m1, b0, b1, c1, show (91 : Int32) + 6 * 0 = nI 91 from rfl, z_st, wI_wI, Option.bind_some, wI_row, wI_slot, wI_same, wI_2, nI_p0, false_or, nle_f, nI_cl, n_lad, n_adl, nI_add, if_true, if_false, ite_true, ite_false]
      · refine ⟨M.1 23 j, z_wI M 0 11 0, z_st M 0, ?_, ?_, r_stv 0 h⟩
        · simp (decide := true) (disch := omega) only [F_X11_witness, F_X11_isSide, F_X11_answer, c0, nI_l1, Option.bind_some, wI_row, wI_slot, wI_same, wI_2, nI_p0, false_or, nle_f, nI_cl, n_lad, n_adl, nI_add, if_true, if_false, ite_true, ite_false]
        · simp (decide := true) (disch := omega) only [F_X12_witness, F_X12_isSideAt, m1, b0, b2, c2, show (91 : Int32) + 6 * 1 = nI 97 from rfl, z_st, wI_wI, Option.bind_some, wI_row, wI_slot, wI_same, wI_2, nI_p0, false_or, nle_f, nI_cl, n_lad, n_adl, nI_add, if_true, if_false, ite_true, ite_false]
    · refine ⟨-1, z_wI M 0 11 2, z_st M 2, ?_, ?_, r_stv 2 h⟩
      · have e := fun N => (sd_f (w := w) (M := N) hr).1
        simp (decide := true) (disch := omega) only [F_X11_witness, F_X11_refuse, c0, nI_p0, nI_l1, e, Option.bind_some, wI_row, wI_slot, wI_same, wI_2, nI_p0, false_or, nle_f, nI_cl, n_lad, n_adl, nI_add, if_true, if_false, ite_true, ite_false]
      · have e := fun N => (sd_f (w := w) (M := N) hr).2
        simp (decide := true) (disch := omega) only [F_X12_witness, F_X12_refuse, m1, b0, e, z_st, wI_wI, Option.bind_some, wI_row, wI_slot, wI_same, wI_2, nI_p0, false_or, nle_f, nI_cl, n_lad, n_adl, nI_add, if_true, if_false, ite_true, ite_false]
  · refine ⟨-1, z_wI M 0 11 2, z_st M 2, ?_, ?_, r_stv 2 h⟩
    · rcases hx2 with k | ⟨k1, _, k2⟩
      · simp (decide := true) (disch := omega) only [F_X11_witness, F_X11_refuse, c0, k, Option.bind_some, wI_row, wI_slot, wI_same, wI_2, nI_p0, false_or, nle_f, nI_cl, n_lad, n_adl, nI_add, if_true, if_false, ite_true, ite_false]
      · simp (decide := true) (disch := omega) only [F_X11_witness, F_X11_refuse, c0, k1, k2, Option.bind_some, wI_row, wI_slot, wI_same, wI_2, nI_p0, false_or, nle_f, nI_cl, n_lad, n_adl, nI_add, if_true, if_false, ite_true, ite_false]
    · have m1 := fun N => is_f (w := w) (M := N) hx (by omega)
      simp (decide := true) (disch := omega) only [F_X12_witness, F_X12_refuse, m1, b0, z_st, wI_wI, Option.bind_some, wI_row, wI_slot, wI_same, wI_2, nI_p0, false_or, nle_f, nI_cl, n_lad, n_adl, nI_add, if_true, if_false, ite_true, ite_false]
end
