/-! ===== plans: what the reference tells of them ===== -/
theorem bt_nI {p m : Nat} (hm : m < 32) : bt (nI p) m = p.testBit m := by
  unfold bt
  show (BitVec.ofNat 32 p).getLsbD m = _
  rw [BitVec.getLsbD_ofNat]
  simp [hm]
theorem bit_n {p m : Nat} (hm : m < 32) : (((nI p >>> (nI m &&& 31)) &&& 1) = 1) ↔ p.testBit m = true := by
  rw [b_bit _ hm, bt_nI hm]
  cases p.testBit m <;> simp
def g_lk (r : t_R) (i m : Nat) : Nat := (m + 12 - (r.2 2 i).toNatClampNeg) % 12
def g_wh (p : Nat) (ne : Int32) (l : Nat) : Int32 := if nI l = ne then 2 else if p.testBit l = true then 0 else 1
def g_b (r : t_R) (i : Nat) (s : Int32) (p : Nat) (ne : Int32) (m : Nat) : Bool := decide (((r.2 4 i >>> (nI m &&& 31)) &&& 1) = 1) && (if r.2 1 i = 1 then !decide (g_wh p ne (g_lk r i m) = s) else decide (g_wh p ne (g_lk r i m) = s))
def g_m (r : t_R) (i : Nat) (s : Int32) (p : Nat) (ne : Int32) : Nat → Int32
  | 0 => 0
  | m + 1 => if g_b r i s p ne m = true then g_m r i s p ne m + r.2 3 i else g_m r i s p ne m
def g_r (r : t_R) (s : Int32) (p : Nat) (ne : Int32) : Nat → Int32
  | 0 => 0
  | i + 1 => if r.2 0 i = s then g_r r s p ne i + g_m r i s p ne 12 else g_r r s p ne i
theorem lk_lag {r : t_R} (hv : VR r) {i : Nat} (hi : i < r.1) {m : Nat} (hm : m < 12) : (r.2 1 i = 2 ∧ (nI m + 12 - r.2 2 i) - (nI m + 12 - r.2 2 i) / 12 * 12 = nI (g_lk r i m) ∧ g_lk r i m < 12) ∨ (¬ r.2 1 i = 2 ∧ g_lk r i m = m ∧ (nI m + 12 - r.2 2 i) - (nI m + 12 - r.2 2 i) / 12 * 12 = nI m) := by
  have key : ∀ g : Nat, g ≤ 6 → r.2 2 i = nI g → (nI m + 12 - r.2 2 i) - (nI m + 12 - r.2 2 i) / 12 * 12 = nI ((m + 12 - g) % 12) ∧ g_lk r i m = (m + 12 - g) % 12 := by
    intro g hg e
    unfold g_lk
    rw [e, nI_clamp (by omega), show (12 : Int32) = nI 12 from rfl, nI_add, pk_sub (by omega), pk_rem (by omega) (by omega) (by omega)]
    exact ⟨rfl, rfl⟩
  obtain ⟨_, hk, _⟩ := hv.2 i hi
  rcases hk with ⟨e1, e2⟩ | ⟨e1, e2⟩ | ⟨e1, e2⟩
  · obtain ⟨k1, k2⟩ := key 0 (by omega) e2
    have e3 : (m + 12 - 0) % 12 = m := by omega
    rw [e3] at k1 k2
    exact Or.inr ⟨by rw [e1]; decide, k2, k1⟩
  · obtain ⟨k1, k2⟩ := key 0 (by omega) e2
    have e3 : (m + 12 - 0) % 12 = m := by omega
    rw [e3] at k1 k2
    exact Or.inr ⟨by rw [e1]; decide, k2, k1⟩
  · obtain ⟨g, _, hg, e⟩ := (i_rng 1 6 (by omega) (by omega)).mp e2
    obtain ⟨k1, k2⟩ := key g hg e
    exact Or.inl ⟨e1, by rw [k2]; exact k1, by rw [k2]; omega⟩
section
variable {w : Nat}
theorem f_has12 (M : z_Mem) (x y : Int32) : F_X12_has w M x y = some (decide (((x >>> (y &&& 31)) &&& 1) = 1), M) := by
  unfold F_X12_has
  by_cases h : ((x >>> (y &&& 31)) &&& 1) = 1
  · rw [if_pos h, decide_eq_true h]
  · rw [if_neg h, decide_eq_false h]
theorem f_lying (M : z_Mem) (p : Nat) (ne : Int32) {l : Nat} (hl : l < 32) : F_X12_lyingBy w M (nI p) (nI l) ne = some (g_wh p ne l, M) := by
  unfold F_X12_lyingBy g_wh
  by_cases h : nI l = ne
  · rw [if_pos h, if_pos h]
  · rw [if_neg h, if_neg h, f_has12, bindS]
    by_cases g : p.testBit l = true
    · rw [if_pos g, if_pos (decide_eq_true ((bit_n hl).mpr g))]
    · rw [if_neg g, if_neg (by rw [decide_eq_true_iff]; exact fun e => g ((bit_n hl).mp e))]
theorem ml_gstep {M : z_Mem} {r : t_R} (hb : BR (M.1 142) r) (hv : VR r) {i : Nat} (hi : i < r.1) (s ne a : Int32) (p : Nat) {m : Nat} (hm : m < 12) (c : Nat) : L_X12_gainOf w (c + 1) 1 M s (nI p) ne a (nI i) (nI m) = L_X12_gainOf w c 1 M s (nI p) ne (if g_b r i s p ne m = true then a + r.2 3 i else a) (nI i) (nI (m + 1)) := by
  obtain ⟨b0, b1, b2, b3, b4⟩ := hb.2 i hi
  have h8 := hv.1
  have g12 := ge12 hm
  rw [L_X12_gainOf, if_neg (by decide), if_pos rfl, if_neg g12]
  rcases lk_lag hv hi hm with ⟨e1, e2, e3⟩ | ⟨e1, e2, e3⟩
  · have fl := f_lying (w := w) M p ne (l := g_lk r i m) (by omega)
    have k1 : ¬ r.2 1 i = 1 := by rw [e1]; decide
    by_cases hh : ((r.2 4 i >>> (nI m &&& 31)) &&& 1) = 1
    · by_cases ww : g_wh p ne (g_lk r i m) = s
      · simp (maxSteps := 2000000) (decide := true) (disch := omega) only [k_28, k_36, k_44, k_52, b1, b2, b3, b4, e1, e2, fl, f_has12, g_b, hh, ww, nI_11, decide_true, decide_false, decide_eq_true_eq, Bool.true_and, Bool.false_and, Bool.not_true, Bool.not_false, Bool.false_eq_true, Bool.and_true, Bool.and_false, bindS, wI_row, wI_slot, wI_same, wI_2, nI_p0, false_or, nle_f, nI_cl, n_lad, n_adl, nI_add, if_true, if_false, ite_true, ite_false, ↓reduceIte]
      · simp (maxSteps := 2000000) (decide := true) (disch := omega) only [k_28, k_36, k_44, k_52, b1, b2, b3, b4, e1, e2, fl, f_has12, g_b, hh, ww, nI_11, decide_true, decide_false, decide_eq_true_eq, Bool.true_and, Bool.false_and, Bool.not_true, Bool.not_false, Bool.false_eq_true, Bool.and_true, Bool.and_false, bindS, wI_row, wI_slot, wI_same, wI_2, nI_p0, false_or, nle_f, nI_cl, n_lad, n_adl, nI_add, if_true, if_false, ite_true, ite_false, ↓reduceIte]
    · simp (maxSteps := 2000000) (decide := true) (disch := omega) only [k_28, k_36, k_44, k_52, b1, b2, b3, b4, e1, e2, fl, f_has12, g_b, hh, nI_11, decide_true, decide_false, decide_eq_true_eq, Bool.true_and, Bool.false_and, Bool.not_true, Bool.not_false, Bool.false_eq_true, Bool.and_true, Bool.and_false, bindS, wI_row, wI_slot, wI_same, wI_2, nI_p0, false_or, nle_f, nI_cl, n_lad, n_adl, nI_add, if_true, if_false, ite_true, ite_false, ↓reduceIte]
  · have fl := f_lying (w := w) M p ne (l := m) (by omega)
    by_cases k1 : r.2 1 i = 1
    · by_cases hh : ((r.2 4 i >>> (nI m &&& 31)) &&& 1) = 1
      · by_cases ww : g_wh p ne m = s
        · simp (maxSteps := 2000000) (decide := true) (disch := omega) only [k_28, k_36, k_44, k_52, b1, b2, b3, b4, k1, e2, fl, f_has12, g_b, hh, ww, nI_11, decide_true, decide_false, decide_eq_true_eq, Bool.true_and, Bool.false_and, Bool.not_true, Bool.not_false, Bool.false_eq_true, Bool.and_true, Bool.and_false, bindS, wI_row, wI_slot, wI_same, wI_2, nI_p0, false_or, nle_f, nI_cl, n_lad, n_adl, nI_add, if_true, if_false, ite_true, ite_false, ↓reduceIte]
        · simp (maxSteps := 2000000) (decide := true) (disch := omega) only [k_28, k_36, k_44, k_52, b1, b2, b3, b4, k1, e2, fl, f_has12, g_b, hh, ww, nI_11, decide_true, decide_false, decide_eq_true_eq, Bool.true_and, Bool.false_and, Bool.not_true, Bool.not_false, Bool.false_eq_true, Bool.and_true, Bool.and_false, bindS, wI_row, wI_slot, wI_same, wI_2, nI_p0, false_or, nle_f, nI_cl, n_lad, n_adl, nI_add, if_true, if_false, ite_true, ite_false, ↓reduceIte]
      · simp (maxSteps := 2000000) (decide := true) (disch := omega) only [k_28, k_36, k_44, k_52, b1, b2, b3, b4, k1, e2, fl, f_has12, g_b, hh, nI_11, decide_true, decide_false, decide_eq_true_eq, Bool.true_and, Bool.false_and, Bool.not_true, Bool.not_false, Bool.false_eq_true, Bool.and_true, Bool.and_false, bindS, wI_row, wI_slot, wI_same, wI_2, nI_p0, false_or, nle_f, nI_cl, n_lad, n_adl, nI_add, if_true, if_false, ite_true, ite_false, ↓reduceIte]
    · by_cases hh : ((r.2 4 i >>> (nI m &&& 31)) &&& 1) = 1
      · by_cases ww : g_wh p ne m = s
        · simp (maxSteps := 2000000) (decide := true) (disch := omega) only [k_28, k_36, k_44, k_52, b1, b2, b3, b4, e1, k1, e2, fl, f_has12, g_b, hh, ww, nI_11, decide_true, decide_false, decide_eq_true_eq, Bool.true_and, Bool.false_and, Bool.not_true, Bool.not_false, Bool.false_eq_true, Bool.and_true, Bool.and_false, bindS, wI_row, wI_slot, wI_same, wI_2, nI_p0, false_or, nle_f, nI_cl, n_lad, n_adl, nI_add, if_true, if_false, ite_true, ite_false, ↓reduceIte]
        · simp (maxSteps := 2000000) (decide := true) (disch := omega) only [k_28, k_36, k_44, k_52, b1, b2, b3, b4, e1, k1, e2, fl, f_has12, g_b, hh, ww, nI_11, decide_true, decide_false, decide_eq_true_eq, Bool.true_and, Bool.false_and, Bool.not_true, Bool.not_false, Bool.false_eq_true, Bool.and_true, Bool.and_false, bindS, wI_row, wI_slot, wI_same, wI_2, nI_p0, false_or, nle_f, nI_cl, n_lad, n_adl, nI_add, if_true, if_false, ite_true, ite_false, ↓reduceIte]
      · simp (maxSteps := 2000000) (decide := true) (disch := omega) only [k_28, k_36, k_44, k_52, b1, b2, b3, b4, e1, k1, e2, fl, f_has12, g_b, hh, nI_11, decide_true, decide_false, decide_eq_true_eq, Bool.true_and, Bool.false_and, Bool.not_true, Bool.not_false, Bool.false_eq_true, Bool.and_true, Bool.and_false, bindS, wI_row, wI_slot, wI_same, wI_2, nI_p0, false_or, nle_f, nI_cl, n_lad, n_adl, nI_add, if_true, if_false, ite_true, ite_false, ↓reduceIte]
theorem ml_gainM {M : z_Mem} {r : t_R} (hb : BR (M.1 142) r) (hv : VR r) {i : Nat} (hi : i < r.1) (s ne a : Int32) (p : Nat) : ∀ (k m c : Nat), m + k = 12 → L_X12_gainOf w (c + k + 1) 1 M s (nI p) ne (a + g_m r i s p ne m) (nI i) (nI m) = L_X12_gainOf w c 0 M s (nI p) ne (a + g_m r i s p ne 12) (nI (i + 1)) 0 := by
  intro k
  induction k with
  | zero =>
    intro m c h
    obtain rfl : m = 12 := by omega
    rw [L_X12_gainOf, if_neg (by decide), if_pos rfl, if_pos (by decide), nI_11]
  | succ k ih =>
    intro m c h
    rw [show c + (k + 1) + 1 = (c + k + 1) + 1 by omega, ml_gstep hb hv hi s ne _ p (by omega) (c + k + 1), ← ih (m + 1) c (by omega), g_m]
    by_cases g : g_b r i s p ne m = true
    · rw [if_pos g, if_pos g, Int32.add_assoc]
    · rw [if_neg g, if_neg g]
theorem ml_gainR {M : z_Mem} {r : t_R} (hb : BR (M.1 142) r) (hv : VR r) (s ne : Int32) (p : Nat) : ∀ (k i c : Nat), i + k = r.1 → 14 * k < c → L_X12_gainOf w c 0 M s (nI p) ne (g_r r s p ne i) (nI i) 0 = some (g_r r s p ne r.1, M) := by
  have h8 := hv.1
  intro k
  induction k with
  | zero =>
    intro i c h1 h2
    obtain ⟨c, rfl⟩ : ∃ x, c = x + 1 := ⟨c - 1, by omega⟩
    obtain rfl : i = r.1 := by omega
    rw [L_X12_gainOf, if_pos rfl, hb.1, if_pos (nI_le (by omega) (by omega))]
  | succ k ih =>
    intro i c h1 h2
    obtain ⟨c, rfl⟩ : ∃ x, c = x + 14 := ⟨c - 14, by omega⟩
    obtain ⟨b0, b1, b2, b3, b4⟩ := hb.2 i (by omega)
    have r1 := ih (i + 1) c (by omega) (by omega)
    have r2 := ih (i + 1) (c + 13) (by omega) (by omega)
    have e := ml_gainM (w := w) hb hv (i := i) (by omega) s ne (g_r r s p ne i) p 12 0 c (by omega)
    rw [g_m, Int32.add_zero] at e
    rw [g_r] at r1 r2
    rw [show c + 14 = (c + 13) + 1 from rfl, L_X12_gainOf, if_pos rfl, hb.1, if_neg (nI_ge (by omega) (by omega))]
    by_cases g : r.2 0 i = s
    · rw [if_pos g] at r1
      simp (maxSteps := 2000000) (decide := true) (disch := omega) only [k_20, b0, g, bindS, wI_row, wI_slot, wI_same, wI_2, nI_p0, false_or, nle_f, nI_cl, n_lad, n_adl, nI_add, if_true, if_false, ite_true, ite_false, ↓reduceIte]
      rw [show c + 13 = c + 12 + 1 from rfl]
      exact e.trans r1
    · rw [if_neg g] at r2
      simp (maxSteps := 2000000) (decide := true) (disch := omega) only [k_20, b0, g, nI_11, bindS, wI_row, wI_slot, wI_same, wI_2, nI_p0, false_or, nle_f, nI_cl, n_lad, n_adl, nI_add, if_true, if_false, ite_true, ite_false, ↓reduceIte]
      exact r2
theorem f_gain12 (hw : 1000 ≤ w) {M : z_Mem} {r : t_R} (hb : BR (M.1 142) r) (hv : VR r) (s ne : Int32) (p : Nat) : F_X12_gainOf w M s (nI p) ne = some (g_r r s p ne r.1, M) := by
  have h8 := hv.1
  exact ml_gainR hb hv s ne p r.1 0 w (by omega) (by omega)
/-! changes -/
def z_ch (x : Int32) : Nat → Int32
  | 0 => 0
  | k + 1 => if decide (((x >>> (nI k &&& 31)) &&& 1) = 1) = decide (((x >>> (nI ((k + 11) % 12) &&& 31)) &&& 1) = 1) then z_ch x k else z_ch x k + 1
def z_chC (x : Int32) : Int32 := z_bc (x ^^^ (((x <<< ((1 : Int32) &&& 31)) ||| (x >>> ((11 : Int32) &&& 31))) &&& (4095 : Int32)))
theorem ch_all : bs_all (fun n => z_chC (nI n) == z_ch (nI n) 12 && (decide (0 ≤ z_ch (nI n) 12) && decide (z_ch (nI n) 12 ≤ 12))) 12 0 = true := by decide +kernel
theorem ch_ok {n : Nat} (h : n < 4096) : z_chC (nI n) = z_ch (nI n) 12 ∧ 0 ≤ z_ch (nI n) 12 ∧ z_ch (nI n) 12 ≤ 12 := by
  have := bs_ok 12 0 ch_all n (Nat.div_eq_of_lt h)
  simp only [Bool.and_eq_true, beq_iff_eq, decide_eq_true_eq] at this
  exact this
theorem f_ch5 (M : z_Mem) {p : Nat} (hp : p < 4096) : F_X5_changesOf w M (nI p) = some (z_ch (nI p) 12, M) := by
  rw [← (ch_ok hp).1]
  rfl
theorem z_tbi {a b : Bool} : (z_tb a = z_tb b) ↔ a = b := by cases a <;> cases b <;> decide
theorem ml_ch {M : z_Mem} (x : Int32) : ∀ (m k c : Nat), k + m = 12 → m < c → L_X12_changesOf w c M (z_ch x k) x (nI k) = some (z_ch x 12, M) := by
  intro m
  induction m with
  | zero =>
    intro k c h1 h2
    obtain ⟨c, rfl⟩ : ∃ x, c = x + 1 := ⟨c - 1, by omega⟩
    obtain rfl : k = 12 := by omega
    rw [L_X12_changesOf, if_pos (by decide)]
  | succ m ih =>
    intro k c h1 h2
    obtain ⟨c, rfl⟩ : ∃ x, c = x + 1 := ⟨c - 1, by omega⟩
    have r := ih (k + 1) c (by omega) (by omega)
    have e : nI k + 11 - (nI k + 11) / 12 * 12 = nI ((k + 11) % 12) := by
      rw [show (11 : Int32) = nI 11 from rfl, show (12 : Int32) = nI 12 from rfl, nI_add, pk_rem (by omega) (by omega) (by omega)]
    rw [L_X12_changesOf, if_neg (ge12 (by omega)), f_has12, bindS, e, f_has12, bindS, nI_11, Int32.add_zero]
    rw [z_ch] at r
    by_cases g : decide (((x >>> (nI k &&& 31)) &&& 1) = 1) = decide (((x >>> (nI ((k + 11) % 12) &&& 31)) &&& 1) = 1)
    · rw [if_pos (z_tbi.mpr g)]
      rw [if_pos g] at r
      exact r
    · rw [if_neg (fun x => g (z_tbi.mp x))]
      rw [if_neg g] at r
      exact r
theorem f_ch12 (hw : 1000 ≤ w) (M : z_Mem) (x : Int32) : F_X12_changesOf w M x (-1) = some (z_ch x 12, M) := by
  unfold F_X12_changesOf
  rw [if_pos (by decide)]
  exact ml_ch x 12 0 w (by omega) (by omega)
end
