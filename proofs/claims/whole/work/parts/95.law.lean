/-! ===== the law's loop ===== -/
theorem fin_i {o : Option (Int32 × z_Mem)} {g : z_Mem → Option (Int32 × z_Mem)} (h : r_ok o g) (K : z_Mem → Option (Bool × z_Mem)) : ∃ M2, r_Rel M2 ∧ (o.bind fun q => (g q.2).bind fun r => if q.1 = r.1 then K r.2 else some (false, r.2)) = K M2 := by
  obtain ⟨r, M1, M2, e1, e2, e3⟩ := h
  refine ⟨M2, e3, ?_⟩
  rw [e1, bindS, e2, bindS]
  exact if_pos rfl
theorem fin_l {o : Option (Int64 × z_Mem)} {g : z_Mem → Option (Int64 × z_Mem)} (h : r_ok o g) (K : z_Mem → Option (Bool × z_Mem)) : ∃ M2, r_Rel M2 ∧ (o.bind fun q => (g q.2).bind fun r => if lg_cmp q.1 r.1 = (0 : Int32) then K r.2 else some (false, r.2)) = K M2 := by
  obtain ⟨r, M1, M2, e1, e2, e3⟩ := h
  refine ⟨M2, e3, ?_⟩
  rw [e1, bindS, e2, bindS]
  exact if_pos ((lg_cmp_eq _ _).mpr rfl)
theorem fin_b {o : Option (Bool × z_Mem)} {g : z_Mem → Option (Bool × z_Mem)} (h : r_ok o g) (K : z_Mem → Option (Bool × z_Mem)) : ∃ M2, r_Rel M2 ∧ (o.bind fun q => (g q.2).bind fun r => if z_tb q.1 = z_tb r.1 then K r.2 else some (false, r.2)) = K M2 := by
  obtain ⟨r, M1, M2, e1, e2, e3⟩ := h
  refine ⟨M2, e3, ?_⟩
  rw [e1, bindS, e2, bindS]
  exact if_pos rfl
section
variable {w L i : Nat} {xs : Nat → Int32} {M : z_Mem}
theorem lw_hi (hL : L ≤ 3072) (hi : i ≤ L + 6) : (Int32.ofNat L - 6 < nI i) ↔ L < i + 6 := by
  have e1 : (nI L - 6).toInt = (L : Int) - 6 := pk_sub_toInt (a := L) (b := 6) (by omega) (by decide)
  show (nI L - 6 < nI i) ↔ _
  rw [Int32.lt_iff_toInt_lt, e1, nI_toInt (by omega)]
  omega
set_option maxHeartbeats 40000000 in
theorem law_turn (hw : 100000 ≤ w) (hL : L ≤ 3072) (h : r_Rel M) (hi : i + 6 ≤ L) (c : Nat) : ∃ M2, r_Rel M2 ∧ L_L_law w L xs (c + 1) M (nI i) = L_L_law w L xs c M2 (nI (i + 6)) := by
  have g0 : ∀ k, k < 6 → ¬ (nI (i + k) < 0 ∨ L ≤ (nI (i + k)).toNatClampNeg) := fun k hk x => by
    rw [nI_cl (by omega)] at x
    exact x.elim (nI_pos (by omega)) (fun y => by omega)
  have c0 : (nI i).toNatClampNeg = i := nI_cl (by omega)
  have c1 : (nI (i + 1)).toNatClampNeg = i + 1 := nI_cl (by omega)
  have c2 : (nI (i + 2)).toNatClampNeg = i + 2 := nI_cl (by omega)
  have c3 : (nI (i + 3)).toNatClampNeg = i + 3 := nI_cl (by omega)
  have c4 : (nI (i + 4)).toNatClampNeg = i + 4 := nI_cl (by omega)
  have c5 : (nI (i + 5)).toNatClampNeg = i + 5 := nI_cl (by omega)
  have n1 : nI i + (1 : Int32) = nI (i + 1) := n_adl 1 i
  have n2 : nI i + (2 : Int32) = nI (i + 2) := n_adl 2 i
  have n3 : nI i + (3 : Int32) = nI (i + 3) := n_adl 3 i
  have n4 : nI i + (4 : Int32) = nI (i + 4) := n_adl 4 i
  have n5 : nI i + (5 : Int32) = nI (i + 5) := n_adl 5 i
  have n6 : nI i + (6 : Int32) = nI (i + 6) := n_adl 6 i
  have p1 : (nI (i + 1) < 0 ∨ L ≤ i + 1) = False := eq_false (fun x => g0 1 (by omega) (by rw [c1]; exact x))
  have p2 : (nI (i + 2) < 0 ∨ L ≤ i + 2) = False := eq_false (fun x => g0 2 (by omega) (by rw [c2]; exact x))
  have p3 : (nI (i + 3) < 0 ∨ L ≤ i + 3) = False := eq_false (fun x => g0 3 (by omega) (by rw [c3]; exact x))
  have p4 : (nI (i + 4) < 0 ∨ L ≤ i + 4) = False := eq_false (fun x => g0 4 (by omega) (by rw [c4]; exact x))
  have p5 : (nI (i + 5) < 0 ∨ L ≤ i + 5) = False := eq_false (fun x => g0 5 (by omega) (by rw [c5]; exact x))
  rw [L_L_law, if_neg (fun x => by have := (lw_hi hL (by omega)).mp x; omega), if_neg (show ¬ (nI i < 0 ∨ L ≤ (nI i).toNatClampNeg) from g0 0 (by omega)), c0]
  by_cases k0 : (xs i &&& 63) = (0 : Int32)
  · rw [if_pos k0]
    simp only [n6, if_false, ↓reduceIte]
    exact fin_i (call_status h) (fun M2 => L_L_law w L xs c M2 (nI (i + 6)))
  rw [if_neg k0]
  by_cases k1 : (xs i &&& 63) = (1 : Int32)
  · rw [if_pos k1]
    simp only [n6, if_false, ↓reduceIte]
    exact fin_l (call_top h) (fun M2 => L_L_law w L xs c M2 (nI (i + 6)))
  rw [if_neg k1]
  by_cases k2 : (xs i &&& 63) = (2 : Int32)
  · rw [if_pos k2]
    simp only [n6, if_false, ↓reduceIte]
    exact fin_l (call_bottom h) (fun M2 => L_L_law w L xs c M2 (nI (i + 6)))
  rw [if_neg k2]
  by_cases k3 : (xs i &&& 63) = (3 : Int32)
  · rw [if_pos k3]
    simp only [n6, n1, n2, n3, n4, n5, c1, c2, c3, c4, c5, p1, p2, p3, p4, p5, if_false, ↓reduceIte]
    exact fin_b (call_tray (by omega) h _ _ _) (fun M2 => L_L_law w L xs c M2 (nI (i + 6)))
  rw [if_neg k3]
  by_cases k4 : (xs i &&& 63) = (4 : Int32)
  · rw [if_pos k4]
    simp only [n6, n1, n2, n3, n4, n5, c1, c2, c3, c4, c5, p1, p2, p3, p4, p5, if_false, ↓reduceIte]
    exact fin_b (call_write h _ _ _) (fun M2 => L_L_law w L xs c M2 (nI (i + 6)))
  rw [if_neg k4]
  by_cases k5 : (xs i &&& 63) = (5 : Int32)
  · rw [if_pos k5]
    simp only [n6, n1, n2, n3, n4, n5, c1, c2, c3, c4, c5, p1, p2, p3, p4, p5, if_false, ↓reduceIte]
    exact fin_l (call_read h _ _) (fun M2 => L_L_law w L xs c M2 (nI (i + 6)))
  rw [if_neg k5]
  by_cases k6 : (xs i &&& 63) = (6 : Int32)
  · rw [if_pos k6]
    simp only [n6, n1, n2, n3, n4, n5, c1, c2, c3, c4, c5, p1, p2, p3, p4, p5, if_false, ↓reduceIte]
    exact fin_b (call_pour (by omega) h _ _ _ _ _) (fun M2 => L_L_law w L xs c M2 (nI (i + 6)))
  rw [if_neg k6]
  by_cases k7 : (xs i &&& 63) = (7 : Int32)
  · rw [if_pos k7]
    simp only [n6, n1, n2, n3, n4, n5, c1, c2, c3, c4, c5, p1, p2, p3, p4, p5, if_false, ↓reduceIte]
    exact fin_i (call_feed (by omega) h _ _ _ _ _) (fun M2 => L_L_law w L xs c M2 (nI (i + 6)))
  rw [if_neg k7]
  by_cases k8 : (xs i &&& 63) = (8 : Int32)
  · rw [if_pos k8]
    simp only [n6, n1, n2, n3, n4, n5, c1, c2, c3, c4, c5, p1, p2, p3, p4, p5, if_false, ↓reduceIte]
    exact fin_i (call_parish (by omega) h _) (fun M2 => L_L_law w L xs c M2 (nI (i + 6)))
  rw [if_neg k8]
  by_cases k9 : (xs i &&& 63) = (9 : Int32)
  · rw [if_pos k9]
    simp only [n6, n1, n2, n3, n4, n5, c1, c2, c3, c4, c5, p1, p2, p3, p4, p5, if_false, ↓reduceIte]
    exact fin_i (call_years (by omega) h _) (fun M2 => L_L_law w L xs c M2 (nI (i + 6)))
  rw [if_neg k9]
  by_cases k10 : (xs i &&& 63) = (10 : Int32)
  · rw [if_pos k10]
    simp only [n6, n1, n2, n3, n4, n5, c1, c2, c3, c4, c5, p1, p2, p3, p4, p5, if_false, ↓reduceIte]
    exact fin_i (call_fault h _) (fun M2 => L_L_law w L xs c M2 (nI (i + 6)))
  rw [if_neg k10]
  by_cases k11 : (xs i &&& 63) = (11 : Int32)
  · rw [if_pos k11]
    simp only [n6, n1, n2, n3, n4, n5, c1, c2, c3, c4, c5, p1, p2, p3, p4, p5, if_false, ↓reduceIte]
    exact fin_i (call_many h _) (fun M2 => L_L_law w L xs c M2 (nI (i + 6)))
  rw [if_neg k11]
  by_cases k12 : (xs i &&& 63) = (12 : Int32)
  · rw [if_pos k12]
    simp only [n6, n1, n2, n3, n4, n5, c1, c2, c3, c4, c5, p1, p2, p3, p4, p5, if_false, ↓reduceIte]
    exact fin_i (call_chest h _) (fun M2 => L_L_law w L xs c M2 (nI (i + 6)))
  rw [if_neg k12]
  by_cases k13 : (xs i &&& 63) = (13 : Int32)
  · rw [if_pos k13]
    simp only [n6, n1, n2, n3, n4, n5, c1, c2, c3, c4, c5, p1, p2, p3, p4, p5, if_false, ↓reduceIte]
    exact fin_i (call_right h _ _) (fun M2 => L_L_law w L xs c M2 (nI (i + 6)))
  rw [if_neg k13]
  by_cases k14 : (xs i &&& 63) = (14 : Int32)
  · rw [if_pos k14]
    simp only [n6, n1, n2, n3, n4, n5, c1, c2, c3, c4, c5, p1, p2, p3, p4, p5, if_false, ↓reduceIte]
    exact fin_i (call_debt h _ _) (fun M2 => L_L_law w L xs c M2 (nI (i + 6)))
  rw [if_neg k14]
  by_cases k15 : (xs i &&& 63) = (15 : Int32)
  · rw [if_pos k15]
    simp only [n6, n1, n2, n3, n4, n5, c1, c2, c3, c4, c5, p1, p2, p3, p4, p5, if_false, ↓reduceIte]
    exact fin_i (call_owes (by omega) h _) (fun M2 => L_L_law w L xs c M2 (nI (i + 6)))
  rw [if_neg k15]
  by_cases k16 : (xs i &&& 63) = (16 : Int32)
  · rw [if_pos k16]
    simp only [n6, n1, n2, n3, n4, n5, c1, c2, c3, c4, c5, p1, p2, p3, p4, p5, if_false, ↓reduceIte]
    exact fin_i (call_layAgo h _) (fun M2 => L_L_law w L xs c M2 (nI (i + 6)))
  rw [if_neg k16]
  by_cases k17 : (xs i &&& 63) = (17 : Int32)
  · rw [if_pos k17]
    simp only [n6, n1, n2, n3, n4, n5, c1, c2, c3, c4, c5, p1, p2, p3, p4, p5, if_false, ↓reduceIte]
    exact fin_i (call_clause h _ _) (fun M2 => L_L_law w L xs c M2 (nI (i + 6)))
  rw [if_neg k17]
  by_cases k18 : (xs i &&& 63) = (18 : Int32)
  · rw [if_pos k18]
    simp only [n6, n1, n2, n3, n4, n5, c1, c2, c3, c4, c5, p1, p2, p3, p4, p5, if_false, ↓reduceIte]
    exact fin_i (call_witness h _ _) (fun M2 => L_L_law w L xs c M2 (nI (i + 6)))
  rw [if_neg k18]
  by_cases k19 : (xs i &&& 63) = (19 : Int32)
  · rw [if_pos k19]
    simp only [n6, n1, n2, n3, n4, n5, c1, c2, c3, c4, c5, p1, p2, p3, p4, p5, if_false, ↓reduceIte]
    exact fin_i (call_copyWorth (by omega) h _) (fun M2 => L_L_law w L xs c M2 (nI (i + 6)))
  rw [if_neg k19]
  by_cases k20 : (xs i &&& 63) = (20 : Int32)
  · rw [if_pos k20]
    simp only [n6, n1, n2, n3, n4, n5, c1, c2, c3, c4, c5, p1, p2, p3, p4, p5, if_false, ↓reduceIte]
    exact fin_i (call_month (by omega) h _) (fun M2 => L_L_law w L xs c M2 (nI (i + 6)))
  rw [if_neg k20]
  by_cases k21 : (xs i &&& 63) = (21 : Int32)
  · rw [if_pos k21]
    simp only [n6, n1, n2, n3, n4, n5, c1, c2, c3, c4, c5, p1, p2, p3, p4, p5, if_false, ↓reduceIte]
    exact fin_i (call_carry h _ _) (fun M2 => L_L_law w L xs c M2 (nI (i + 6)))
  rw [if_neg k21]
  by_cases k22 : (xs i &&& 63) = (22 : Int32)
  · rw [if_pos k22]
    simp only [n6, n1, n2, n3, n4, n5, c1, c2, c3, c4, c5, p1, p2, p3, p4, p5, if_false, ↓reduceIte]
    exact fin_i (call_swear h _ _ _) (fun M2 => L_L_law w L xs c M2 (nI (i + 6)))
  rw [if_neg k22]
  by_cases k23 : (xs i &&& 63) = (23 : Int32)
  · rw [if_pos k23]
    simp only [n6, n1, n2, n3, n4, n5, c1, c2, c3, c4, c5, p1, p2, p3, p4, p5, if_false, ↓reduceIte]
    exact fin_i (call_pay (by omega) h _) (fun M2 => L_L_law w L xs c M2 (nI (i + 6)))
  rw [if_neg k23]
  by_cases k24 : (xs i &&& 63) = (24 : Int32)
  · rw [if_pos k24]
    simp only [n6, n1, n2, n3, n4, n5, c1, c2, c3, c4, c5, p1, p2, p3, p4, p5, if_false, ↓reduceIte]
    exact fin_i (call_price h _ _) (fun M2 => L_L_law w L xs c M2 (nI (i + 6)))
  rw [if_neg k24]
  by_cases k25 : (xs i &&& 63) = (25 : Int32)
  · rw [if_pos k25]
    by_cases gg : xs (i + 3) = 0
    · simp only [n6, n1, n2, n3, n4, n5, c1, c2, c3, c4, c5, p1, p2, p3, p4, p5, gg, if_false, if_true, ↓reduceIte]
      exact fin_b (call_grant h _ _ _) (fun M2 => L_L_law w L xs c M2 (nI (i + 6)))
    · simp only [n6, n1, n2, n3, n4, n5, c1, c2, c3, c4, c5, p1, p2, p3, p4, p5, gg, if_false, if_true, ↓reduceIte]
      exact fin_b (call_grant h _ _ _) (fun M2 => L_L_law w L xs c M2 (nI (i + 6)))
  rw [if_neg k25]
  by_cases k26 : (xs i &&& 63) = (26 : Int32)
  · rw [if_pos k26]
    simp only [n6, n1, n2, n3, n4, n5, c1, c2, c3, c4, c5, p1, p2, p3, p4, p5, if_false, ↓reduceIte]
    exact fin_i (call_claim h _ _ _ _ _) (fun M2 => L_L_law w L xs c M2 (nI (i + 6)))
  rw [if_neg k26]
  by_cases k27 : (xs i &&& 63) = (27 : Int32)
  · rw [if_pos k27]
    simp only [n6, n1, n2, n3, n4, n5, c1, c2, c3, c4, c5, p1, p2, p3, p4, p5, if_false, ↓reduceIte]
    exact fin_b (call_rule h _ _) (fun M2 => L_L_law w L xs c M2 (nI (i + 6)))
  rw [if_neg k27]
  by_cases k28 : (xs i &&& 63) = (28 : Int32)
  · rw [if_pos k28]
    simp only [n6, n1, n2, n3, n4, n5, c1, c2, c3, c4, c5, p1, p2, p3, p4, p5, if_false, ↓reduceIte]
    exact fin_i (call_chestIn (by omega) h _ _) (fun M2 => L_L_law w L xs c M2 (nI (i + 6)))
  rw [if_neg k28]
  by_cases k29 : (xs i &&& 63) = (29 : Int32)
  · rw [if_pos k29]
    simp only [n6, if_false, ↓reduceIte]
    exact fin_i (call_tollIn (by omega) h) (fun M2 => L_L_law w L xs c M2 (nI (i + 6)))
  rw [if_neg k29]
  by_cases k30 : (xs i &&& 63) = (30 : Int32)
  · rw [if_pos k30]
    simp only [n6, if_false, ↓reduceIte]
    exact fin_i (call_bears (by omega) h) (fun M2 => L_L_law w L xs c M2 (nI (i + 6)))
  rw [if_neg k30]
  by_cases k31 : (xs i &&& 63) = (31 : Int32)
  · rw [if_pos k31]
    simp only [n6, n1, n2, n3, n4, n5, c1, c2, c3, c4, c5, p1, p2, p3, p4, p5, if_false, ↓reduceIte]
    exact fin_i (call_gain (by omega) h _ _) (fun M2 => L_L_law w L xs c M2 (nI (i + 6)))
  rw [if_neg k31]
  by_cases k32 : (xs i &&& 63) = (32 : Int32)
  · rw [if_pos k32]
    simp only [n6, n1, n2, n3, n4, n5, c1, c2, c3, c4, c5, p1, p2, p3, p4, p5, if_false, ↓reduceIte]
    exact fin_i (call_changes (by omega) h _) (fun M2 => L_L_law w L xs c M2 (nI (i + 6)))
  rw [if_neg k32]
  by_cases k33 : (xs i &&& 63) = (33 : Int32)
  · rw [if_pos k33]
    simp only [n6, n1, n2, n3, n4, n5, c1, c2, c3, c4, c5, p1, p2, p3, p4, p5, if_false, ↓reduceIte]
    exact fin_i (call_net (by omega) h _) (fun M2 => L_L_law w L xs c M2 (nI (i + 6)))
  rw [if_neg k33]
  by_cases k34 : (xs i &&& 63) = (34 : Int32)
  · rw [if_pos k34]
    simp only [n6, n1, n2, n3, n4, n5, c1, c2, c3, c4, c5, p1, p2, p3, p4, p5, if_false, ↓reduceIte]
    exact fin_i (call_best (by omega) h _) (fun M2 => L_L_law w L xs c M2 (nI (i + 6)))
  rw [if_neg k34]
  by_cases k35 : (xs i &&& 63) = (35 : Int32)
  · rw [if_pos k35]
    simp only [n6, n1, n2, n3, n4, n5, c1, c2, c3, c4, c5, p1, p2, p3, p4, p5, if_false, ↓reduceIte]
    exact fin_i (call_isSo (by omega) h _ _) (fun M2 => L_L_law w L xs c M2 (nI (i + 6)))
  rw [if_neg k35]
  by_cases k36 : (xs i &&& 63) = (36 : Int32)
  · rw [if_pos k36]
    simp only [n6, n1, n2, n3, n4, n5, c1, c2, c3, c4, c5, p1, p2, p3, p4, p5, if_false, ↓reduceIte]
    exact fin_i (call_howMany (by omega) h _) (fun M2 => L_L_law w L xs c M2 (nI (i + 6)))
  rw [if_neg k36]
  by_cases k37 : (xs i &&& 63) = (37 : Int32)
  · rw [if_pos k37]
    simp only [n6, n1, n2, n3, n4, n5, c1, c2, c3, c4, c5, p1, p2, p3, p4, p5, if_false, ↓reduceIte]
    exact fin_i (call_bestOf (by omega) h _) (fun M2 => L_L_law w L xs c M2 (nI (i + 6)))
  rw [if_neg k37]
  by_cases k38 : (xs i &&& 63) = (38 : Int32)
  · rw [if_pos k38]
    simp only [n6, if_false, ↓reduceIte]
    exact fin_i (call_even (by omega) h) (fun M2 => L_L_law w L xs c M2 (nI (i + 6)))
  rw [if_neg k38]
  by_cases k39 : (xs i &&& 63) = (39 : Int32)
  · rw [if_pos k39]
    simp only [n6, n1, n2, n3, n4, n5, c1, c2, c3, c4, c5, p1, p2, p3, p4, p5, if_false, ↓reduceIte]
    exact fin_i (call_rent (by omega) h _) (fun M2 => L_L_law w L xs c M2 (nI (i + 6)))
  rw [if_neg k39]
  by_cases k40 : (xs i &&& 63) = (40 : Int32)
  · rw [if_pos k40]
    simp only [n6, if_false, ↓reduceIte]
    exact fin_i (call_rulings (by omega) h) (fun M2 => L_L_law w L xs c M2 (nI (i + 6)))
  rw [if_neg k40]
  by_cases k41 : (xs i &&& 63) = (41 : Int32)
  · rw [if_pos k41]
    simp only [n6, n1, n2, n3, n4, n5, c1, c2, c3, c4, c5, p1, p2, p3, p4, p5, if_false, ↓reduceIte]
    exact fin_i (call_rulingAt (by omega) h _) (fun M2 => L_L_law w L xs c M2 (nI (i + 6)))
  rw [if_neg k41]
  by_cases k42 : (xs i &&& 63) = (42 : Int32)
  · rw [if_pos k42]
    simp only [n6, if_false, ↓reduceIte]
    exact fin_i (call_strike (by omega) h) (fun M2 => L_L_law w L xs c M2 (nI (i + 6)))
  rw [if_neg k42]
  by_cases k43 : (xs i &&& 63) = (43 : Int32)
  · rw [if_pos k43]
    simp only [n6, if_false, ↓reduceIte]
    exact fin_i (call_strikeSet (by omega) h) (fun M2 => L_L_law w L xs c M2 (nI (i + 6)))
  rw [if_neg k43]
  by_cases k44 : (xs i &&& 63) = (44 : Int32)
  · rw [if_pos k44]
    simp only [n6, n1, n2, n3, n4, n5, c1, c2, c3, c4, c5, p1, p2, p3, p4, p5, if_false, ↓reduceIte]
    exact fin_i (call_sure (by omega) h _) (fun M2 => L_L_law w L xs c M2 (nI (i + 6)))
  rw [if_neg k44]
  by_cases k45 : (xs i &&& 63) = (45 : Int32)
  · rw [if_pos k45]
    simp only [n6, n1, n2, n3, n4, n5, c1, c2, c3, c4, c5, p1, p2, p3, p4, p5, if_false, ↓reduceIte]
    exact fin_i (call_game (by omega) h _) (fun M2 => L_L_law w L xs c M2 (nI (i + 6)))
  rw [if_neg k45]
  by_cases k46 : (xs i &&& 63) = (46 : Int32)
  · rw [if_pos k46]
    simp only [n6, n1, n2, n3, n4, n5, c1, c2, c3, c4, c5, p1, p2, p3, p4, p5, if_false, ↓reduceIte]
    exact fin_i (call_moveOf (by omega) h _) (fun M2 => L_L_law w L xs c M2 (nI (i + 6)))
  rw [if_neg k46]
  by_cases k47 : (xs i &&& 63) = (47 : Int32)
  · rw [if_pos k47]
    simp only [n6, n1, n2, n3, n4, n5, c1, c2, c3, c4, c5, p1, p2, p3, p4, p5, if_false, ↓reduceIte]
    exact fin_b (call_whose (by omega) h _) (fun M2 => L_L_law w L xs c M2 (nI (i + 6)))
  rw [if_neg k47]
  by_cases k48 : (xs i &&& 63) = (48 : Int32)
  · rw [if_pos k48]
    simp only [n6, n1, n2, n3, n4, n5, c1, c2, c3, c4, c5, p1, p2, p3, p4, p5, if_false, ↓reduceIte]
    exact fin_b (call_share (by omega) h _) (fun M2 => L_L_law w L xs c M2 (nI (i + 6)))
  rw [if_neg k48]
  by_cases k49 : (xs i &&& 63) = (49 : Int32)
  · rw [if_pos k49]
    simp only [n6, n1, n2, n3, n4, n5, c1, c2, c3, c4, c5, p1, p2, p3, p4, p5, if_false, ↓reduceIte]
    exact fin_i (call_live (by omega) h _) (fun M2 => L_L_law w L xs c M2 (nI (i + 6)))
  rw [if_neg k49]
  by_cases k50 : (xs i &&& 63) = (50 : Int32)
  · rw [if_pos k50]
    simp only [n6, n1, n2, n3, n4, n5, c1, c2, c3, c4, c5, p1, p2, p3, p4, p5, if_false, ↓reduceIte]
    exact fin_i (call_lived h _) (fun M2 => L_L_law w L xs c M2 (nI (i + 6)))
  rw [if_neg k50]
  by_cases k51 : (xs i &&& 63) = (51 : Int32)
  · rw [if_pos k51]
    simp only [n6, n1, n2, n3, n4, n5, c1, c2, c3, c4, c5, p1, p2, p3, p4, p5, if_false, ↓reduceIte]
    exact fin_b (call_mean (by omega) h _ _) (fun M2 => L_L_law w L xs c M2 (nI (i + 6)))
  rw [if_neg k51]
  by_cases k52 : (xs i &&& 63) = (52 : Int32)
  · rw [if_pos k52]
    simp only [n6, if_false, ↓reduceIte]
    exact fin_i (call_mark (by omega) h) (fun M2 => L_L_law w L xs c M2 (nI (i + 6)))
  rw [if_neg k52]
  by_cases k53 : (xs i &&& 63) = (53 : Int32)
  · rw [if_pos k53]
    simp only [n6, if_false, ↓reduceIte]
    exact fin_i (call_back (by omega) h) (fun M2 => L_L_law w L xs c M2 (nI (i + 6)))
  rw [if_neg k53]
  exact ⟨M, h, by rw [n6]⟩
theorem law_all (hw : 100000 ≤ w) (hL : L ≤ 3072) : ∀ (m i c : Nat) (M : z_Mem), L + 6 - i ≤ m → m + 1 ≤ c → i ≤ L + 6 → r_Rel M → ∃ M', L_L_law w L xs c M (nI i) = some (true, M') := by
  intro m
  induction m with
  | zero =>
    intro i c M h1 h2 h3 h
    obtain ⟨c, rfl⟩ : ∃ x, c = x + 1 := ⟨c - 1, by omega⟩
    exact ⟨M, by rw [L_L_law, if_pos ((lw_hi hL h3).mpr (by omega))]⟩
  | succ m ih =>
    intro i c M h1 h2 h3 h
    obtain ⟨c, rfl⟩ : ∃ x, c = x + 1 := ⟨c - 1, by omega⟩
    by_cases g : L < i + 6
    · exact ⟨M, by rw [L_L_law, if_pos ((lw_hi hL h3).mpr g)]⟩
    · obtain ⟨M2, e1, e2⟩ := law_turn (xs := xs) hw hL h (show i + 6 ≤ L by omega) c
      rw [e2]
      exact ih (i + 6) c M2 (by omega) (by omega) (by omega) e1
end
/-! ===== the beginning ===== -/
theorem z_left : z_Left := by
  intro MC f0 f1 fz
  obtain ⟨M0, e1, e2, e3, e4⟩ := l_emp (w := 100000) (B := 0) (by omega) 375 0 100000 MC (by omega) (by omega)
  have e1' : F_X12_empties 100000 MC 0 = some ((), M0) := e1
  have z : ∀ a k v, (a, k, v) ∈ z_f0 → a ≠ 142 → M0.1 a k = v := fun a k v hm ha => by rw [e2 a ha]; exact f0 (a, k, v) hm
  have y : ∀ a k v, (a, k, v) ∈ z_f1 → M0.2 a k = v := fun a k v hm => by rw [e3]; exact f1 (a, k, v) hm
  have F : ∀ q, q < 375 → M0.1 142 q = s_0 q := by
    intro q hq
    rw [e4]
    unfold s_0
    by_cases g5 : q = 5
    · rw [if_pos (by omega), if_pos g5]
    · rw [if_neg (by omega), if_neg g5]
      by_cases g6 : q = 6
      · rw [if_pos (by omega), if_pos g6]
      · rw [if_neg (by omega), if_neg g6]
        by_cases g7 : q = 7
        · rw [if_pos (by omega), if_pos g7]
        · rw [if_neg (by omega), if_neg g7, if_pos (by omega)]
  obtain ⟨z6, z141, z2, z140⟩ := fz
  have R : r_Rel M0 := by
    refine ⟨?_, ⟨fun q hq => ?_, fun k hk => ?_⟩, ⟨?_, ?_⟩, ⟨0, by omega, ?_, ?_, fun k hk => ?_⟩, Or.inl ⟨?_, ?_, ?_⟩, Or.inl ⟨?_, ?_⟩, ⟨P_0, ?_, ?_, VP_0⟩, ⟨0, by omega, ?_, ?_, fun i hi => absurd hi (Nat.not_lt_zero i)⟩⟩
    · rw [z 0 11 0 (by decide) (by decide), z 137 0 0 (by decide) (by decide)]
    · rcases (show q = 0 ∨ q = 1 ∨ q = 2 ∨ q = 3 by omega) with rfl | rfl | rfl | rfl
      · rw [z 3 0 (-1) (by decide) (by decide), z 139 0 (-1) (by decide) (by decide), z 4 0 0 (by decide) (by decide), z 138 0 0 (by decide) (by decide)]; exact ⟨rfl, rfl, Or.inl rfl⟩
      · rw [z 3 1 (-1) (by decide) (by decide), z 139 1 (-1) (by decide) (by decide), z 4 1 0 (by decide) (by decide), z 138 1 0 (by decide) (by decide)]; exact ⟨rfl, rfl, Or.inl rfl⟩
      · rw [z 3 2 (-1) (by decide) (by decide), z 139 2 (-1) (by decide) (by decide), z 4 2 0 (by decide) (by decide), z 138 2 0 (by decide) (by decide)]; exact ⟨rfl, rfl, Or.inl rfl⟩
      · rw [z 3 3 (-1) (by decide) (by decide), z 139 3 (-1) (by decide) (by decide), z 4 3 0 (by decide) (by decide), z 138 3 0 (by decide) (by decide)]; exact ⟨rfl, rfl, Or.inl rfl⟩
    · rw [e3, z2 k hk, z140 k hk]
    · rw [y 0 12 0 (by decide), y 137 2 0 (by decide)]
    · rw [y 0 13 1 (by decide), y 137 3 1 (by decide)]
    · exact z 5 1 0 (by decide) (by decide)
    · exact z 137 8 0 (by decide) (by decide)
    · rw [e2 6 (by omega), e2 141 (by omega), z6 k hk, z141 k hk]; exact ⟨rfl, by decide⟩
    · exact z 0 16 0 (by decide) (by decide)
    · exact z 137 10 (-1) (by decide) (by decide)
    · exact z 137 11 (-1) (by decide) (by decide)
    · exact z 64 8 0 (by decide) (by decide)
    · exact z 137 30 0 (by decide) (by decide)
    · refine ⟨⟨?_, ?_, ?_, ?_, ?_, ?_, ?_, ?_, ?_⟩, ⟨?_, fun i hi => absurd hi (Nat.not_lt_zero i)⟩, ⟨?_, ?_, fun i x hx => ?_⟩, ⟨?_, ?_, ?_, fun i hi => absurd hi (Nat.not_lt_zero i), fun i hi => absurd hi (Nat.not_lt_zero i)⟩, ⟨?_, ?_, ?_, fun i x hx => ?_⟩⟩
      · exact z 7 5 8 (by decide) (by decide)
      · exact z 7 6 2 (by decide) (by decide)
      · exact z 7 7 5 (by decide) (by decide)
      · exact z 7 8 0 (by decide) (by decide)
      · exact z 7 9 0 (by decide) (by decide)
      · exact z 7 10 0 (by decide) (by decide)
      · exact z 7 11 0 (by decide) (by decide)
      · exact z 8 0 0 (by decide) (by decide)
      · exact z 8 1 0 (by decide) (by decide)
      · exact z 9 5 0 (by decide) (by decide)
      · exact z 15 3 0 (by decide) (by decide)
      · exact z 15 4 0 (by decide) (by decide)
      · simp [P_0] at hx
      · exact z 19 4 0 (by decide) (by decide)
      · exact z 19 5 0 (by decide) (by decide)
      · exact z 19 6 0 (by decide) (by decide)
      · exact z 24 5 0 (by decide) (by decide)
      · exact z 24 6 0 (by decide) (by decide)
      · exact z 24 7 0 (by decide) (by decide)
      · simp [P_0] at hx
    · refine ⟨⟨?_, ?_, ?_, ?_, ?_, ?_, ?_, ?_, ?_, ?_, ?_, ?_, ?_, ?_⟩, ⟨?_, fun i hi => absurd hi (Nat.not_lt_zero i)⟩, ⟨?_, ?_, fun i x hx => ?_⟩, ⟨?_, ?_, ?_, fun i hi => absurd hi (Nat.not_lt_zero i), fun i hi => absurd hi (Nat.not_lt_zero i)⟩, ⟨?_, fun x => Bool.noConfusion x⟩⟩
      all_goals try (exact F _ (by omega))
      · simp [P_0] at hx
    · exact z 0 10 0 (by decide) (by decide)
    · exact z 137 23 0 (by decide) (by decide)
  refine ⟨100000, M0, e1', fun L xs hL => ?_⟩
  obtain ⟨M', hM⟩ := law_all (w := 100000) (L := L) (xs := xs) (by omega) hL (L + 6) 0 (L + 7) M0 (by omega) (by omega) (by omega) R
  exact ⟨L + 7, M', hM⟩
