/-! ===== the next token ===== -/
/-- what the class calls a word: its number; 30 another, 31 too long for a name -/
def c_wd (t : Nat → Nat) (j s : Nat) : Int32 := match wn (l_tok t j s) k_ws 0 with
  | some i => nI i
  | none => if s ≤ 8 then 30 else 31
/-- class (A) and reference (N) stand at the same token, from j to e -/
def TR (A N : z_Mem) (t : Nat → Nat) (n j e : Nat) (c : Int32) : Prop := (A.1 5 4 = nI j ∧ A.1 5 5 = nI e ∧ N.1 137 15 = nI j ∧ N.1 137 16 = nI e) ∧ j ≤ e ∧ e ≤ n ∧ A.1 5 3 = c ∧
  ((c = 38 ∧ N.1 137 14 = 0 ∧ j = n) ∨
   (c = c_wd t j (e - j) ∧ N.1 137 14 = 1 ∧ j < e ∧ (∀ k, j ≤ k → k < e → isL (t k)) ∧ N.1 137 18 = nI (e - j) ∧ N.2 137 19 = WV t j (e - j)) ∨
   (c = 32 ∧ N.1 137 14 = 2 ∧ j < e ∧ ∃ v, v ≤ 9999 ∧ A.1 5 6 = nI v ∧ N.1 137 17 = nI v) ∨
   (N.1 137 14 = 3 ∧ j < e ∧ ((c = 33 ∧ N.1 137 17 = 59) ∨ (c = 34 ∧ N.1 137 17 = 60) ∨ (c = 36 ∧ N.1 137 17 = 61) ∨ (c = 35 ∧ N.1 137 17 = 62))) ∨
   (c = 37 ∧ N.1 137 14 = 4 ∧ j < e))
/-- what going on to the next token leaves as it was -/
def Ka (A A' N N' : z_Mem) : Prop := (∀ x, x ≠ 5 → A'.1 x = A.1 x) ∧ (∀ k, k < 3 ∨ 7 ≤ k → A'.1 5 k = A.1 5 k) ∧ A'.2 = A.2 ∧ (∀ x, x ≠ 137 → N'.1 x = N.1 x) ∧ (∀ k, k < 14 ∨ 19 ≤ k → N'.1 137 k = N.1 137 k) ∧ (∀ x, x ≠ 137 → N'.2 x = N.2 x) ∧ ∀ k, k ≠ 19 → N'.2 137 k = N.2 137 k
theorem Ka_r {A N : z_Mem} : Ka A A N N := ⟨fun _ _ => rfl, fun _ _ => rfl, rfl, fun _ _ => rfl, fun _ _ => rfl, fun _ _ => rfl, fun _ _ => rfl⟩
section
variable {w : Nat}
theorem wn_ok {A : z_Mem} {t : Nat → Nat} {n j e : Nat} (hw : 1000 ≤ w) (h : Txc A t n) (hje : j < e) (he : e ≤ n) (hl : ∀ k, j ≤ k → k < e → isL (t k)) (h4 : A.1 5 4 = nI j) (h5 : A.1 5 5 = nI e) : F_X7_wordNumber w A = some (c_wd t j (e - j), A) := by
  have hlen : z_txt.length = 152 := by decide +kernel
  have h9 := h.1
  have := wn_all (w := w) h (j := j) (s := e - j) (by omega) (by omega) (fun k hk => hl (j + k) (by omega) (by omega)) h4 k_ws [] 0 w ws_ok txt_ok (by rw [hlen]; simp; omega)
  unfold F_X7_wordNumber
  rw [h4, h5, pk_sub (by omega)]
  exact this
theorem adv (hw : 10000 ≤ w) {A N : z_Mem} {t : Nat → Nat} {n i : Nat} (hc : Txc A t n) (hm : Txm N t n) (hi : i ≤ n) (h5 : A.1 5 5 = nI i) (h16 : N.1 137 16 = nI i) : ∃ A' N' j e c, F_X7_advance w A = some ((), A') ∧ F_X12_advance w N = some ((), N') ∧ TR A' N' t n j e c ∧ Txc A' t n ∧ Txm N' t n ∧ i ≤ j ∧ (c = 38 ∨ j < e) ∧ Ka A A' N N' := by
  have h9 := hc.1
  obtain ⟨j, j1, j2, j3, j4⟩ := run_to (fun k => isB (t k)) n (n - i) i (by omega)
  -- to the token's first byte
  obtain ⟨cc, hcc⟩ : ∃ cc, w = cc + (j - i) + 1 := ⟨w - (j - i) - 1, by omega⟩
  have ea : F_X7_advance w A = tlC w A (nI j) := by
    unfold F_X7_advance
    rw [h5]
    have := c_skip (w := w) hc j2 j4 (j - i) i cc (by omega) j3
    rw [← hcc] at this
    exact this
  have em : F_X12_advance w N = tlM w cc (z_wI N 137 15 (nI j)) := by
    unfold F_X12_advance
    rw [h16]
    have := m_skip (w := w) j2 j4 (j - i) i cc (z_wI N 137 15 (nI i)) (Txm_of hm (wI_row (by omega)) (wI_slot (by omega))) (by omega) j3 wI_same
    rw [← hcc, wI_wI] at this
    exact this
  rw [ea, em]
  have c2 : (z_wI (z_wI A 5 4 (nI j)) 5 5 (nI j)).1 5 4 = nI j := by rw [wI_slot (by omega), wI_same]
  have tc : Txc (z_wI (z_wI A 5 4 (nI j)) 5 5 (nI j)) t n := Txc_of hc (by rw [wI_row (by omega), wI_row (by omega)]) (by rw [wI_slot (by omega), wI_slot (by omega)])
  have tm : Txm (z_wI (z_wI N 137 15 (nI j)) 137 16 (nI j)) t n := Txm_of hm (by rw [wI_row (by omega), wI_row (by omega)]) (by rw [wI_slot (by omega), wI_slot (by omega)])
  unfold tlC tlM
  rw [hc.2.2.1, wI_same, wI_slot (by omega), hm.2.2.1]
  by_cases g : j = n
  · subst g
    rw [if_neg (i_nlt.mpr (nI_le (Nat.le_refl _) (by omega))), if_neg (i_nlt.mpr (nI_le (Nat.le_refl _) (by omega)))]
    refine ⟨_, _, j, j, 38, rfl, rfl, ⟨⟨?_, ?_, ?_, ?_⟩, Nat.le_refl _, Nat.le_refl _, wI_same, Or.inl ⟨rfl, wI_same, rfl⟩⟩, ?_, ?_, by omega, Or.inl rfl, ?_⟩
    · rw [wI_slot (by omega)]; exact c2
    · rw [wI_slot (by omega), wI_same]
    · rw [wI_slot (by omega), wI_slot (by omega), wI_same]
    · rw [wI_slot (by omega), wI_same]
    · exact Txc_of tc (wI_row (by omega)) (wI_slot (by omega))
    · exact Txm_of tm (wI_row (by omega)) (wI_slot (by omega))
    · refine ⟨fun x hx => by rw [wI_row hx, wI_row hx, wI_row hx], fun k hk => by rw [wI_slot (by omega), wI_slot (by omega), wI_slot (by omega)], rfl, fun x hx => by rw [wI_row hx, wI_row hx, wI_row hx], fun k hk => by rw [wI_slot (by omega), wI_slot (by omega), wI_slot (by omega)], fun _ _ => rfl, fun _ _ => rfl⟩
  · have jn : j < n := by omega
    have tb := hc.2.1 j
    obtain ⟨b1, b2⟩ := f_btw (w := w) tc (i := j) (by omega)
    have lk := f_look (w := w) tm (i := j) (by omega)
    rw [if_pos jn] at lk
    rw [if_pos (nI_lt jn (by omega)), if_pos (nI_lt jn (by omega)), b1, bindS, lk, bindS]
    dsimp only
    rw [f_isL _ tb, bindS]
    dsimp only
    by_cases l1 : 97 ≤ t j ∧ t j ≤ 122
    · -- a word
      obtain ⟨e, e1, e2, e3, e4⟩ := run_to (fun k => isL (t k)) n (n - j) j (by omega)
      have je : j < e := by
        rcases Nat.lt_or_ge j e with x | x
        · exact x
        · exfalso
          have ej : e = j := by omega
          rcases e4 with y | y
          · omega
          · rw [ej] at y; exact y l1
      rw [decide_eq_true l1, if_pos rfl, if_pos rfl]
      obtain ⟨c5, hc5⟩ : ∃ c5, w = c5 + (e - j) + 1 := ⟨w - (e - j) - 1, by omega⟩
      have go : F_X7_goBehind w (z_wI (z_wI A 5 4 (nI j)) 5 5 (nI j)) 97 122 = some ((), z_wI (z_wI A 5 4 (nI j)) 5 5 (nI e)) := by
        unfold F_X7_goBehind
        have := c_go (w := w) e2 97 122 (fun x => 97 ≤ x ∧ x ≤ 122) (fun B hB i hi => (f_btw (w := w) hB hi).1) e4 (e - j) j c5 _ tc (by omega) e3 wI_same
        rw [← hc5, wI_wI] at this
        exact this
      have tc2 : Txc (z_wI (z_wI A 5 4 (nI j)) 5 5 (nI e)) t n := Txc_of hc (by rw [wI_row (by omega), wI_row (by omega)]) (by rw [wI_slot (by omega), wI_slot (by omega)])
      have wno := wn_ok (w := w) (by omega) tc2 je e2 e3 (by rw [wI_slot (by omega), wI_same]) wI_same
      rw [go, bindS, wno, bindS]
      obtain ⟨c6, hc6⟩ : ∃ c6, cc = c6 + (e - j) + 1 := ⟨cc - (e - j) - 1, by omega⟩
      have ml := m_let (w := w) (j := j) (by omega) e2 e3 e4 (e - j) 0 c6 (z_wL (z_wI (z_wI (z_wI N 137 15 (nI j)) 137 16 (nI j)) 137 14 1) 137 19 0) (Txm_of tm (by rw [wL_1, wI_row (by omega)]) (by rw [wL_1, wI_slot (by omega)])) (by omega) (by rw [wL_1, wI_slot (by omega), wI_slot (by omega), wI_same]) (by rw [wL_1, wI_slot (by omega), wI_same]; rfl) (by rw [wL_rd, if_pos ⟨rfl, rfl⟩]; rfl)
      rw [← hc6] at ml
      rw [ml]
      refine ⟨_, _, j, e, c_wd t j (e - j), rfl, rfl, ⟨⟨?_, ?_, ?_, ?_⟩, by omega, e2, wI_same, Or.inr (Or.inl ⟨rfl, ?_, je, e3, wI_same, ?_⟩)⟩, ?_, ?_, j1, Or.inr je, ?_⟩
      · rw [wI_slot (by omega), wI_slot (by omega), wI_same]
      · rw [wI_slot (by omega), wI_same]
      · rw [wI_slot (by omega), wI_slot (by omega), wL_1, wL_1, wI_slot (by omega), wI_slot (by omega), wI_same]
      · rw [wI_slot (by omega), wI_same]
      · rw [wI_slot (by omega), wI_slot (by omega), wL_1, wL_1, wI_same]
      · rw [wI_2, wI_2, wL_rd, if_pos ⟨rfl, rfl⟩]
      · exact Txc_of tc2 (wI_row (by omega)) (wI_slot (by omega))
      · exact Txm_of hm (by rw [wI_row (by omega), wI_row (by omega), wL_1, wL_1, wI_row (by omega), wI_row (by omega), wI_row (by omega)]) (by rw [wI_slot (by omega), wI_slot (by omega), wL_1, wL_1, wI_slot (by omega), wI_slot (by omega), wI_slot (by omega)])
      · refine ⟨fun x hx => by rw [wI_row hx, wI_row hx, wI_row hx], fun k hk => by rw [wI_slot (by omega), wI_slot (by omega), wI_slot (by omega)], rfl, fun x hx => by rw [wI_row hx, wI_row hx, wL_1, wL_1, wI_row hx, wI_row hx, wI_row hx], fun k hk => by rw [wI_slot (by omega), wI_slot (by omega), wL_1, wL_1, wI_slot (by omega), wI_slot (by omega), wI_slot (by omega)], fun x hx => by rw [wI_2, wI_2, wL_row hx, wL_row hx]; rfl, fun k hk => by rw [wI_2, wI_2, wL_rd, if_neg (fun z => hk z.2), wL_rd, if_neg (fun z => hk z.2)]; rfl⟩
    · rw [decide_eq_false l1, if_neg (by decide), if_neg (by decide), b2, bindS, f_isD _ tb, bindS]
      dsimp only
      by_cases l2 : 48 ≤ t j ∧ t j ≤ 57
      · -- a number
        obtain ⟨e, e1, e2, e3, e4⟩ := run_to (fun k => isD (t k)) n (n - j) j (by omega)
        have je : j < e := by
          rcases Nat.lt_or_ge j e with x | x
          · exact x
          · exfalso
            have ej : e = j := by omega
            rcases e4 with y | y
            · omega
            · rw [ej] at y; exact y l2
        rw [decide_eq_true l2, if_pos rfl, if_pos rfl]
        obtain ⟨c5, hc5⟩ : ∃ c5, w = c5 + (e - j) + 1 := ⟨w - (e - j) - 1, by omega⟩
        have go : F_X7_goBehind w (z_wI (z_wI A 5 4 (nI j)) 5 5 (nI j)) 48 57 = some ((), z_wI (z_wI A 5 4 (nI j)) 5 5 (nI e)) := by
          unfold F_X7_goBehind
          have := c_go (w := w) e2 48 57 (fun x => 48 ≤ x ∧ x ≤ 57) (fun B hB i hi => (f_btw (w := w) hB hi).2) e4 (e - j) j c5 _ tc (by omega) e3 wI_same
          rw [← hc5, wI_wI] at this
          exact this
        have tc2 : Txc (z_wI (z_wI A 5 4 (nI j)) 5 5 (nI e)) t n := Txc_of hc (by rw [wI_row (by omega), wI_row (by omega)]) (by rw [wI_slot (by omega), wI_slot (by omega)])
        rw [go, bindS]
        dsimp only
        rw [wI_same, wI_slot (by omega), wI_same, pk_sub (by omega)]
        obtain ⟨c6, hc6⟩ : ∃ c6, cc = c6 + (e - j) + 1 := ⟨cc - (e - j) - 1, by omega⟩
        have ml := m_dig (w := w) (j := j) (by omega) e2 e3 e4 (e - j) 0 c6 (z_wI (z_wI (z_wI N 137 15 (nI j)) 137 16 (nI j)) 137 17 0) (Txm_of tm (by rw [wI_row (by omega)]) (by rw [wI_slot (by omega)])) (by omega) (by rw [wI_slot (by omega), wI_slot (by omega), wI_same]) (by rw [wI_slot (by omega), wI_same]; rfl) (by rw [wI_same]; rfl)
        rw [← hc6] at ml
        rw [ml]
        have kn : ∀ (p q r s : Int32), Txm (z_wI (z_wI (z_wI (z_wI (z_wI (z_wI N 137 15 (nI j)) 137 16 p) 137 17 q) 137 17 r) 137 16 (nI e)) 137 14 s) t n ∧ (∀ x, x ≠ 137 → (z_wI (z_wI (z_wI (z_wI (z_wI (z_wI N 137 15 (nI j)) 137 16 p) 137 17 q) 137 17 r) 137 16 (nI e)) 137 14 s).1 x = N.1 x) ∧ ∀ k, k < 14 ∨ 19 ≤ k → (z_wI (z_wI (z_wI (z_wI (z_wI (z_wI N 137 15 (nI j)) 137 16 p) 137 17 q) 137 17 r) 137 16 (nI e)) 137 14 s).1 137 k = N.1 137 k := by
          intro p q r s
          refine ⟨Txm_of hm ?_ ?_, fun x hx => ?_, fun k hk => ?_⟩
          · rw [wI_row (by omega), wI_row (by omega), wI_row (by omega), wI_row (by omega), wI_row (by omega), wI_row (by omega)]
          · rw [wI_slot (by omega), wI_slot (by omega), wI_slot (by omega), wI_slot (by omega), wI_slot (by omega), wI_slot (by omega)]
          · rw [wI_row hx, wI_row hx, wI_row hx, wI_row hx, wI_row hx, wI_row hx]
          · rw [wI_slot (by omega), wI_slot (by omega), wI_slot (by omega), wI_slot (by omega), wI_slot (by omega), wI_slot (by omega)]
        by_cases g4 : e - j ≤ 4
        · rw [if_pos (show nI (e - j) ≤ (4 : Int32) from nI_le (b := 4) g4 (by omega)), if_pos g4]
          obtain ⟨c7, hc7⟩ : ∃ c7, w = c7 + (e - j) + 1 := ⟨w - (e - j) - 1, by omega⟩
          have dg := c_dig (w := w) (A := z_wI (z_wI (z_wI A 5 4 (nI j)) 5 5 (nI e)) 5 3 32) (Txc_of tc2 (wI_row (by omega)) (wI_slot (by omega))) e2 (by rw [wI_slot (by omega), wI_same]) g4 e3 (e - j) 0 c7 (by omega)
          rw [← hc7] at dg
          have dg' : F_X7_digitsRead w (z_wI (z_wI (z_wI A 5 4 (nI j)) 5 5 (nI e)) 5 3 32) = some (nI (dv t j (e - j)), z_wI (z_wI (z_wI A 5 4 (nI j)) 5 5 (nI e)) 5 3 32) := by
            unfold F_X7_digitsRead
            rw [wI_slot (by omega), wI_slot (by omega), wI_same]
            exact dg
          rw [dg', bindS, show min (e - j) 4 = e - j by omega]
          have dl := dv_lt (t := t) (s := j) (e - j) (fun i hi => e3 (j + i) (by omega) (by omega))
          have d4 : 10 ^ (e - j) ≤ 10 ^ 4 := Nat.pow_le_pow_right (by omega) g4
          have d5 : (10 : Nat) ^ 4 = 10000 := by decide
          refine ⟨_, _, j, e, 32, rfl, rfl, ⟨⟨?_, ?_, ?_, ?_⟩, by omega, e2, ?_, Or.inr (Or.inr (Or.inl ⟨rfl, wI_same, je, dv t j (e - j), by omega, wI_same, ?_⟩))⟩, ?_, (kn _ _ _ _).1, j1, Or.inr je, ?_⟩
          · rw [wI_slot (by omega), wI_slot (by omega), wI_slot (by omega), wI_same]
          · rw [wI_slot (by omega), wI_slot (by omega), wI_same]
          · rw [wI_slot (by omega), wI_slot (by omega), wI_slot (by omega), wI_slot (by omega), wI_slot (by omega), wI_same]
          · rw [wI_slot (by omega), wI_same]
          · rw [wI_slot (by omega), wI_same]
          · rw [wI_slot (by omega), wI_slot (by omega), wI_same]
          · exact Txc_of tc2 (by rw [wI_row (by omega), wI_row (by omega)]) (by rw [wI_slot (by omega), wI_slot (by omega)])
          · exact ⟨fun x hx => by rw [wI_row hx, wI_row hx, wI_row hx, wI_row hx], fun k hk => by rw [wI_slot (by omega), wI_slot (by omega), wI_slot (by omega), wI_slot (by omega)], rfl, (kn _ _ _ _).2.1, (kn _ _ _ _).2.2, fun _ _ => rfl, fun _ _ => rfl⟩
        · rw [if_neg (show ¬ nI (e - j) ≤ (4 : Int32) from nI_ge (a := 4) (by omega) (by omega)), if_neg g4]
          refine ⟨_, _, j, e, 37, rfl, rfl, ⟨⟨?_, ?_, ?_, ?_⟩, by omega, e2, ?_, Or.inr (Or.inr (Or.inr (Or.inr ⟨rfl, wI_same, je⟩)))⟩, ?_, (kn _ _ _ _).1, j1, Or.inr je, ?_⟩
          · rw [wI_slot (by omega), wI_slot (by omega), wI_slot (by omega), wI_same]
          · rw [wI_slot (by omega), wI_slot (by omega), wI_same]
          · rw [wI_slot (by omega), wI_slot (by omega), wI_slot (by omega), wI_slot (by omega), wI_slot (by omega), wI_same]
          · rw [wI_slot (by omega), wI_same]
          · rw [wI_slot (by omega), wI_same]
          · exact Txc_of tc2 (by rw [wI_row (by omega), wI_row (by omega)]) (by rw [wI_slot (by omega), wI_slot (by omega)])
          · exact ⟨fun x hx => by rw [wI_row hx, wI_row hx, wI_row hx, wI_row hx], fun k hk => by rw [wI_slot (by omega), wI_slot (by omega), wI_slot (by omega), wI_slot (by omega)], rfl, (kn _ _ _ _).2.1, (kn _ _ _ _).2.2, fun _ _ => rfl, fun _ _ => rfl⟩
      · -- a sign, or none
        rw [decide_eq_false l2, if_neg (by decide), if_neg (by decide), nI_11]
        obtain ⟨_, _, _, _, _, _, v7, v8, v9, v10, _⟩ := by_v tb
        have cell : (z_wI (z_wI (z_wI A 5 4 (nI j)) 5 5 (nI j)) 5 5 (nI (j + 1))).1 6 j = by_c (t j) := by
          rw [wI_row (by omega), wI_row (by omega), wI_row (by omega)]
          exact hc.2.2.2 j (by omega)
        have n15 : (z_wI (z_wI N 137 15 (nI j)) 137 16 (nI j)).1 137 15 = nI j := by rw [wI_slot (by omega), wI_same]
        rw [n15, nI_11]
        have fin : ∀ (c s : Int32), TR (z_wI (z_wI (z_wI (z_wI A 5 4 (nI j)) 5 5 (nI j)) 5 5 (nI (j + 1))) 5 3 c) (z_wI (z_wI (z_wI (z_wI (z_wI N 137 15 (nI j)) 137 16 (nI j)) 137 16 (nI (j + 1))) 137 17 (nI (t j))) 137 14 s) t n j (j + 1) c ∨ ¬ ((s = 3 ∧ ((c = 33 ∧ t j = 59) ∨ (c = 34 ∧ t j = 60) ∨ (c = 36 ∧ t j = 61) ∨ (c = 35 ∧ t j = 62))) ∨ (c = 37 ∧ s = 4)) := by
          intro c s
          by_cases q : (s = 3 ∧ ((c = 33 ∧ t j = 59) ∨ (c = 34 ∧ t j = 60) ∨ (c = 36 ∧ t j = 61) ∨ (c = 35 ∧ t j = 62))) ∨ (c = 37 ∧ s = 4)
          · left
            refine ⟨⟨?_, ?_, ?_, ?_⟩, by omega, by omega, wI_same, ?_⟩
            · rw [wI_slot (by omega), wI_slot (by omega), wI_slot (by omega), wI_same]
            · rw [wI_slot (by omega), wI_same]
            · rw [wI_slot (by omega), wI_slot (by omega), wI_slot (by omega), wI_slot (by omega), wI_same]
            · rw [wI_slot (by omega), wI_slot (by omega), wI_same]
            · rw [wI_same, show (z_wI (z_wI (z_wI (z_wI (z_wI N 137 15 (nI j)) 137 16 (nI j)) 137 16 (nI (j + 1))) 137 17 (nI (t j))) 137 14 s).1 137 17 = nI (t j) by rw [wI_slot (by omega), wI_same]]
              rcases q with ⟨q1, q2⟩ | ⟨q1, q2⟩
              · refine Or.inr (Or.inr (Or.inr (Or.inl ⟨q1, by omega, ?_⟩)))
                rcases q2 with ⟨a, b⟩ | ⟨a, b⟩ | ⟨a, b⟩ | ⟨a, b⟩
                · exact Or.inl ⟨a, by rw [b]; rfl⟩
                · exact Or.inr (Or.inl ⟨a, by rw [b]; rfl⟩)
                · exact Or.inr (Or.inr (Or.inl ⟨a, by rw [b]; rfl⟩))
                · exact Or.inr (Or.inr (Or.inr ⟨a, by rw [b]; rfl⟩))
              · exact Or.inr (Or.inr (Or.inr (Or.inr ⟨q1, q2, by omega⟩)))
          · exact Or.inr q
        have ka : ∀ (c s : Int32), Ka A (z_wI (z_wI (z_wI (z_wI A 5 4 (nI j)) 5 5 (nI j)) 5 5 (nI (j + 1))) 5 3 c) N (z_wI (z_wI (z_wI (z_wI (z_wI N 137 15 (nI j)) 137 16 (nI j)) 137 16 (nI (j + 1))) 137 17 (nI (t j))) 137 14 s) := by
          intro c s
          exact ⟨fun x hx => by rw [wI_row hx, wI_row hx, wI_row hx, wI_row hx], fun k hk => by rw [wI_slot (by omega), wI_slot (by omega), wI_slot (by omega), wI_slot (by omega)], rfl, fun x hx => by rw [wI_row hx, wI_row hx, wI_row hx, wI_row hx, wI_row hx], fun k hk => by rw [wI_slot (by omega), wI_slot (by omega), wI_slot (by omega), wI_slot (by omega), wI_slot (by omega)], fun _ _ => rfl, fun _ _ => rfl⟩
        have tcx : ∀ c : Int32, Txc (z_wI (z_wI (z_wI (z_wI A 5 4 (nI j)) 5 5 (nI j)) 5 5 (nI (j + 1))) 5 3 c) t n := fun c => Txc_of tc (by rw [wI_row (by omega), wI_row (by omega)]) (by rw [wI_slot (by omega), wI_slot (by omega)])
        have tmx : ∀ s : Int32, Txm (z_wI (z_wI (z_wI (z_wI (z_wI N 137 15 (nI j)) 137 16 (nI j)) 137 16 (nI (j + 1))) 137 17 (nI (t j))) 137 14 s) t n := fun s => Txm_of tm (by rw [wI_row (by omega), wI_row (by omega), wI_row (by omega)]) (by rw [wI_slot (by omega), wI_slot (by omega), wI_slot (by omega)])
        have ne : ∀ k, k < 256 → (nI (t j) = nI k ↔ t j = k) := fun k hk => nI_eq (by omega) (by omega)
        unfold F_X7_signAt F_X12_isSignByte
        rw [if_neg (n_in (by omega) (by omega)), nI_clamp (by omega), cell]
        have m59 : (nI (t j) = 59 ↔ t j = 59) := ne 59 (by omega)
        have m60 : (nI (t j) = 60 ↔ t j = 60) := ne 60 (by omega)
        have m61 : (nI (t j) = 61 ↔ t j = 61) := ne 61 (by omega)
        have m62 : (nI (t j) = 62 ↔ t j = 62) := ne 62 (by omega)
        by_cases s1 : t j = 59
        · rw [if_pos (v7.mpr s1), bindS, if_pos (m59.mpr s1), bindS, if_pos rfl]
          exact ⟨_, _, j, j + 1, 33, rfl, rfl, (fin 33 3).resolve_right (fun z => z (Or.inl ⟨rfl, Or.inl ⟨rfl, s1⟩⟩)), tcx _, tmx _, j1, Or.inr (by omega), ka _ _⟩
        · rw [if_neg (fun z => s1 (v7.mp z)), if_neg (fun z => s1 (m59.mp z))]
          by_cases s2 : t j = 60
          · rw [if_pos (v8.mpr s2), bindS, if_pos (m60.mpr s2), bindS, if_pos rfl]
            exact ⟨_, _, j, j + 1, 34, rfl, rfl, (fin 34 3).resolve_right (fun z => z (Or.inl ⟨rfl, Or.inr (Or.inl ⟨rfl, s2⟩)⟩)), tcx _, tmx _, j1, Or.inr (by omega), ka _ _⟩
          · rw [if_neg (fun z => s2 (v8.mp z)), if_neg (fun z => s2 (m60.mp z))]
            by_cases s3 : t j = 61
            · rw [if_pos (v9.mpr s3), bindS, if_neg (fun z => by have := m62.mp z; omega), if_pos (m61.mpr s3), bindS, if_pos rfl]
              exact ⟨_, _, j, j + 1, 36, rfl, rfl, (fin 36 3).resolve_right (fun z => z (Or.inl ⟨rfl, Or.inr (Or.inr (Or.inl ⟨rfl, s3⟩))⟩)), tcx _, tmx _, j1, Or.inr (by omega), ka _ _⟩
            · rw [if_neg (fun z => s3 (v9.mp z))]
              by_cases s4 : t j = 62
              · rw [if_pos (v10.mpr s4), bindS, if_pos (m62.mpr s4), bindS, if_pos rfl]
                exact ⟨_, _, j, j + 1, 35, rfl, rfl, (fin 35 3).resolve_right (fun z => z (Or.inl ⟨rfl, Or.inr (Or.inr (Or.inr ⟨rfl, s4⟩))⟩)), tcx _, tmx _, j1, Or.inr (by omega), ka _ _⟩
              · rw [if_neg (fun z => s4 (v10.mp z)), bindS, if_neg (fun z => s4 (m62.mp z)), if_neg (fun z => s3 (m61.mp z)), bindS, if_neg (by simp)]
                exact ⟨_, _, j, j + 1, 37, rfl, rfl, (fin 37 4).resolve_right (fun z => z (Or.inr ⟨rfl, rfl⟩)), tcx _, tmx _, j1, Or.inr (by omega), ka _ _⟩
end
