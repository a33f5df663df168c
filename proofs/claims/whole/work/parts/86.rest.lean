/-! ===== years: what stands behind a step's word ===== -/
def Ky (W : Nat) (A A' N N' : z_Mem) : Prop := (∀ x, x ≠ 5 → x ≠ 56 → A'.1 x = A.1 x) ∧ (∀ k, k < 3 → A'.1 5 k = A.1 5 k) ∧ (∀ k, k < 4 → A'.1 56 k = A.1 56 k) ∧ A'.2 = A.2 ∧ (∀ x, x ≠ 137 → x ≠ 142 → N'.1 x = N.1 x) ∧ (∀ k, k ≤ W → N'.1 142 k = N.1 142 k) ∧ (∀ k, k < 12 ∨ 19 ≤ k → N'.1 137 k = N.1 137 k) ∧ (∀ x, x ≠ 137 → N'.2 x = N.2 x) ∧ ∀ k, k ≠ 19 → N'.2 137 k = N.2 137 k
theorem Ky_t {W : Nat} {A B C N O Q : z_Mem} (h : Ky W A B N O) (g : Ky W B C O Q) : Ky W A C N Q := by
  obtain ⟨h1, h2, h3, h4, h5, h6, h7, h8, h9⟩ := h
  obtain ⟨g1, g2, g3, g4, g5, g6, g7, g8, g9⟩ := g
  exact ⟨fun x a b => (g1 x a b).trans (h1 x a b), fun x a => (g2 x a).trans (h2 x a), fun x a => (g3 x a).trans (h3 x a), g4.trans h4, fun x a b => (g5 x a b).trans (h5 x a b), fun x a => (g6 x a).trans (h6 x a), fun x a => (g7 x a).trans (h7 x a), fun x a => (g8 x a).trans (h8 x a), fun x a => (g9 x a).trans (h9 x a)⟩
theorem Kt_y {W : Nat} {A B N O : z_Mem} (h : Kt A B N O) : Ky W A B N O := by
  obtain ⟨h1, h2, h3, h4, h5, h6, h7⟩ := h
  exact ⟨fun x a _ => h1 x a, h2, fun k _ => by rw [h1 56 (by omega)], h3, fun x a _ => h4 x a, fun k _ => by rw [h4 142 (by omega)], h5, h6, h7⟩
theorem Ky_r {W : Nat} {A N : z_Mem} : Ky W A A N N := Kt_y Kt_r
theorem Ky_a {W : Nat} {A N : z_Mem} {k : Nat} {v : Int32} (hk : 4 ≤ k) : Ky W A (z_wI A 56 k v) N N :=
  ⟨fun x _ a => wI_row a, fun i _ => by rw [wI_row (by omega)], fun i _ => wI_slot (by omega), rfl, fun _ _ _ => rfl, fun _ _ => rfl, fun _ _ => rfl, fun _ _ => rfl, fun _ _ => rfl⟩
theorem Ky_n {W : Nat} {A N : z_Mem} {k : Nat} {v : Int32} (hk : W < k) : Ky W A A N (z_wI N 142 k v) :=
  ⟨fun _ _ _ => rfl, fun _ _ => rfl, fun _ _ => rfl, rfl, fun x _ a => wI_row a, fun i a => wI_slot (by omega), fun i _ => by rw [wI_row (by omega)], fun _ _ => rfl, fun _ _ => rfl⟩
/-- a step's numbers, as the reference has them -/
def sv (N : z_Mem) (W : Nat) (c f1 f2 f3 : Int32) : Prop := y_arg (c, f1, f2, f3, 0) ∧
  (c = 25 → N.1 142 (W + 5) = y_test f1 ∧ N.1 142 (W + 1) = f2 ∧ (y_test f1 = 1 → N.1 142 (W + 6) = f3 ∧ N.1 142 (W + 7) = y_sign f1)) ∧
  (¬ c = 25 → N.1 142 (W + 1) = f1 ∨ c = 24 ∨ c = 29) ∧ (c = 21 ∨ c = 22 → N.1 142 (W + 2) = f2) ∧ (c = 22 → N.1 142 (W + 3) = f3)
def Rs (A A' N N' : z_Mem) (W : Nat) (t : Nat → Nat) (n j : Nat) (c : Int32) (b : Bool) : Prop := Ky W A A' N N' ∧ ((b = true ∧ (∃ j' e' c', Gd A' N' t n j' e' c' ∧ j ≤ j') ∧ sv N' W c (A'.1 56 4) (A'.1 56 5) (A'.1 56 6)) ∨ (b = false ∧ Bd A' N'))
section
variable {w : Nat} {A N A' N' : z_Mem} {t : Nat → Nat} {n j e W : Nat} {c : Int32}
theorem Gd_a (h : Gd A N t n j e c) {k : Nat} {v : Int32} : Gd (z_wI A 56 k v) N t n j e c := Gd_k h (wI_row (by omega)) (wI_row (by omega)) rfl (fun _ _ => rfl) rfl
theorem Gd_n (h : Gd A N t n j e c) {k : Nat} {v : Int32} : Gd A (z_wI N 142 k v) t n j e c := Gd_k h rfl rfl (wI_row (by omega)) (fun _ _ => by rw [wI_row (by omega)]) rfl
theorem Bd_a (h : Bd A N) {k : Nat} {v : Int32} : Bd (z_wI A 56 k v) N := by
  obtain ⟨v, p, h1, h2, h3, h4, h5, h6⟩ := h
  exact ⟨v, p, h1, h2, by rw [wI_row (by omega)]; exact h3, by rw [wI_row (by omega)]; exact h4, h5, h6⟩
theorem Bd_m (h : Bd A N) {k : Nat} {v : Int32} : Bd A (z_wI N 142 k v) := by
  obtain ⟨v, p, h1, h2, h3, h4, h5, h6⟩ := h
  exact ⟨v, p, h1, h2, h3, h4, by rw [wI_row (by omega)]; exact h5, by rw [wI_row (by omega)]; exact h6⟩
theorem wadd (W k : Nat) : nI W + (OfNat.ofNat k : Int32) = nI (W + k) := n_adl k W
theorem win {W k : Nat} (h : W + 8 < 1875) (hk : k ≤ 8) : ¬ (nI (W + k) < 0 ∨ 1875 ≤ (nI (W + k)).toNatClampNeg) := nI_in (by omega) (by omega)
theorem wcl {W k : Nat} (h : W + 8 < 1875) (hk : k ≤ 8) : (nI (W + k)).toNatClampNeg = W + k := nI_cl (by omega)
/-- one number: month, pay, loop -/
theorem rs_one (hw : 10000 ≤ w) (h : Gd A N t n j e c) (hW : W + 8 < 1875) (z5 : A.1 56 5 = 0) (x κ : Int32) (lo hi : Nat) (hx : (x = 20 ∧ κ = 0 ∧ lo = 1 ∧ hi = 24) ∨ (x = 23 ∧ κ = 3 ∧ lo = 0 ∧ hi = 4) ∨ (x = 27 ∧ κ = 6 ∧ lo = 1 ∧ hi = 99)) (hk : N.1 142 W = κ) : ∃ b A' N', F_X10_takeNumbers w A x = some (b, A') ∧ F_X12_readRest w N (nI W) = some ((), N') ∧ Rs A A' N N' W t n j x b := by
  have hin : ¬ (nI W < 0 ∨ 1875 ≤ (nI W).toNatClampNeg) := nI_in (by omega) (by omega)
  have hcl : (nI W).toNatClampNeg = W := nI_cl (by omega)
  have je0 := h.2.2.1.2.1
  obtain ⟨A1, N1, q1, q2⟩ := g_num hw h lo hi (by omega) (nI lo) (nI hi) rfl rfl (by omega)
  have z51 : ¬ A1.1 56 5 = -1 := by rw [q1.1 56 (by omega), z5]; decide
  have eC : F_X10_takeNumbers w A x = (F_X7_takeNumber w A (nI lo) (nI hi)).bind fun q2 => if q2.1 = (-1 : Int32) then some (false, (z_wI q2.2 56 4 q2.1)) else if (q2.2.1 56 5) = (-1 : Int32) then some (false, (z_wI q2.2 56 4 q2.1)) else some (true, (z_wI q2.2 56 4 q2.1)) := by
    unfold F_X10_takeNumbers
    rcases hx with ⟨rfl, _, rfl, rfl⟩ | ⟨rfl, _, rfl, rfl⟩ | ⟨rfl, _, rfl, rfl⟩ <;> rfl
  have eM : F_X12_readRest w N (nI W) = (F_X12_count w N (nI lo) (nI hi)).bind fun q => if (nI (W + 1)) < 0 ∨ 1875 ≤ (nI (W + 1)).toNatClampNeg then none else some ((), (z_wI q.2 142 ((nI (W + 1)).toNatClampNeg) q.1)) := by
    unfold F_X12_readRest
    rw [if_neg hin, hcl, hk, nI_1]
    rcases hx with ⟨_, rfl, rfl, rfl⟩ | ⟨_, rfl, rfl, rfl⟩ | ⟨_, rfl, rfl, rfl⟩ <;> rfl
  rw [eC, eM]
  rcases q2 with ⟨v, v1, v2, _, _, q3, q4, j2, e2, c2, q5, q6⟩ | ⟨q3, q4, q5⟩
  · rw [q3, bindS, q4, bindS]
    dsimp only
    rw [if_neg (nI_nm1 (by omega)), if_neg z51, if_neg (win hW (by omega)), wcl hW (by omega)]
    refine ⟨true, _, _, rfl, rfl, Ky_t (Kt_y q1) (Ky_t (Ky_a (by omega)) (Ky_n (by omega))), Or.inl ⟨rfl, ⟨j2, e2, c2, Gd_n (Gd_a q5), by omega⟩, ?_⟩⟩
    rw [wI_same, wI_slot (by omega), wI_slot (by omega)]
    refine ⟨?_, fun y => ?_, fun _ => Or.inl wI_same, fun y => ?_, fun y => ?_⟩
    · rcases hx with ⟨rfl, _, rfl, rfl⟩ | ⟨rfl, _, rfl, rfl⟩ | ⟨rfl, _, rfl, rfl⟩
      · exact Or.inl ⟨rfl, nI_le v1 (by omega), nI_le v2 (by decide)⟩
      · exact Or.inr (Or.inr (Or.inr (Or.inl ⟨rfl, nI_le v1 (by omega), nI_le v2 (by decide)⟩)))
      · exact Or.inr (Or.inr (Or.inr (Or.inr (Or.inr (Or.inr (Or.inr (Or.inr ⟨rfl, nI_le v1 (by omega), nI_le v2 (by decide)⟩)))))))
    · rcases hx with ⟨rfl, _⟩ | ⟨rfl, _⟩ | ⟨rfl, _⟩ <;> exact absurd y (by decide)
    · rcases hx with ⟨rfl, _⟩ | ⟨rfl, _⟩ | ⟨rfl, _⟩ <;> exact absurd y (by decide)
    · rcases hx with ⟨rfl, _⟩ | ⟨rfl, _⟩ | ⟨rfl, _⟩ <;> exact absurd y (by decide)
  · rw [q3, bindS, q4, bindS]
    dsimp only
    rw [if_pos rfl, if_neg (win hW (by omega)), wcl hW (by omega)]
    exact ⟨false, _, _, rfl, rfl, Ky_t (Kt_y q1) (Ky_t (Ky_a (by omega)) (Ky_n (by omega))), Or.inr ⟨rfl, Bd_m (Bd_a q5)⟩⟩
/-- no number: any, stop -/
theorem rs_none (h : Gd A N t n j e c) (hW : W + 8 < 1875) (z4 : A.1 56 4 = 0) (z5 : A.1 56 5 = 0) (x κ : Int32) (hx : (x = 24 ∧ κ = 4) ∨ (x = 29 ∧ κ = 7)) (hk : N.1 142 W = κ) : ∃ b A' N', F_X10_takeNumbers w A x = some (b, A') ∧ F_X12_readRest w N (nI W) = some ((), N') ∧ Rs A A' N N' W t n j x b := by
  have hin : ¬ (nI W < 0 ∨ 1875 ≤ (nI W).toNatClampNeg) := nI_in (by omega) (by omega)
  have hcl : (nI W).toNatClampNeg = W := nI_cl (by omega)
  have je0 := h.2.2.1.2.1
  have je := h.2.2.1.2.1
  have m0 : ¬ (0 : Int32) = -1 := by decide
  have eC : F_X10_takeNumbers w A x = some (true, A) := by
    unfold F_X10_takeNumbers
    rw [z4, z5]
    rcases hx with ⟨rfl, _⟩ | ⟨rfl, _⟩ <;> rfl
  have eM : F_X12_readRest w N (nI W) = some ((), N) := by
    unfold F_X12_readRest
    rw [if_neg hin, hcl, hk]
    rcases hx with ⟨_, rfl⟩ | ⟨_, rfl⟩ <;> rfl
  refine ⟨true, A, N, eC, eM, Ky_r, Or.inl ⟨rfl, ⟨j, e, c, h, Nat.le_refl j⟩, ?_⟩⟩
  rcases hx with ⟨rfl, _⟩ | ⟨rfl, _⟩
  · exact ⟨Or.inr (Or.inr (Or.inr (Or.inr (Or.inl rfl)))), fun y => absurd y (by decide), fun _ => Or.inr (Or.inl rfl), fun y => absurd y (by decide), fun y => absurd y (by decide)⟩
  · exact ⟨Or.inr (Or.inr (Or.inr (Or.inr (Or.inr (Or.inl rfl))))), fun y => absurd y (by decide), fun _ => Or.inr (Or.inr rfl), fun y => absurd y (by decide), fun y => absurd y (by decide)⟩
/-- two numbers: carry -/
theorem rs_carry (hw : 10000 ≤ w) (h : Gd A N t n j e c) (hW : W + 8 < 1875) (hk : N.1 142 W = 1) : ∃ b A' N', F_X10_takeNumbers w A 21 = some (b, A') ∧ F_X12_readRest w N (nI W) = some ((), N') ∧ Rs A A' N N' W t n j 21 b := by
  have hin : ¬ (nI W < 0 ∨ 1875 ≤ (nI W).toNatClampNeg) := nI_in (by omega) (by omega)
  have hcl : (nI W).toNatClampNeg = W := nI_cl (by omega)
  have je0 := h.2.2.1.2.1
  unfold F_X10_takeNumbers F_X12_readRest
  rw [if_neg (show ¬ (21 : Int32) = 20 by decide), if_pos rfl, if_neg hin, hcl, hk, if_neg (show ¬ (1 : Int32) = 0 by decide), if_pos rfl]
  obtain ⟨A1, N1, q1, q2⟩ := g_num hw h 1 20 (by omega) 1 20 rfl rfl (by omega)
  rcases q2 with ⟨v, v1, v2, _, _, q3, q4, j2, e2, c2, q5, q6⟩ | ⟨q3, q4, q5⟩
  · rw [q3, bindS, q4, bindS]
    dsimp only
    rw [if_neg (nI_nm1 (by omega)), wadd W 1, if_neg (win hW (by omega)), wcl hW (by omega)]
    obtain ⟨A2, N2, r1, r2⟩ := g_num hw (Gd_n (Gd_a q5 (k := 4) (v := nI v)) (k := W + 1) (v := nI v)) 1 20 (by omega) 1 20 rfl rfl (by omega)
    have K := Ky_t (W := W) (Kt_y q1) (Ky_t (Ky_t (Ky_a (k := 4) (v := nI v) (by omega)) (Ky_n (k := W + 1) (v := nI v) (by omega))) (Kt_y r1))
    have a4 : A2.1 56 4 = nI v := by rw [r1.1 56 (by omega), wI_same]
    have n1 : N2.1 142 (W + 1) = nI v := by rw [r1.2.2.2.1 142 (by omega), wI_same]
    have je := q5.2.2.1.2.1
    rcases r2 with ⟨u, u1, u2, _, _, r3, r4, j3, e3, c3, r5, r6⟩ | ⟨r3, r4, r5⟩
    · rw [r3, bindS, r4, bindS]
      dsimp only
      rw [a4, if_neg (nI_nm1 (by omega)), if_neg (nI_nm1 (by omega)), wadd W 2, if_neg (win hW (by omega)), wcl hW (by omega)]
      refine ⟨true, _, _, rfl, rfl, Ky_t K (Ky_t (Ky_a (by omega)) (Ky_n (by omega))), Or.inl ⟨rfl, ⟨j3, e3, c3, Gd_n (Gd_a r5), by omega⟩, ?_⟩⟩
      refine ⟨Or.inr (Or.inl rfl), fun y => absurd y (by decide), fun _ => Or.inl ?_, fun _ => ?_, fun y => absurd y (by decide)⟩
      · rw [wI_slot (by omega), wI_slot (by omega), n1, a4]
      · rw [wI_same, wI_same]
    · rw [r3, bindS, r4, bindS]
      dsimp only
      rw [a4, if_neg (nI_nm1 (by omega)), if_pos rfl, wadd W 2, if_neg (win hW (by omega)), wcl hW (by omega)]
      exact ⟨false, _, _, rfl, rfl, Ky_t K (Ky_t (Ky_a (by omega)) (Ky_n (by omega))), Or.inr ⟨rfl, Bd_m (Bd_a r5)⟩⟩
  · rw [q3, bindS, q4, bindS]
    dsimp only
    have B1 := Bd_m (Bd_a (Bd_a q5 (k := 4) (v := -1)) (k := 5) (v := -1)) (k := W + 1) (v := 0)
    rw [if_pos rfl, if_pos rfl, wadd W 1, if_neg (win hW (by omega)), wcl hW (by omega), b_count (Bd_n B1), bindS]
    dsimp only
    rw [wadd W 2, if_neg (win hW (by omega)), wcl hW (by omega)]
    exact ⟨false, _, _, rfl, rfl, Ky_t (Kt_y q1) (Ky_t (Ky_a (by omega)) (Ky_t (Ky_a (by omega)) (Ky_t (Ky_n (by omega)) (Ky_n (by omega))))), Or.inr ⟨rfl, Bd_m B1⟩⟩
/-- a debt: swear -/
theorem rs_swear (hw : 10000 ≤ w) (h : Gd A N t n j e c) (hW : W + 8 < 1875) (hk : N.1 142 W = 2) : ∃ b A' N', F_X10_takeSworn w A = some (b, A') ∧ F_X12_readRest w N (nI W) = some ((), N') ∧ Rs A A' N N' W t n j 22 b := by
  have hin : ¬ (nI W < 0 ∨ 1875 ≤ (nI W).toNatClampNeg) := nI_in (by omega) (by omega)
  have hcl : (nI W).toNatClampNeg = W := nI_cl (by omega)
  have je0 := h.2.2.1.2.1
  unfold F_X10_takeSworn F_X12_readRest
  rw [if_neg hin, hcl, hk, if_neg (show ¬ (2 : Int32) = 0 by decide), if_neg (show ¬ (2 : Int32) = 1 by decide), if_pos rfl]
  obtain ⟨A1, N1, q1, q2⟩ := g_side hw h
  rcases q2 with ⟨v, v1, q3, q4, j2, e2, c2, q5, q6⟩ | ⟨q3, q4, q5⟩
  · rw [q3, bindS, q4, bindS]
    dsimp only
    rw [if_neg (nI_nm1 (by omega)), wadd W 1, if_neg (win hW (by omega)), wcl hW (by omega)]
    obtain ⟨A2, N2, r1, r2⟩ := g_num hw (Gd_n (Gd_a q5 (k := 4) (v := nI v)) (k := W + 1) (v := nI v)) 1 99 (by omega) 1 99 rfl rfl (by omega)
    have K := Ky_t (W := W) (Kt_y q1) (Ky_t (Ky_t (Ky_a (k := 4) (v := nI v) (by omega)) (Ky_n (k := W + 1) (v := nI v) (by omega))) (Kt_y r1))
    have a4 : A2.1 56 4 = nI v := by rw [r1.1 56 (by omega), wI_same]
    have n1 : N2.1 142 (W + 1) = nI v := by rw [r1.2.2.2.1 142 (by omega), wI_same]
    have je := q5.2.2.1.2.1
    rcases r2 with ⟨u, u1, u2, _, _, r3, r4, j3, e3, c3, r5, r6⟩ | ⟨r3, r4, r5⟩
    · rw [r3, bindS, r4, bindS]
      dsimp only
      rw [if_neg (nI_nm1 (by omega)), wadd W 2, if_neg (win hW (by omega)), wcl hW (by omega)]
      obtain ⟨A3, N3, s1, s2⟩ := g_num hw (Gd_n (Gd_a r5 (k := 5) (v := nI u)) (k := W + 2) (v := nI u)) 1 24 (by omega) 1 24 rfl rfl (by omega)
      have K2 := Ky_t K (Ky_t (Ky_t (Ky_a (k := 5) (v := nI u) (by omega)) (Ky_n (k := W + 2) (v := nI u) (by omega))) (Kt_y s1))
      have a44 : A3.1 56 4 = nI v := by rw [s1.1 56 (by omega), wI_slot (by omega), a4]
      have a5 : A3.1 56 5 = nI u := by rw [s1.1 56 (by omega), wI_same]
      have n11 : N3.1 142 (W + 1) = nI v := by rw [s1.2.2.2.1 142 (by omega), wI_slot (by omega), n1]
      have n2 : N3.1 142 (W + 2) = nI u := by rw [s1.2.2.2.1 142 (by omega), wI_same]
      have je2 := r5.2.2.1.2.1
      rcases s2 with ⟨x, x1, x2, _, _, s3, s4, j4, e4, c4, s5, s6⟩ | ⟨s3, s4, s5⟩
      · rw [s3, bindS, s4, bindS]
        dsimp only
        rw [if_neg (nI_nm1 (by omega)), wadd W 3, if_neg (win hW (by omega)), wcl hW (by omega)]
        refine ⟨true, _, _, rfl, rfl, Ky_t K2 (Ky_t (Ky_a (by omega)) (Ky_n (by omega))), Or.inl ⟨rfl, ⟨j4, e4, c4, Gd_n (Gd_a s5), by omega⟩, ?_⟩⟩
        rw [wI_slot (by omega), wI_slot (by omega), wI_same, a44, a5]
        refine ⟨Or.inr (Or.inr (Or.inl ⟨rfl, ?_, ⟨nI_le u1 (by omega), nI_le u2 (by decide)⟩, ⟨nI_le x1 (by omega), nI_le x2 (by decide)⟩⟩)), fun y => absurd y (by decide), fun _ => Or.inl ?_, fun _ => ?_, fun _ => wI_same⟩
        · rcases (show v = 0 ∨ v = 1 by omega) with rfl | rfl
          · exact Or.inl rfl
          · exact Or.inr rfl
        · rw [wI_slot (by omega), n11]
        · rw [wI_slot (by omega), n2]
      · rw [s3, bindS, s4, bindS]
        dsimp only
        rw [if_pos rfl, wadd W 3, if_neg (win hW (by omega)), wcl hW (by omega)]
        exact ⟨false, _, _, rfl, rfl, Ky_t K2 (Ky_t (Ky_a (by omega)) (Ky_n (by omega))), Or.inr ⟨rfl, Bd_m (Bd_a s5)⟩⟩
    · rw [r3, bindS, r4, bindS]
      dsimp only
      have B1 := Bd_m (Bd_a (Bd_a r5 (k := 5) (v := -1)) (k := 6) (v := -1)) (k := W + 2) (v := 0)
      rw [if_pos rfl, wadd W 2, if_neg (win hW (by omega)), wcl hW (by omega), b_count (Bd_n B1), bindS]
      dsimp only
      rw [wadd W 3, if_neg (win hW (by omega)), wcl hW (by omega)]
      exact ⟨false, _, _, rfl, rfl, Ky_t K (Ky_t (Ky_a (by omega)) (Ky_t (Ky_a (by omega)) (Ky_t (Ky_n (by omega)) (Ky_n (by omega))))), Or.inr ⟨rfl, Bd_m B1⟩⟩
  · rw [q3, bindS, q4, bindS]
    dsimp only
    have B1 := Bd_m (Bd_a (Bd_a (Bd_a q5 (k := 4) (v := -1)) (k := 5) (v := -1)) (k := 6) (v := -1)) (k := W + 1) (v := 0)
    have B2 := Bd_m B1 (k := W + 2) (v := 0)
    rw [if_pos rfl, wadd W 1, if_neg (win hW (by omega)), wcl hW (by omega), b_count (Bd_n B1), bindS]
    dsimp only
    rw [wadd W 2, if_neg (win hW (by omega)), wcl hW (by omega), b_count (Bd_n B2), bindS]
    dsimp only
    rw [wadd W 3, if_neg (win hW (by omega)), wcl hW (by omega)]
    exact ⟨false, _, _, rfl, rfl, Ky_t (Kt_y q1) (Ky_t (Ky_a (by omega)) (Ky_t (Ky_a (by omega)) (Ky_t (Ky_a (by omega)) (Ky_t (Ky_n (by omega)) (Ky_t (Ky_n (by omega)) (Ky_n (by omega))))))), Or.inr ⟨rfl, Bd_m B2⟩⟩
end
