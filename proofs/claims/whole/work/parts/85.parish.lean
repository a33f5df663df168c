/-! ===== parish ===== -/
theorem r_rd {M M' : z_Mem} (h : r_Rel M) (hs : M'.1 0 11 = M'.1 137 0) (k5 : M'.1 5 1 = 0) (k8 : M'.1 137 8 = 0) (hf : r_Fa M') (k10 : M'.1 0 10 = M.1 0 10) (k1 : ∀ k, k = 23 ∨ k = 30 → M'.1 137 k = M.1 137 k) (ka : ∀ a, a = 3 ∨ a = 4 ∨ a = 6 ∨ a = 64 ∨ (68 ≤ a ∧ a < 137) ∨ a = 138 ∨ a = 139 ∨ a = 141 ∨ a = 147 → M'.1 a = M.1 a) (kc : ∀ k, 375 ≤ k → k < 1500 → M'.1 142 k = M.1 142 k) (kl : ∀ a k, a = 2 ∨ a = 140 ∨ a = 0 ∨ (a = 137 ∧ (k = 2 ∨ k = 3)) → M'.2 a k = M.2 a k) (hp : r_Pa M') : r_Rel M' := by
  obtain ⟨h1, h2, h3, h4, h5, h6, h7, h8⟩ := h
  refine ⟨hs, ?_, ?_, ?_, hf, ?_, hp, ?_⟩
  · unfold r_Tr at h2 ⊢
    rw [ka 3 (by omega), ka 4 (by omega), ka 138 (by omega), ka 139 (by omega)]
    exact ⟨h2.1, fun k hk => by rw [kl 2 k (by omega), kl 140 k (by omega)]; exact h2.2 k hk⟩
  · unfold r_Fr at h3 ⊢
    rw [kl 0 12 (by omega), kl 0 13 (by omega), kl 137 2 (by omega), kl 137 3 (by omega)]
    exact h3
  · obtain ⟨f, _, _, _, f4⟩ := h4
    refine ⟨0, by omega, k5, k8, ?_⟩
    rw [ka 6 (by omega), ka 141 (by omega)]
    exact f4
  · unfold r_Li at h6 ⊢
    rw [ka 64 (by omega), ka 147 (by omega), k1 30 (by omega)]
    exact h6
  · obtain ⟨n, hn, a, b, c⟩ := h8
    refine ⟨n, hn, by rw [k10]; exact a, by rw [k1 23 (by omega)]; exact b, fun i hi => ?_⟩
    obtain ⟨P, c1, c2, c3⟩ := c i hi
    exact ⟨P, CP_of c1 (fun x h1 h2 => ka x (by omega)), BP_ext c2 c3 (fun k hk => kc _ (by omega) (by omega)), c3⟩
theorem tx_of {M : z_Mem} (h : r_Ta M) : ∃ t : Nat → Nat, (∀ k, t k < 256) ∧ ∀ k, k < 900 → M.1 6 k = by_c (t k) ∧ M.1 141 k &&& 255 = nI (t k) := by
  obtain ⟨f, _, _, _, h⟩ := h
  have key : ∀ k, ∃ v, v < 256 ∧ (k < 900 → M.1 6 k = by_c v ∧ M.1 141 k &&& 255 = nI v) := fun k => by
    by_cases g : k < 900
    · obtain ⟨h1, h2⟩ := h k g
      obtain ⟨v, hv, e1, e2⟩ := by_of h2
      exact ⟨v, hv, fun _ => ⟨e1, by rw [← h1]; exact e2⟩⟩
    · exact ⟨0, by omega, fun x => absurd x g⟩
  exact ⟨fun k => (key k).choose, fun k => (key k).choose_spec.1, fun k hk => (key k).choose_spec.2 hk⟩
section
variable {w : Nat} {A N M : z_Mem} {t : Nat → Nat} {n j e : Nat} {c : Int32} {P : t_P}
theorem g_open (hw : 10000 ≤ w) (h9 : n ≤ 900) (ht : ∀ k, t k < 256) (ha : ∀ k, k < 900 → A.1 6 k = by_c (t k)) (hn : ∀ k, k < 900 → N.1 141 k &&& 255 = nI (t k)) : ∃ A' N' j e c, F_X7_open w A (nI n) = some ((), A') ∧ F_X12_advance w (z_wI (z_wI (z_wI (z_wI N 137 9 (nI n)) 137 8 0) 137 16 0) 137 12 0) = some ((), N') ∧ Gd A' N' t n j e c ∧ (∀ x, x ≠ 5 → A'.1 x = A.1 x) ∧ A'.2 = A.2 ∧ (∀ x, x ≠ 137 → N'.1 x = N.1 x) ∧ (∀ k, k < 8 ∨ 19 ≤ k → N'.1 137 k = N.1 137 k) ∧ N'.1 137 8 = 0 ∧ (∀ x, x ≠ 137 → N'.2 x = N.2 x) ∧ ∀ k, k ≠ 19 → N'.2 137 k = N.2 137 k := by
  have hc : Txc (z_wI (z_wI (z_wI (z_wI A 5 2 (nI n)) 5 5 0) 5 7 0) 5 8 (-1)) t n := ⟨h9, ht, by rw [wI_slot (by omega), wI_slot (by omega), wI_slot (by omega), wI_same], fun k hk => by rw [wI_row (by omega), wI_row (by omega), wI_row (by omega), wI_row (by omega)]; exact ha k hk⟩
  have hm : Txm (z_wI (z_wI (z_wI (z_wI N 137 9 (nI n)) 137 8 0) 137 16 0) 137 12 0) t n := ⟨h9, ht, by rw [wI_slot (by omega), wI_slot (by omega), wI_slot (by omega), wI_same], fun k hk => by rw [wI_row (by omega), wI_row (by omega), wI_row (by omega), wI_row (by omega)]; exact hn k hk⟩
  obtain ⟨A', N', j, e, c, a1, a2, a3, a4, a5, a6, a7, a8⟩ := adv hw hc hm (Nat.zero_le n) (by rw [wI_slot (by omega), wI_slot (by omega), wI_same]; rfl) (by rw [wI_slot (by omega), wI_same]; rfl)
  obtain ⟨k1, k2, k3, k4, k5, k6, k7⟩ := a8
  refine ⟨A', N', j, e, c, ?_, a2, ⟨a4, a5, a3, a7, ?_, ?_, ?_⟩, fun x hx => ?_, k3, fun x hx => ?_, fun k hk => ?_, ?_, k6, k7⟩
  · unfold F_X7_open
    rw [a1, bindS]
  · rw [k2 7 (by omega), wI_slot (by omega), wI_same]
  · rw [k2 8 (by omega), wI_same]
  · rw [k5 12 (by omega), wI_same]
  · rw [k1 x hx, wI_row hx, wI_row hx, wI_row hx, wI_row hx]
  · rw [k4 x hx, wI_row hx, wI_row hx, wI_row hx, wI_row hx]
  · rw [k5 k (by omega), wI_slot (by omega), wI_slot (by omega), wI_slot (by omega), wI_slot (by omega)]
  · rw [k5 8 (by omega), wI_slot (by omega), wI_slot (by omega), wI_same]
theorem m_starts {f lim : Nat} {L : Int32} (hL : L = nI lim) (hl : lim ≤ 900) (h8 : N.1 137 8 = nI f) (hf : f ≤ 900) (hn : n ≤ f) (hm : n ≤ lim) {N' : z_Mem} (h : F_X12_advance w (z_wI (z_wI (z_wI (z_wI N 137 9 (nI n)) 137 8 0) 137 16 0) 137 12 0) = some ((), N')) : F_X12_starts w N (nI n) L = some (true, N') := by
  unfold F_X12_starts
  rw [if_neg (nI_pos (by omega)), h8, if_neg (Int32.not_lt.mpr (nI_le hn (by omega))), hL, if_pos (nI_le hm (by omega)), h, bindS]
/-- the whole text of a parish, read by both -/
theorem rd_par (hw : 10000 ≤ w) {f : Nat} (h8 : N.1 137 8 = nI f) (hf : f ≤ 900) (hnf : n ≤ f) (ht : ∀ k, t k < 256) (ha : ∀ k, k < 900 → M.1 6 k = by_c (t k)) (hn : ∀ k, k < 900 → N.1 141 k &&& 255 = nI (t k)) : ∃ b A' N', F_X4_readText w M (nI n) = some (b, A') ∧ F_X12_parish w N (nI n) = fin w N' ∧ (∀ x, x ≠ 5 → (x < 30 ∨ 56 ≤ x) → A'.1 x = M.1 x) ∧ A'.2 = M.2 ∧ (∀ x, x ≠ 137 → x ≠ 142 → N'.1 x = N.1 x) ∧ (∀ k, k < 1500 → N'.1 142 k = N.1 142 k) ∧ (N'.1 137 0 = 0 ∧ N'.1 137 8 = 0 ∧ ∀ k, k = 23 ∨ k = 30 → N'.1 137 k = N.1 137 k) ∧ (∀ x, x ≠ 137 → x ≠ 144 → N'.2 x = N.2 x) ∧ (∀ k, k ≠ 19 → N'.2 137 k = N.2 137 k) ∧ ((b = true ∧ (∃ P, PR A' N' t n P) ∧ A'.1 5 7 = 0 ∧ A'.1 5 8 = -1 ∧ N'.1 137 12 = 0) ∨ (b = false ∧ Bd A' N')) := by
  obtain ⟨A1, b1, b2, b3, b4⟩ := c_new (w := w) M
  obtain ⟨A2, N2, j, e, c, o1, o2, o3, o4, o5, o6, o7, o8, o9, o10⟩ := g_open (w := w) (n := n) (t := t) (A := z_wI A1 53 4 0) (N := z_wI (z_wI N 137 1 0) 137 0 0) hw (by omega) ht (fun k hk => by rw [wI_row (by omega), b3 6 (by omega)]; exact ha k hk) (fun k hk => by rw [wI_row (by omega), wI_row (by omega)]; exact hn k hk)
  obtain ⟨N3, m1, m2, m3, m4, m5⟩ := m_new (w := w) hw N2
  have G : Gd A2 (z_wI N3 137 24 0) t n j e c := Gd_k o3 rfl rfl (by rw [wI_row (by omega), m3 141 (by omega)]) (fun k hk => by rw [wI_slot (by omega), m3 137 (by omega)]) (by rw [wI_2, m4])
  have R : PR A2 (z_wI N3 137 24 0) t n P_0 := by
    refine ⟨CP_of b2 (fun a h1 h2 => by rw [o4 a (by omega), wI_row (by omega)]), ?_, VP_0, fun k hk => ?_, fun i hi => absurd hi (Nat.not_lt_zero i)⟩
    · rw [wI_row (by omega)]; exact m2
    · have := fl_lt hk
      rw [o4 53 (by omega), wI_same, wI_same, show (0 : Int32) = nI 0 from rfl, bt_nI (by omega), bt_nI (by omega), Nat.zero_testBit, Nat.zero_testBit]
  obtain ⟨b, A', N', l1, l2, l3, l4⟩ := lw_text (w := w) (n := n) (t := t) hw (n - j) w w 0 A2 (z_wI N3 137 24 0) j e c P_0 (Nat.le_refl _) (by omega) (by omega) (Nat.zero_le j) G R
  obtain ⟨q1, q2, q3, q4, q5, q6, q7, q8⟩ := l3
  have k137 : ∀ k, k < 8 ∨ (19 ≤ k ∧ ¬ k = 24) → N'.1 137 k = (z_wI (z_wI N 137 1 0) 137 0 0).1 137 k := fun k hk => by
    rw [q6 k (by omega) (by omega), wI_slot (by omega), m3 137 (by omega), o7 k (by omega)]
  refine ⟨b, A', N', ?_, ?_, fun x h1 h2 => ?_, ?_, fun x h1 h2 => ?_, fun k hk => ?_, ⟨?_, ?_, fun k hk => ?_⟩, fun x h1 h2 => ?_, fun k hk => ?_, l4⟩
  · unfold F_X4_readText
    rw [b1, bindS]
    dsimp only
    rw [o1, bindS]
    exact l1
  · unfold F_X12_parish
    rw [m_starts (L := 900) (lim := 900) rfl (by omega) (show (z_wI (z_wI N 137 1 0) 137 0 0).1 137 8 = nI f by rw [wI_slot (by omega), wI_slot (by omega), h8]) hf hnf (by omega) o2, bindS, if_pos rfl]
    dsimp only
    rw [m1, bindS]
    exact l2
  · rw [q1 x h1 h2, o4 x h1, wI_row (by omega), b3 x (by omega)]
  · rw [q3, o5, wI_2, b4]
  · rw [q4 x h1 h2, wI_row h1, m3 x h2, o6 x h1, wI_row h1, wI_row h1]
  · rw [q5 k hk, wI_row (by omega), m5 k hk, o6 142 (by omega), wI_row (by omega), wI_row (by omega)]
  · rw [k137 0 (by omega), wI_same]
  · rw [q6 8 (by omega) (by omega), wI_slot (by omega), m3 137 (by omega), o8]
  · rw [k137 k (by omega), wI_slot (by omega), wI_slot (by omega)]
  · rw [q7 x h1 h2, wI_2, m4, o9 x h1, wI_2, wI_2]
  · rw [q8 k hk, wI_2, m4, o10 k hk, wI_2, wI_2]
/-- the fault that is kept -/
def kf (A : z_Mem) : z_Mem := z_wI (z_wI (z_wI (z_wI A 0 16 1) 0 14 (A.1 5 7)) 0 15 (A.1 5 8)) 5 1 0
theorem kf_row {x : Nat} (h0 : x ≠ 0) (h5 : x ≠ 5) : (kf A).1 x = A.1 x := by
  unfold kf; rw [wI_row h5, wI_row h0, wI_row h0, wI_row h0]
theorem kf_0 {k : Nat} (h : k ≠ 14 ∧ k ≠ 15 ∧ k ≠ 16) : (kf A).1 0 k = A.1 0 k := by
  unfold kf; rw [wI_row (by omega), wI_slot (by omega), wI_slot (by omega), wI_slot (by omega)]
theorem kf_v : (kf A).1 0 14 = A.1 5 7 ∧ (kf A).1 0 15 = A.1 5 8 ∧ (kf A).1 0 16 = 1 ∧ (kf A).1 5 1 = 0 := by
  unfold kf
  refine ⟨?_, ?_, ?_, wI_same⟩
  · rw [wI_row (by omega), wI_slot (by omega), wI_same]
  · rw [wI_row (by omega), wI_same]
  · rw [wI_row (by omega), wI_slot (by omega), wI_slot (by omega), wI_same]
theorem kf_2 : (kf A).2 = A.2 := rfl
/-- refused for what is asked -/
theorem pa_no (h : r_Rel M) (a : Int32) (h1 : F_X11_parish w M a = some (-1, z_wI M 0 11 5)) (h2 : ∀ N : z_Mem, N.1 137 8 = M.1 137 8 → F_X12_starts w N a 900 = some (false, z_wI N 137 0 5)) : r_ok (F_X11_parish w M a) (fun M => F_X12_parish w M a) := by
  refine ⟨-1, z_wI M 0 11 5, z_st M 5, h1, ?_, r_stv 5 h⟩
  show F_X12_parish w (z_wI M 0 11 5) a = _
  unfold F_X12_parish
  rw [h2 _ (by rw [wI_slot (by omega), wI_slot (by omega), wI_row (by omega)]), bindS, if_neg (by simp)]
  dsimp only
  rw [st_v]
theorem call_parish (hw : 10000 ≤ w) (h : r_Rel M) (a : Int32) : r_ok (F_X11_parish w M a) (fun M => F_X12_parish w M a) := by
  obtain ⟨f, hf, f1, f2, _⟩ := h.2.2.2.1
  obtain ⟨t, ht, t1⟩ := tx_of h.2.2.2.1
  by_cases g0 : a < 0
  · refine pa_no h a ?_ (fun N _ => ?_)
    · unfold F_X11_parish F_X11_refuse
      rw [if_pos g0, bindS]
    · unfold F_X12_starts F_X12_no
      rw [if_pos g0, bindS]
  obtain ⟨n, hn, rfl⟩ := nI_of g0
  by_cases g1 : n ≤ f
  · have key := fun (N : z_Mem) (e1 : N.1 141 = M.1 141) (e2 : N.1 137 8 = M.1 137 8) => rd_par (w := w) (M := M) (N := N) (n := n) (t := t) (f := f) hw (e2.trans f2) hf g1 ht (fun k hk => (t1 k hk).1) (fun k hk => by rw [e1]; exact (t1 k hk).2)
    obtain ⟨b, A, N0, x1, _, x3, x4, _, _, _, _, _, x10⟩ := key M rfl rfl
    have A137 : A.1 137 = M.1 137 := x3 137 (by omega) (by omega)
    rcases x10 with ⟨rfl, ⟨P0, hP0⟩, _, _, _⟩ | ⟨rfl, _⟩
    · have c0 : CP (kf A) 30 P0 := CP_of hP0.1 (fun x h1 h2 => kf_row (by omega) (by omega))
      obtain ⟨A2, d1, _, d3, d4⟩ := c_copy (w := w) (p := 7) (q := 30) (by omega) c0 hP0.2.2.1 (by omega)
      have kA : ∀ x, x ≠ 0 → x ≠ 5 → (x < 7 ∨ 56 ≤ x) → (z_wI A2 0 11 0).1 x = M.1 x := fun x h1 h2 h3 => by
        rw [wI_row h1, d3 x (by omega), kf_row h1 h2, x3 x h2 (by omega)]
      obtain ⟨b', A', N, y1, y2, _, _, y5, y6, ⟨y7, y8, y9⟩, y10, y11, y12⟩ := key (z_wI A2 0 11 0) (kA 141 (by omega) (by omega) (by omega)) (by rw [kA 137 (by omega) (by omega) (by omega)])
      rw [x1] at y1
      simp only [Option.some.injEq, Prod.mk.injEq] at y1
      obtain ⟨rfl, rfl⟩ := y1
      rcases y12 with ⟨_, ⟨P, hP⟩, z1, z2, z3⟩ | ⟨z, _⟩
      · have c1 : CP (kf A) 30 P := CP_of hP.1 (fun x h1 h2 => kf_row (by omega) (by omega))
        obtain ⟨A3, e1, e2, _⟩ := c_copy (w := w) (p := 7) (q := 30) (by omega) c1 hP.2.2.1 (by omega)
        rw [d1] at e1
        simp only [Option.some.injEq, Prod.mk.injEq, true_and] at e1
        subst e1
        obtain ⟨K, k1, k2, k3, k4⟩ := f_copy12 (w := w) (by omega) (s := 4) (t := 0) (by omega) (by omega) (by omega) (z_wI (z_wI N 137 10 0) 137 11 (-1))
        have kK : ∀ x, x ≠ 0 → x ≠ 5 → x ≠ 137 → x ≠ 142 → (x < 7 ∨ 56 ≤ x) → K.1 x = M.1 x := fun x h0 h1 h2 h3 h4 => by
          rw [k2 x h3, wI_row h2, wI_row h2, y5 x h2 h3, kA x h0 h1 h4]
        have K0 : ∀ k, K.1 0 k = (z_wI A2 0 11 0).1 0 k := fun k => by
          rw [k2 0 (by omega), wI_row (by omega), wI_row (by omega), y5 0 (by omega) (by omega)]
        have K5 : ∀ k, K.1 5 k = (kf A).1 5 k := fun k => by
          rw [k2 5 (by omega), wI_row (by omega), wI_row (by omega), y5 5 (by omega) (by omega), wI_row (by omega), d3 5 (by omega)]
        have K137 : ∀ k, k ≠ 10 → k ≠ 11 → K.1 137 k = N.1 137 k := fun k h1 h2 => by
          rw [k2 137 (by omega), wI_slot h2, wI_slot h1]
        have kc : ∀ k, 375 ≤ k → k < 1500 → K.1 142 k = M.1 142 k := fun k h1 h2 => by
          rw [k4, if_neg (by omega), wI_row (by omega), wI_row (by omega), y6 k h2, kA 142 (by omega) (by omega) (by omega)]
        have K2 : K.2 = N.2 := by rw [k3, wI_2, wI_2]
        have AL : (z_wI A2 0 11 0).2 = M.2 := by rw [wI_2, d4, kf_2, x4]
        have ans : A2.1 9 5 = nI P.2.1.1 := e2.2.1.1
        have ans2 : K.1 142 0 = nI P.2.1.1 := by
          rw [k4, if_pos (by omega), wI_row (by omega), wI_row (by omega)]
          exact hP.2.1.2.1.1
        refine ⟨nI P.2.1.1, z_wI A2 0 11 0, K, ?_, ?_, r_rd h ?_ ?_ ?_ (Or.inr ⟨?_, ?_, ?_⟩) ?_ (fun k hk => ?_) (fun x hx => kK x (by omega) (by omega) (by omega) (by omega) (by omega)) kc (fun x k hx => ?_) ⟨P, ?_, ?_, hP.2.2.1⟩⟩
        · unfold F_X11_parish F_X11_answer F_X11_keepFault
          rw [if_neg g0, f1, if_pos (nI_le g1 (by omega)), x1, bindS, bindS, if_pos rfl]
          dsimp only
          rw [show F_X3_copyFrom w (z_wI (z_wI (z_wI (z_wI A 0 16 1) 0 14 (A.1 5 7)) 0 15 (A.1 5 8)) 5 1 0) 7 30 = some ((), A2) from d1, bindS]
          dsimp only
          rw [bindS, ans]
        · show F_X12_parish w (z_wI A2 0 11 0) (nI n) = _
          rw [y2]
          unfold fin F_X12_isWell
          rw [z3, if_pos rfl, if_pos rfl, bindS, if_pos rfl]
          dsimp only
          rw [show F_X12_copy w (z_wI (z_wI N 137 10 0) 137 11 (-1)) 4 0 = some ((), K) from k1, bindS]
          dsimp only
          rw [ans2]
        · rw [K0, wI_same, K137 0 (by omega) (by omega), y7]
        · rw [K5, kf_v.2.2.2]
        · rw [K137 8 (by omega) (by omega), y8]
        · rw [K0, wI_slot (by omega), d3 0 (by omega), kf_v.2.2.1]
        · rw [K0, wI_slot (by omega), d3 0 (by omega), kf_v.1, k2 137 (by omega), wI_slot (by omega), wI_same, z1]
        · rw [K0, wI_slot (by omega), d3 0 (by omega), kf_v.2.1, k2 137 (by omega), wI_same, z2]
        · rw [K0, wI_slot (by omega), d3 0 (by omega), kf_0 (by omega), x3 0 (by omega) (by omega)]
        · rw [K137 k (by omega) (by omega), y9 k hk, kA 137 (by omega) (by omega) (by omega)]
        · rw [K2]
          by_cases g : x = 137
          · subst g
            rw [y11 k (by omega), AL]
          · rw [y10 x g (by omega), AL]
        · exact CP_of e2 (fun x h1 h2 => by rw [k2 x (by omega), wI_row (by omega), wI_row (by omega), y5 x (by omega) (by omega), wI_row (by omega)])
        · refine BP_ext hP.2.1 hP.2.2.1 (fun k hk => ?_)
          rw [k4, if_pos (by omega), wI_row (by omega), wI_row (by omega), show 375 * 4 + (k - 375 * 0) = 1500 + k by omega]
      · cases z
    · have kA : ∀ x, x ≠ 0 → x ≠ 5 → (x < 30 ∨ 56 ≤ x) → (z_wI (kf A) 0 11 10).1 x = M.1 x := fun x h1 h2 h3 => by
        rw [wI_row h1, kf_row h1 h2, x3 x h2 h3]
      obtain ⟨b', A', N, y1, y2, _, _, y5, y6, ⟨y7, y8, y9⟩, y10, y11, y12⟩ := key (z_wI (kf A) 0 11 10) (kA 141 (by omega) (by omega) (by omega)) (by rw [kA 137 (by omega) (by omega) (by omega)])
      rw [x1] at y1
      simp only [Option.some.injEq, Prod.mk.injEq] at y1
      obtain ⟨rfl, rfl⟩ := y1
      rcases y12 with ⟨z, _⟩ | ⟨_, z⟩
      · cases z
      · have zn := (Bd_n z).2
        obtain ⟨v, p, _, _, z1, z2, z3, z4⟩ := z
        have kK : ∀ x, x ≠ 0 → x ≠ 5 → x ≠ 137 → x ≠ 142 → (x < 30 ∨ 56 ≤ x) → (z_wI (z_wI (z_wI N 137 10 (nI v)) 137 11 (nI p)) 137 0 10).1 x = M.1 x := fun x h0 h1 h2 h3 h4 => by
          rw [wI_row h2, wI_row h2, wI_row h2, y5 x h2 h3, kA x h0 h1 h4]
        have K0 : ∀ k, (z_wI (z_wI (z_wI N 137 10 (nI v)) 137 11 (nI p)) 137 0 10).1 0 k = (z_wI (kf A) 0 11 10).1 0 k := fun k => by
          rw [wI_row (by omega), wI_row (by omega), wI_row (by omega), y5 0 (by omega) (by omega)]
        have kc : ∀ k, k < 1500 → (z_wI (z_wI (z_wI N 137 10 (nI v)) 137 11 (nI p)) 137 0 10).1 142 k = M.1 142 k := fun k h2 => by
          rw [wI_row (by omega), wI_row (by omega), wI_row (by omega), y6 k h2, kA 142 (by omega) (by omega) (by omega)]
        have AL : (z_wI (kf A) 0 11 10).2 = M.2 := by rw [wI_2, kf_2, x4]
        obtain ⟨P, p1, p2, p3⟩ := h.2.2.2.2.2.2.1
        refine ⟨-1, z_wI (kf A) 0 11 10, z_wI (z_wI (z_wI N 137 10 (nI v)) 137 11 (nI p)) 137 0 10, ?_, ?_, r_rd h ?_ ?_ ?_ (Or.inr ⟨?_, ?_, ?_⟩) ?_ (fun k hk => ?_) (fun x hx => kK x (by omega) (by omega) (by omega) (by omega) (by omega)) (fun k h1 h2 => kc k h2) (fun x k hx => ?_) ⟨P, ?_, ?_, p3⟩⟩
        · unfold F_X11_parish F_X11_refuse F_X11_keepFault
          rw [if_neg g0, f1, if_pos (nI_le g1 (by omega)), x1, bindS, bindS, if_neg (by simp), bindS]
          rfl
        · show F_X12_parish w (z_wI (kf A) 0 11 10) (nI n) = _
          rw [y2]
          unfold fin F_X12_isWell F_X12_no
          rw [if_neg zn, if_neg zn, bindS, if_neg (by simp), bindS, if_neg (by simp), z3, z4]
        · rw [K0, wI_same, wI_same]
        · rw [wI_row (by omega), wI_row (by omega), wI_row (by omega), y5 5 (by omega) (by omega), wI_row (by omega), kf_v.2.2.2]
        · rw [wI_slot (by omega), wI_slot (by omega), wI_slot (by omega), y8]
        · rw [K0, wI_slot (by omega), kf_v.2.2.1]
        · rw [K0, wI_slot (by omega), kf_v.1, wI_slot (by omega), wI_slot (by omega), wI_same, z1]
        · rw [K0, wI_slot (by omega), kf_v.2.1, wI_slot (by omega), wI_same, z2]
        · rw [K0, wI_slot (by omega), kf_0 (by omega), x3 0 (by omega) (by omega)]
        · rw [wI_slot (by omega), wI_slot (by omega), wI_slot (by omega), y9 k hk, kA 137 (by omega) (by omega) (by omega)]
        · rw [wI_2, wI_2, wI_2]
          by_cases g : x = 137
          · subst g
            rw [y11 k (by omega), AL]
          · rw [y10 x g (by omega), AL]
        · exact CP_of p1 (fun x h1 h2 => kK x (by omega) (by omega) (by omega) (by omega) (by omega))
        · exact BP_ext p2 p3 (fun k hk => kc k (by omega))
  · refine pa_no h (nI n) ?_ (fun N hN => ?_)
    · unfold F_X11_parish F_X11_refuse
      rw [if_neg g0, f1, if_neg (nI_ge (by omega) (by omega)), bindS]
    · unfold F_X12_starts F_X12_no
      rw [if_neg g0, hN, f2, if_pos (nI_lt (by omega) hn), bindS]
end
