/-! ===== a clause, read by both ===== -/
section
variable {w : Nat} {A N A' N' : z_Mem} {t : Nat → Nat} {n j e : Nat} {c : Int32} {P : t_P}
theorem TR_w2 (h : TR A N t n j e c) (hc : ¬ N.1 137 14 = 1) : ¬ c = 13 ∧ ¬ c = 30 := by
  obtain ⟨_, h1, h0, _, h⟩ := h
  rcases h with ⟨h, h2, _⟩ | ⟨h, h2, h3, h4, h5, h6⟩ | ⟨h, h2, _⟩ | ⟨h2, _, h⟩ | ⟨h, h2, _⟩
  · rw [h]; exact ⟨by decide, by decide⟩
  · exact absurd h2 hc
  · rw [h]; exact ⟨by decide, by decide⟩
  · rcases h with ⟨h, _⟩ | ⟨h, _⟩ | ⟨h, _⟩ | ⟨h, _⟩ <;> rw [h] <;> exact ⟨by decide, by decide⟩
  · rw [h]; exact ⟨by decide, by decide⟩
theorem b_cl (h : Bn N) (c : Nat) (m x y : Int32) : L_X12_readClause w (c + 1) N m x y = some ((), N) := by
  rw [L_X12_readClause, if_neg h.2, if_neg h.1]
theorem c_cl (h3 : A.1 5 3 = c) {k : Nat} (hk : k < 3) (hc : k = 0 ∨ ¬ c = 33) (c0 : Nat) (x1 x2 : Int32) : L_X4_readClause w (c0 + 1) A x1 x2 (nI k) = if c = 13 then ((F_X4_takeLiteral w A 0).bind fun q => if q.1 = -1 then some (false, q.2) else L_X4_readClause w c0 q.2 x1 (x2 ||| ((1 : Int32) <<< (q.1 &&& 31))) (nI (k + 1))) else ((F_X4_takeLiteral w A 0).bind fun q => if q.1 = -1 then some (false, q.2) else L_X4_readClause w c0 q.2 (x1 ||| ((1 : Int32) <<< (q.1 &&& 31))) x2 (nI (k + 1))) := by
  have k3 : ¬ nI k = (3 : Int32) := fun x => by have := (nI_eq (b := 3) (by omega) (by omega)).mp x; omega
  rw [L_X4_readClause, if_neg (show ¬ (3 : Int32) < nI k from Int32.not_lt.mpr (nI_le (b := 3) (by omega) (by omega))), h3, nI_1]
  simp only [if_neg k3]
  by_cases g : k = 0
  · rw [if_pos (show nI k ≤ (0 : Int32) by rw [g]; decide)]
  · rw [if_neg (nle0 (by omega) (by omega)), if_neg (by rcases hc with x | x; exact absurd x g; exact x)]
theorem m_cl (h0 : N.1 137 12 = 0) {k : Nat} (hk : k < 3) (hc : k = 0 ∨ N.1 137 14 = 1) (c0 : Nat) (m x : Int32) : L_X12_readClause w (c0 + 1) N m (nI k) x = (F_X12_readLiteral w N 0).bind fun q => L_X12_readClause w c0 q.2 m (nI (k + 1)) (x ||| ((1 : Int32) <<< (q.1 &&& 31))) := by
  have k3 : ¬ nI k = (3 : Int32) := fun x => by have := (nI_eq (b := 3) (by omega) (by omega)).mp x; omega
  rw [L_X12_readClause, h0, if_pos rfl, nI_1]
  simp only [if_neg k3]
  by_cases g : k = 0
  · rw [if_pos (show nI k = (0 : Int32) by rw [g]; rfl)]
  · rw [if_neg (show ¬ nI k = (0 : Int32) from fun x => g ((nI_eq (b := 0) (by omega) (by omega)).mp x)), if_pos (by rcases hc with x | x; exact absurd x g; exact x)]
/-- the end of a clause, in the reference -/
theorem m_ce (h0 : N.1 137 12 = 0) {k m a b : Nat} (hk : 0 < k) (hk3 : k ≤ 3) (hc : ¬ N.1 137 14 = 1) (m8 : m < 8) (ha : a < 64) (hb : b < 64) (hm : N.1 142 1503 = nI m) (c0 : Nat) : L_X12_readClause w (c0 + 1) N (nI m) (nI k) (nI (mk a b)) = some ((), clN N m a b) := by
  obtain ⟨s1, s2⟩ := mk_s ha hb
  rw [L_X12_readClause, h0, if_pos rfl, if_neg (show ¬ nI k = (0 : Int32) from fun x => by have := (nI_eq (b := 0) (by omega) (by omega)).mp x; omega), if_neg hc, if_pos (show (0 : Int32) ≤ 0 by decide), show (1575 : Int32) + nI m = nI (1575 + m) from n_lad 1575 _, show (1583 : Int32) + nI m = nI (1583 + m) from n_lad 1583 _, if_neg (nI_in (by omega) (by omega)), if_neg (nI_in (by omega) (by omega)), nI_cl (by omega), nI_cl (by omega), s1, s2, wI_slot (by omega), wI_slot (by omega), hm, nI_1]
  rfl
def Oc (w : Nat) (A N : z_Mem) (t : Nat → Nat) (n j c c' m k a b : Nat) : Prop := ∃ bb A' N', L_X4_readClause w c A (nI a) (nI b) (nI k) = some (bb, A') ∧ L_X12_readClause w c' N (nI m) (nI k) (nI (mk a b)) = some ((), N') ∧ Kq A A' N N' ∧ ((bb = true ∧ (∃ P, PR A' N' t n P) ∧ ∃ j' e' c1, Gd A' N' t n j' e' c1 ∧ j ≤ j') ∨ (bb = false ∧ Bd A' N') ∨ (bb = false ∧ ∃ A0 j' e' c1, Gd A0 N' t n j' e' c1 ∧ ¬ c1 = 33 ∧ F_X7_fail w A0 2 = some (false, A')))
theorem oc_end {m : Nat} (m8 : m < 8) {k a b c c' : Nat} {cc : Int32} (hk : 0 < k) (hk3 : k ≤ 3) (hc : 2 ≤ c) (hc' : 2 ≤ c') (ha : a < 64) (hb : b < 64) (h : Gd A N t n j e cc) (hp : PR A N t n P) (hm : P.2.2.2.1.2.1.1 = m) (nw : ¬ N.1 137 14 = 1) : Oc w A N t n j c c' m k a b := by
  obtain ⟨c0, rfl⟩ : ∃ c0, c = c0 + 1 := ⟨c - 1, by omega⟩
  obtain ⟨c1, rfl⟩ : ∃ c1, c' = c1 + 1 := ⟨c' - 1, by omega⟩
  have h3 : A.1 5 3 = cc := h.2.2.1.2.2.2.1
  have h0 := h.2.2.2.2.2.2
  have d3 : N.1 142 1503 = nI m := by rw [← hm]; exact hp.2.1.2.2.2.1.2.1
  have em := m_ce (w := w) h0 hk hk3 nw m8 ha hb d3 c1
  obtain ⟨n13, n30⟩ := TR_w2 h.2.2.1 nw
  by_cases g : cc = 33
  · obtain ⟨x1, x2⟩ := cl_add (w := w) hp hm m8 ha hb
    refine ⟨true, _, _, ?_, em, (cl_k (A := A)).1, Or.inl ⟨rfl, ⟨_, x2⟩, j, e, cc, Gd_k h (clA_r (by omega) (by omega) (by omega)) (clA_r (by omega) (by omega) (by omega)) (clN_r (by omega)) (fun i _ => by rw [clN_r (by omega)]) rfl, Nat.le_refl _⟩⟩
    rw [L_X4_readClause, if_neg (show ¬ (3 : Int32) < nI k from Int32.not_lt.mpr (nI_le (b := 3) (by omega) (by omega))), if_neg (nle0 (by omega) (by omega)), h3, if_pos g, x1, bindS]
  · obtain ⟨A1, N1, a1, a2, a3, a4⟩ := g_amiss (w := w) h
    have tl : ∀ z, F_X4_takeLiteral w A z = some (-1, A1) := by
      intro z
      unfold F_X4_takeLiteral
      rw [h3, if_neg n13, if_neg n30, a1, bindS]
    refine ⟨false, A1, _, ?_, em, ⟨(Kt_q a4).1, (Kt_q a4).2.1, (Kt_q a4).2.2.1, (cl_k (A := A) (A3 := A)).2.2.2.2⟩, Or.inr (Or.inr ⟨rfl, A, j, e, cc, Gd_k h rfl rfl (clN_r (by omega)) (fun i _ => by rw [clN_r (by omega)]) rfl, g, a1⟩)⟩
    rw [L_X4_readClause, if_neg (show ¬ (3 : Int32) < nI k from Int32.not_lt.mpr (nI_le (b := 3) (by omega) (by omega))), if_neg (nle0 (by omega) (by omega)), h3, if_neg g, if_neg n13, tl, bindS, tl, bindS, if_pos rfl]
    split <;> rfl
theorem lw_clause (hw : 10000 ≤ w) {m : Nat} (m8 : m < 8) : ∀ (d k a b c c' : Nat) (A N : z_Mem) (j e : Nat) (cc : Int32), k + d = 3 → d + 2 ≤ c → d + 2 ≤ c' → a < 64 → b < 64 → Gd A N t n j e cc → PR A N t n P → P.2.2.2.1.2.1.1 = m → Oc w A N t n j c c' m k a b := by
  intro d
  induction d with
  | zero =>
    intro k a b c c' A N j e cc hk hc hc' ha hb h hp hm
    by_cases nw : N.1 137 14 = 1
    · obtain ⟨c0, rfl⟩ : ∃ c0, c = c0 + 1 := ⟨c - 1, by omega⟩
      obtain ⟨c1, rfl⟩ : ∃ c1, c' = c1 + 1 + 1 := ⟨c' - 2, by omega⟩
      have k3 : k = 3 := by omega
      subst k3
      have h3 : A.1 5 3 = cc := h.2.2.1.2.2.2.1
      have h0 := h.2.2.2.2.2.2
      have n33 : ¬ cc = 33 := fun x => by
        have := TR_w h.2.2.1 nw
        rw [x] at this
        exact absurd this (by decide)
      obtain ⟨A1, N1, o1, o2, ⟨r, o3⟩, o4⟩ := g_lit1 hw h hp
      refine ⟨false, A1, N1, ?_, ?_, Kt_q o1, Or.inr (Or.inl ⟨rfl, o4⟩)⟩
      · rw [L_X4_readClause, if_neg (show ¬ (3 : Int32) < nI 3 by decide), if_neg (show ¬ nI 3 ≤ (0 : Int32) by decide), h3, if_neg n33, if_pos (show nI 3 = (3 : Int32) from rfl), if_pos (show nI 3 = (3 : Int32) from rfl), o2, bindS, bindS, if_pos rfl]
        split <;> rfl
      · rw [L_X12_readClause, h0, if_pos rfl, if_neg (show ¬ nI 3 = (0 : Int32) by decide), if_pos nw, if_pos (show nI 3 = (3 : Int32) from rfl), o3, bindS]
        exact b_cl (Bd_n o4) c1 _ _ _
    · exact oc_end m8 (by omega) (by omega) (by omega) (by omega) ha hb h hp hm nw
  | succ d ih =>
    intro k a b c c' A N j e cc hk hc hc' ha hb h hp hm
    have q6 := hp.2.2.1.2.2.2.1.1
    have h3 : A.1 5 3 = cc := h.2.2.1.2.2.2.1
    have h0 := h.2.2.2.2.2.2
    have je := h.2.2.1.2.1
    by_cases nw : k = 0 ∨ N.1 137 14 = 1
    · obtain ⟨c0, rfl⟩ : ∃ c0, c = c0 + 1 := ⟨c - 1, by omega⟩
      obtain ⟨c1, rfl⟩ : ∃ c1, c' = c1 + 1 + 1 := ⟨c' - 2, by omega⟩
      have n33 : k = 0 ∨ ¬ cc = 33 := by
        rcases nw with x | x
        · exact Or.inl x
        · refine Or.inr (fun y => ?_)
          have := TR_w h.2.2.1 x
          rw [y] at this
          exact absurd this (by decide)
      unfold Oc
      rw [c_cl h3 (by omega) n33 c0, m_cl h0 (by omega) nw (c1 + 1)]
      obtain ⟨A1, N1, o1, o2⟩ := g_lit0 hw h hp
      rcases o2 with ⟨l, l1, o3, o4, j1, e1, c2, o5, o6⟩ | ⟨o3, ⟨r, o4⟩, o5⟩
      · have nl : ¬ nI l = -1 := nI_nm1 (by omega)
        rw [o3, bindS, bindS, o4, bindS]
        simp only [if_neg nl]
        by_cases g : cc = 13
        · rw [if_pos g, if_pos g, n_pow2 (by omega), n_pow2 (by omega), n_or, n_or, mk_b]
          obtain ⟨bb, A2, N2, u1, u2, u3, u4⟩ := ih (k + 1) a (b ||| 2 ^ l) c0 (c1 + 1) A1 N1 j1 e1 c2 (by omega) (by omega) (by omega) ha (or_64 hb (by omega)) o5 (PR_k hp o1) hm
          refine ⟨bb, A2, N2, u1, u2, Kq_t (Kt_q o1) u3, ?_⟩
          rcases u4 with ⟨x, y, j3, e3, c3, z, zz⟩ | u4
          · exact Or.inl ⟨x, y, j3, e3, c3, z, by omega⟩
          · exact Or.inr u4
        · rw [if_neg g, if_neg g, show l + 0 = l from rfl, n_pow2 (by omega), n_or, n_or, mk_a]
          obtain ⟨bb, A2, N2, u1, u2, u3, u4⟩ := ih (k + 1) (a ||| 2 ^ l) b c0 (c1 + 1) A1 N1 j1 e1 c2 (by omega) (by omega) (by omega) (or_64 ha (by omega)) hb o5 (PR_k hp o1) hm
          refine ⟨bb, A2, N2, u1, u2, Kq_t (Kt_q o1) u3, ?_⟩
          rcases u4 with ⟨x, y, j3, e3, c3, z, zz⟩ | u4
          · exact Or.inl ⟨x, y, j3, e3, c3, z, by omega⟩
          · exact Or.inr u4
      · rw [o3, bindS, bindS, o4, bindS, if_pos rfl, b_cl (Bd_n o5) c1]
        refine ⟨false, A1, N1, ?_, rfl, Kt_q o1, Or.inr (Or.inl ⟨rfl, o5⟩)⟩
        split <;> rfl
    · exact oc_end m8 (by omega) (by omega) (by omega) (by omega) ha hb h hp hm (fun x => nw (Or.inr x))
end
