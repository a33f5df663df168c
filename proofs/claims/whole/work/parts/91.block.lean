/-! ===== years: a step that holds others ===== -/
def BK (A N : z_Mem) (d o S Lc : Nat) : Prop := A.1 57 d = nI o ∧ o + 1 ≤ Lc ∧ nf (Rw A) o = S ∧ df (Rw A) o = d ∧ ((Rw A o).1 = 25 ∨ (Rw A o).1 = 27) ∧ PB N (1605 + 9 * S) (Rw A o) ∧ Sg A N (o + 1) Lc
section
variable {w : Nat} {A A1 N N' : z_Mem} {t : Nat → Nat} {n j j1 e d L k0 : Nat} {c : Int32}
theorem lw_blk (hw : 10000 ≤ w) {m d : Nat} (hd : d < 3) (H : ST w m (d + 1) t n) {o S : Nat} : ∀ (D c0 : Nat) (A N : z_Mem) (j e : Nat) (c : Int32) (Lc Sc : Nat), n + 1 - j ≤ D → D + 1 ≤ c0 → Gd A N t n j e c → YR A N (d + 1) Lc Sc → BK A N d o S Lc → ∃ N', L_X12_readStep w (F_X12_readStep w m) c0 N (nI d) 1 (nI (1605 + 9 * S)) = some ((), N') ∧ KN (1605 + 9 * S) N N' ∧ (Og w t n A N' j d o ∨ Ob w n A N' j) := by
  intro D
  induction D with
  | zero =>
    intro c0 A N j e c Lc Sc hD _ h _ _
    have := h.2.2.1.2.1
    have := h.2.2.1.2.2.1
    omega
  | succ D ih =>
    intro c0 A N j e c Lc Sc hD hc h hY hB
    obtain ⟨c1, rfl⟩ : ∃ c1, c0 = c1 + 1 + 1 := ⟨c0 - 2, by omega⟩
    have h3 : A.1 5 3 = c := h.2.2.1.2.2.2.1
    have h12 := h.2.2.2.2.2.2
    have je := h.2.2.1.2.1
    have en := h.2.2.1.2.2.1
    have n9 := h.1.1
    obtain ⟨y1, y2, y3, y4, y5, y6, y7, y8, y9, y10⟩ := hY
    obtain ⟨b1, b2, b3, b4, b5, b6, b7⟩ := hB
    have bn : ¬ (Rw A o).1 = 28 := by rcases b5 with x | x <;> rw [x] <;> decide
    have sS : S + 1 ≤ Sc := by
      have := nf_mo (Rw A) b2
      rw [nf_s, if_neg bn, b3, y5] at this
      exact this
    have hW : 1605 + 9 * S + 8 < 1875 := by omega
    have n10 : ¬ (1 : Int32) = 0 := by decide
    rw [L_X12_readStep, if_neg n10, h12, if_pos rfl, m_isEnd h.2.2.1, bindS]
    dsimp only
    by_cases g : c = 28
    · -- the end of the block
      obtain ⟨A1, N1, j1, e1, c1', a1, a2, a3, a4, a5⟩ := g_adv hw h
      have jl : j < e := by
        rcases h.2.2.2.1 with x | x
        · rw [g] at x; exact absurd x (by decide)
        · exact x
      have je1 := a3.2.2.1.2.1
      rw [if_pos (decide_eq_true g), if_neg n10, m_isEnd h.2.2.1, bindS]
      dsimp only
      rw [decide_eq_true g, show z_tb true = 1 from rfl, m_must1 h12, a2, bindS]
      dsimp only
      rw [m_sign a3.2.2.1 59 33 (Or.inl ⟨rfl, rfl⟩), bindS]
      dsimp only
      obtain ⟨A2, N2, r1, r2, r3⟩ := g_take hw a3 33
      rw [r1, bindS]
      dsimp only
      rw [wadd _ 8, if_neg (win hW (by omega)), wcl hW (by omega)]
      have K2 := Kt_t a5 r2
      have n25 : N2.1 137 25 = nI Sc := by rw [K2.2.2.2.2.1 25 (by omega), y3]
      refine ⟨_, rfl, KN_t (Kt_N K2) (KN_w (by omega)), ?_⟩
      have dp : (0 : Int32) < A.1 56 3 := by rw [y4]; exact nI_lt (a := 0) (by omega) (by omega)
      rcases r3 with ⟨r4, r5, j2, e2, c2, r6, r7⟩ | ⟨r4, r5, r6⟩
      · left
        have RA : Rw A2 = Rw A := Rw_of (fun x p q => K2.1 x (by omega))
        obtain ⟨A3, s1, s2, s3, s4, s5, s6, s7, s8, s9⟩ := c_add (w := w) (A := A2) (L := Lc) (by rw [K2.1 47 (by omega)]; exact y1) (by omega) 28 0 0 0
        have d3 : A3.1 56 3 = nI (d + 1) := by rw [s6 56 (by omega), K2.1 56 (by omega), y4]
        have dm : nI (d + 1) - 1 = nI d := pk_sub (b := 1) (by omega)
        have lm : nI (Lc + 1) - 1 = nI Lc := pk_sub (b := 1) (by omega)
        have o57 : (z_wI A3 56 3 (nI d)).1 57 d = nI o := by rw [wI_row (by omega), s6 57 (by omega), K2.1 57 (by omega), b1]
        obtain ⟨A4, u1, u2, u3, u4, u5, u6, u7, u8, u9⟩ := c_join (w := w) (A := z_wI A3 56 3 (nI d)) (o := o) (p := Lc) (by omega) (by omega) (by omega)
        have R3 : Rw (z_wI A3 56 3 (nI d)) = Rw A3 := Rw_of (fun x p q => wI_row (by omega))
        rw [R3] at u2 u3 u4
        rw [s3] at u4
        rw [s2 o (by omega), RA] at u3
        have RO : ∀ i, i < Lc → i ≠ o → Rw A4 i = Rw A i := fun i hi ho => by rw [u2 i ho (by omega), s2 i (by omega), RA]
        have KK : ∀ i, i < Lc → (Rw A4 i).1 = (Rw A i).1 := fun i hi => by
          by_cases x : i = o
          · rw [x, u3]
          · rw [RO i hi x]
        have ed : F_X10_readEnd w A = some (true, A4) := by
          unfold F_X10_readEnd
          rw [if_pos dp, a1, bindS]
          dsimp only
          rw [r5, bindS, if_pos rfl]
          dsimp only
          rw [s1, bindS, if_pos rfl]
          dsimp only
          rw [d3, dm, if_neg (nI_in (by omega) (by omega)), nI_cl (by omega), o57, s4, lm, u1, bindS]
        have A4x : ∀ x, x ≠ 52 → x ≠ 56 → A4.1 x = A3.1 x := fun x p q => by rw [u5 x p, wI_row q]
        have nL : nf (Rw A4) Lc = Sc := by rw [nf_of KK Lc (Nat.le_refl _), y5]
        have dL : df (Rw A4) Lc = d + 1 := by rw [df_of KK Lc (Nat.le_refl _), y6]
        have nL1 : nf (Rw A4) (Lc + 1) = Sc := by rw [nf_s, u4, if_pos rfl, nL]
        have dL1 : df (Rw A4) (Lc + 1) = d := by
          rw [df_s, u4]
          dsimp only
          rw [if_neg (show ¬ ((28 : Int32) = 25 ∨ (28 : Int32) = 27) by decide), if_pos rfl, dL]; omega
        refine ⟨A4, j2, e2, c2, Lc + 1, Sc, 1, Gd_n (Gd_k r6 ?_ ?_ rfl (fun _ _ => rfl) rfl), by omega, by omega, ⟨?_, ?_, ?_, ?_, nL1, dL1, by omega, y8, by omega, fun i hi => ?_⟩, ?_, ?_, fun i hi => RO i (by omega) (by omega), fun i hi => ?_, fun c0 x hx => ?_⟩
        · rw [A4x 5 (by omega) (by omega), s6 5 (by omega)]
        · rw [A4x 6 (by omega) (by omega), s6 6 (by omega)]
        · rw [A4x 47 (by omega) (by omega), s4]
        · rw [A4x 47 (by omega) (by omega), s5, if_pos rfl, K2.1 47 (by omega), y2]
        · rw [wI_row (by omega), n25]
        · rw [u5 56 (by omega), wI_same]
        · by_cases x : i = o
          · rw [x]; exact ⟨Lc, by omega, u8⟩
          · by_cases z : i = Lc
            · rw [z]; exact ⟨o, by omega, u9⟩
            · obtain ⟨p, p1, p2⟩ := y10 i (by omega)
              exact ⟨p, p1, by rw [u7 i x z, wI_row (by omega), s8 i z, K2.1 52 (by omega), p2]⟩
        · -- the rows of the block
          have nO : nf (Rw A4) o = S := by rw [nf_of KK o (by omega), b3]
          have dO : df (Rw A4) o = d := by rw [df_of KK o (by omega), b4]
          refine Sg_b (p := Lc) ?_ ?_ ?_ ?_ ?_ (BF_mk (q := Sc) nO ?_ ?_ ?_) (by omega) ?_
          · rw [u3]; exact b6.2.1
          · rw [u3]; exact b5
          · rw [u3]
          · rw [u4]
          · rw [u4]
          · have : PB (z_wI N2 142 (1605 + 9 * S + 8) (N2.1 137 25)) (1605 + 9 * S) (Rw A o) := PB_of b6 (fun i hi => by rw [wI_slot (by omega), K2.2.2.2.1 142 (by omega)])
            rw [u3]; exact this
          · rw [wI_same, n25]
          · unfold y_next
            rw [u3, if_pos b5, nL1]
          · refine Sg_of b7 KK (fun i p q => RO i q (by omega)) (fun k p q => ?_)
            rw [nf_s, if_neg bn, b3] at p
            rw [wI_slot (by omega), K2.2.2.2.1 142 (by omega)]
        · refine KA_t (Kt_A K2) ⟨fun x p q r s => ?_, fun k hk => ?_, ?_⟩
          · rw [A4x x (by omega) r, s6 x q]
          · rw [A4x 5 (by omega) (by omega), s6 5 (by omega)]
          · rw [u6, wI_2, s7]
        · rw [A4x 57 (by omega) (by omega), s6 57 (by omega), K2.1 57 (by omega)]
        · rw [lp_end h3 g n9 c0 x (by omega), ed, bindS]
          exact if_pos rfl
      · right
        refine Ob_m (ob_1 h r6 (Kt_A K2) (fun c0 x hx => ?_))
        rw [lp_end h3 g n9 c0 x hx]
        unfold F_X10_readEnd
        rw [if_pos dp, a1, bindS]
        dsimp only
        rw [r5, bindS, if_neg (by simp), bindS]
        exact if_neg (by simp)
    · -- a step in the block
      rw [if_neg (by rw [decide_eq_true_iff]; exact g), nI_1]
      obtain ⟨N1, p1, p2, p3⟩ := H A N j e c Lc Sc h ⟨y1, y2, y3, y4, y5, y6, y7, y8, y9, y10⟩ (Or.inr g) (Or.inr (by omega))
      rw [p1, bindS]
      dsimp only
      rcases p3 with ⟨A1, j1, e1, c2, L1, S1, k, q1, q2, q3, q4, q5, q6, q7, q8, q9⟩ | q
      · have RO : Rw A1 o = Rw A o := q7 o (by omega)
        have KK : ∀ i, i < Lc → (Rw A1 i).1 = (Rw A i).1 := fun i hi => by rw [q7 i hi]
        have BK1 : BK A1 N1 d o S L1 := by
          have := wfr_ab q5.1
          refine ⟨by rw [q8 d (by omega)]; exact b1, by omega, by rw [nf_of KK o (by omega)]; exact b3, by rw [df_of KK o (by omega)]; exact b4, by rw [RO]; exact b5, ?_, Sg_app (Sg_of b7 KK (fun i p q => q7 i q) (fun k p q => p2.2.1 k (by rw [y5] at q; omega))) q5⟩
          rw [RO]
          exact PB_of b6 (fun i hi => p2.2.1 _ (by omega))
        obtain ⟨N', r1, r2, r3⟩ := ih (c1 + 1) A1 N1 j1 e1 c2 L1 S1 (by omega) (by omega) q1 q4 BK1
        refine ⟨N', r1, KN_t (KN_le p2 (by omega)) r2, ?_⟩
        rcases r3 with r3 | r3
        · exact Or.inl (Og_pre r3 q9 q2 q6 (fun i hi => q7 i (by omega)) (fun i hi => q8 i (by omega)))
        · exact Or.inr (Ob_pre r3 q9 q2 q6)
      · have qb : Bn N1 := by
          obtain ⟨A', _, x, _⟩ := q
          exact Bd_n x
        rw [lb_bad qb hW]
        exact ⟨_, rfl, KN_t (KN_le p2 (by omega)) (KN_w (by omega)), Or.inr (Ob_m q)⟩
end
