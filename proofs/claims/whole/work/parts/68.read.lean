/-! ===== a parish that is being read ===== -/
def fl (k : Nat) : Nat := if k < 4 then 5 + k else 8 + k
def FL (A N : z_Mem) : Prop := ∀ k, k < 6 → bt (A.1 53 4) k = bt (N.1 137 24) (fl k)
def NM (A N : z_Mem) (t : Nat → Nat) (n q : Nat) : Prop := ∀ i, i < q → ∃ s l, A.1 54 i = nI s ∧ A.1 55 i = nI l ∧ l ≤ 8 ∧ s + l ≤ n ∧ (∀ k, k < l → isL (t (s + k))) ∧ N.2 144 i = WV t s l
def PR (A N : z_Mem) (t : Nat → Nat) (n : Nat) (P : t_P) : Prop := CP A 30 P ∧ BP (fun k => N.1 142 (1500 + k)) P ∧ VP P ∧ FL A N ∧ NM A N t n P.2.2.2.1.1
def Kq (A A' N N' : z_Mem) : Prop := (∀ x, x ≠ 5 → (x < 30 ∨ 56 ≤ x) → A'.1 x = A.1 x) ∧ (∀ k, k < 3 → A'.1 5 k = A.1 5 k) ∧ A'.2 = A.2 ∧ (∀ x, x ≠ 137 → x ≠ 142 → N'.1 x = N.1 x) ∧ (∀ k, k < 1500 → N'.1 142 k = N.1 142 k) ∧ (∀ k, k < 12 ∨ 19 ≤ k → k ≠ 24 → N'.1 137 k = N.1 137 k) ∧ (∀ x, x ≠ 137 → x ≠ 144 → N'.2 x = N.2 x) ∧ ∀ k, k ≠ 19 → N'.2 137 k = N.2 137 k
theorem Kq_t {A B C N O Q : z_Mem} (h : Kq A B N O) (g : Kq B C O Q) : Kq A C N Q := by
  obtain ⟨h1, h2, h3, h4, h5, h6, h7, h8⟩ := h
  obtain ⟨g1, g2, g3, g4, g5, g6, g7, g8⟩ := g
  exact ⟨fun x a b => (g1 x a b).trans (h1 x a b), fun x a => (g2 x a).trans (h2 x a), g3.trans h3, fun x a b => (g4 x a b).trans (h4 x a b), fun x a => (g5 x a).trans (h5 x a), fun x a b => (g6 x a b).trans (h6 x a b), fun x a b => (g7 x a b).trans (h7 x a b), fun x a => (g8 x a).trans (h8 x a)⟩
theorem Kt_q {A B N O : z_Mem} (h : Kt A B N O) : Kq A B N O := by
  obtain ⟨h1, h2, h3, h4, h5, h6, h7⟩ := h
  exact ⟨fun x a _ => h1 x a, h2, h3, fun x a _ => h4 x a, fun k _ => by rw [h4 142 (by omega)], fun k a _ => h5 k a, fun x a _ => h6 x a, h7⟩
section
variable {w : Nat} {A N A' N' : z_Mem} {t : Nat → Nat} {n j e : Nat} {c : Int32} {P : t_P}
theorem PR_k (h : PR A N t n P) (k : Kt A A' N N') : PR A' N' t n P := by
  obtain ⟨h1, h2, h3, h4, h5⟩ := h
  obtain ⟨k1, k2, k3, k4, k5, k6, k7⟩ := k
  refine ⟨CP_of h1 (fun a _ _ => k1 a (by omega)), ?_, h3, ?_, ?_⟩
  · rw [k4 142 (by omega)]; exact h2
  · intro i hi
    rw [k1 53 (by omega), k5 24 (by omega)]
    exact h4 i hi
  · intro i hi
    rw [k1 54 (by omega), k1 55 (by omega), k6 144 (by omega)]
    exact h5 i hi
theorem Gd_k (h : Gd A N t n j e c) (a5 : A'.1 5 = A.1 5) (a6 : A'.1 6 = A.1 6) (n1 : N'.1 141 = N.1 141) (n2 : ∀ k, k < 19 → N'.1 137 k = N.1 137 k) (n3 : N'.2 137 19 = N.2 137 19) : Gd A' N' t n j e c := by
  unfold Gd Txc Txm TR at h ⊢
  rw [a5, a6, n1, n2 9 (by omega), n2 12 (by omega), n2 14 (by omega), n2 15 (by omega), n2 16 (by omega), n2 17 (by omega), n2 18 (by omega), n3]
  exact h
theorem fl_lt {k : Nat} (h : k < 6) : fl k < 14 := by unfold fl; split <;> omega
theorem fl_inj {k i : Nat} (h : fl k = fl i) : k = i := by
  unfold fl at h
  split at h <;> split at h <;> omega
/-- the mark that a part has been -/
def wfA (A : z_Mem) (k : Nat) : z_Mem := z_wI A 53 4 ((A.1 53 4) ||| ((1 : Int32) <<< (nI k &&& 31)))
def wfN (N : z_Mem) (k : Nat) : z_Mem := z_wI N 137 24 ((N.1 137 24) ||| ((1 : Int32) <<< (nI (fl k) &&& 31)))
theorem g_flag (h : Gd A N t n j e c) {k : Nat} : Gd (wfA A k) (wfN N k) t n j e c :=
  Gd_k h (wI_row (by omega)) (wI_row (by omega)) (wI_row (by omega)) (fun i hi => wI_slot (by omega)) rfl
theorem r_flag (h : PR A N t n P) {k : Nat} (hk : k < 6) : PR (wfA A k) (wfN N k) t n P := by
  obtain ⟨h1, h2, h3, h4, h5⟩ := h
  refine ⟨CP_of h1 (fun a _ _ => wI_row (by omega)), ?_, h3, ?_, ?_⟩
  · show BP (fun i => (z_wI N 137 24 _).1 142 (1500 + i)) P
    rw [wI_row (by omega)]; exact h2
  · intro i hi
    have := fl_lt hk
    have := fl_lt hi
    unfold wfA wfN
    rw [wI_same, wI_same, b_or, b_or, bt_sh (by omega) (by omega), bt_sh (by omega) (by omega), h4 i hi]
    congr 1
    rw [decide_eq_decide]
    exact ⟨fun x => by rw [x], fun x => fl_inj x⟩
  · intro i hi
    unfold wfA wfN
    rw [wI_row (by omega), wI_row (by omega), wI_2]
    exact h5 i hi
theorem k_flag {k : Nat} : Kq A (wfA A k) N (wfN N k) :=
  ⟨fun x _ a => wI_row (by omega), fun k a => by unfold wfA; rw [wI_row (by omega)], rfl, fun x a b => wI_row a, fun k a => by unfold wfN; rw [wI_row (by omega)], fun i a b => wI_slot b, fun _ _ _ => rfl, fun _ _ => rfl⟩
theorem Bd_w (h : Bd A N) {x : Int32} : Bd A (z_wI N 137 24 x) := by
  obtain ⟨v, p, h1, h2, h3, h4, h5, h6⟩ := h
  exact ⟨v, p, h1, h2, h3, h4, by rw [wI_slot (by omega)]; exact h5, by rw [wI_slot (by omega)]; exact h6⟩
theorem k_w24 {x : Int32} : Kq A A N (z_wI N 137 24 x) :=
  ⟨fun x _ a => rfl, fun k a => rfl, rfl, fun x a b => wI_row a, fun k a => by rw [wI_row (by omega)], fun i a b => wI_slot b, fun _ _ _ => rfl, fun _ _ => rfl⟩
theorem bit_b {x : Int32} {k : Nat} (hk : k < 32) : (((x >>> (nI k &&& 31)) &&& 1) = 1) ↔ bt x k = true := by
  rw [b_bit x hk]
  cases bt x k <;> decide
/-- a part of which there may be one only, the word gone by -/
theorem g_once (hw : 10000 ≤ w) (h : Gd A N t n j e c) (hc : ¬ c = 37) (hp : PR A N t n P) {k : Nat} (hk : k < 6) : ∃ A' N', F_X12_once w N (nI (fl k)) = some ((), N') ∧ Kq A A' N N' ∧
    ((∃ A1, F_X4_isFirst w A (nI k) = some (true, A1) ∧ F_X7_advance w A1 = some ((), A') ∧ PR A' N' t n P ∧ ∃ j' e' c', Gd A' N' t n j' e' c' ∧ e ≤ j') ∨ (F_X4_isFirst w A (nI k) = some (false, A') ∧ Bd A' N')) := by
  have f14 := fl_lt hk
  have hf := hp.2.2.2.1 k hk
  unfold F_X12_once F_X4_isFirst
  rw [f_has12, bindS]
  by_cases g : bt (A.1 53 4) k = true
  · have g2 := g
    rw [hf] at g2
    obtain ⟨A', N', a1, a2, a3, a4⟩ := g_fail (w := w) h 5 (by omega) hc
    refine ⟨A', z_wI N' 137 24 ((N'.1 137 24) ||| ((1 : Int32) <<< (nI (fl k) &&& 31))), ?_, Kq_t (Kt_q a4) k_w24, Or.inr ⟨?_, Bd_w a3⟩⟩
    · rw [if_pos (decide_eq_true ((bit_b (by omega)).mpr g2))]
      dsimp only
      rw [show F_X12_fail w N 5 (N.1 137 15) = some ((), N') from a2, bindS]
      dsimp only
      rw [b_must (Bd_n (Bd_w a3)), bindS]
    · rw [if_pos ((bit_b (by omega)).mpr g), show F_X7_fail w A 5 = some (false, A') from a1, bindS]
  · have g2 := g
    rw [hf] at g2
    obtain ⟨A', N', j', e', c', a1, a2, a3, a4, a5⟩ := g_adv hw (g_flag h (k := k))
    refine ⟨A', N', ?_, Kq_t k_flag (Kt_q a5), Or.inl ⟨_, ?_, a1, PR_k (r_flag hp hk) a5, j', e', c', a3, a4⟩⟩
    · rw [if_neg (by rw [decide_eq_true_iff]; exact fun x => g2 ((bit_b (by omega)).mp x))]
      dsimp only
      exact (congrArg (fun X => Option.bind X _) ((m_must1 (g_flag h (k := k)).2.2.2.2.2.2).trans a2))
    · rw [if_neg (fun x => g ((bit_b (by omega)).mp x))]; rfl
/-! rules -/
def sR (s : Nat → Int32) (k : Nat) (v : Int32) : Nat → Int32 := fun i => if i = k then v else s i
theorem sR_ne {s : Nat → Int32} {k i : Nat} {v : Int32} (h : ¬ i = k) : sR s k v i = s i := if_neg h
theorem sR_eq {s : Nat → Int32} {k : Nat} {v : Int32} : sR s k v k = v := if_pos rfl
theorem z_lay_of {s s' : Nat → Int32} (h : ∀ i, 14 ≤ i → i < 20 → s' i = s i) : z_lay s' = z_lay s := by
  unfold z_lay
  rw [h 14 (by omega) (by omega), h 15 (by omega) (by omega), h 16 (by omega) (by omega), h 17 (by omega) (by omega), h 18 (by omega) (by omega), h 19 (by omega) (by omega)]
/-- new scalars -/
theorem PR_s {s' : Nat → Int32} (h : PR A N t n P) (hs : CK A' 30 s') (hb : BS (fun k => N'.1 142 (1500 + k)) s') (vs : VS s') (ka : ∀ a, 32 ≤ a → a < 56 → A'.1 a = A.1 a) (kn : ∀ k, k < 5 ∨ k = 10 ∨ 20 ≤ k → N'.1 142 (1500 + k) = N.1 142 (1500 + k)) (k24 : N'.1 137 24 = N.1 137 24) (kl : N'.2 = N.2) : PR A' N' t n (s', P.2) := by
  obtain ⟨h1, h2, h3, h4, h5⟩ := h
  refine ⟨CP_sd h1 hs ?_ (fun a ha => ka a (by omega) (by omega)), BP_sd h2 h3 hb ?_ (fun k hk => kn k (by omega)), ⟨vs, h3.2⟩, ?_, ?_⟩
  · have hd := h1.2.2.1
    unfold D_c
    rw [ka (30 + 8) (by omega) (by omega), ka (30 + 9) (by omega) (by omega), ka (30 + 10) (by omega) (by omega), ka (30 + 11) (by omega) (by omega)]
    exact hd
  · obtain ⟨d1, d2, d3⟩ := h2.2.2.1
    have dl := h3.2.2.1.1
    refine ⟨(kn 1 (by omega)).trans d1, (kn 10 (by omega)).trans d2, fun i x hx => ?_⟩
    have hi : i < 5 := by
      rcases Nat.lt_or_ge i P.2.2.1.2.length with g | g
      · omega
      · rw [List.getElem?_eq_none g] at hx; cases hx
    obtain ⟨e1, e2, e3⟩ := d3 i x hx
    exact ⟨(kn (60 + i) (by omega)).trans e1, (kn (65 + i) (by omega)).trans e2, (kn (70 + i) (by omega)).trans e3⟩
  · intro i hi
    rw [ka 53 (by omega) (by omega), k24]
    exact h4 i hi
  · intro i hi
    rw [ka 54 (by omega) (by omega), ka 55 (by omega) (by omega), kl]
    exact h5 i hi
/-- the answer of a reader of a part -/
def Rd (A A' N N' : z_Mem) (t : Nat → Nat) (n e : Nat) (b : Bool) : Prop := Kq A A' N N' ∧ ((b = true ∧ (∃ P, PR A' N' t n P) ∧ ∃ j' e' c', Gd A' N' t n j' e' c' ∧ e ≤ j') ∨ (b = false ∧ Bd A' N'))
theorem r_rule (hw : 10000 ≤ w) (h : Gd A N t n j e c) (hp : PR A N t n P) {k hi : Nat} (hk : (k = 0 ∧ hi = 16) ∨ (k = 1 ∧ hi = 99) ∨ (k = 2 ∧ hi = 99)) (hc : c = nI k) : ∃ b A' N', F_X4_readRule w A (nI hi) = some (b, A') ∧ F_X12_readOnce w N (nI (5 + k)) (nI hi) = some ((), N') ∧ Rd A A' N N' t n e b := by
  have k6 : k < 6 := by omega
  have n37 : ¬ c = 37 := by
    rw [hc]; intro x
    have := (nI_eq (b := 37) (by omega) (by omega)).mp x
    omega
  have ef : fl k = 5 + k := by unfold fl; rw [if_pos (by omega)]
  have h3 : A.1 5 3 = c := h.2.2.1.2.2.2.1
  obtain ⟨A1, N1, o1, o2, o3⟩ := g_once hw h n37 hp k6
  rw [ef] at o1
  unfold F_X4_readRule F_X12_readOnce
  rw [h3, hc, o1, bindS]
  dsimp only
  rcases o3 with ⟨A0, p1, p2, p3, j1, e1, c1, p4, p5⟩ | ⟨p1, p2⟩
  · rw [p1, bindS, if_pos rfl]
    dsimp only
    rw [p2, bindS]
    dsimp only
    obtain ⟨A2, N2, q1, q2⟩ := g_num hw p4 0 hi (by omega) 0 (nI hi) rfl rfl (by omega)
    rcases q2 with ⟨v, v1, v2, _, _, q3, q4, j2, e2, c2, q5, q6⟩ | ⟨q3, q4, q5⟩
    · rw [q3, bindS, q4, bindS]
      dsimp only
      have b0 := q5.2.2.2.2.2.2
      have je := p4.2.2.1.2.1
      rw [if_neg (nI_nm1 (by omega)), b0, if_pos rfl, show (1500 : Int32) + nI (5 + k) = nI (1500 + (5 + k)) from n_lad 1500 _, if_neg (nI_in (by omega) (by omega)), nI_cl (by omega)]
      have es : F_X3_setRule w A2 30 (nI k - 0) (nI v) = some ((), z_wI A2 30 (5 + k) (nI v)) := by
        unfold F_X3_setRule
        rcases hk with ⟨x, _⟩ | ⟨x, _⟩ | ⟨x, _⟩ <;> subst x <;> rfl
      rw [es, bindS]
      refine ⟨true, _, _, rfl, rfl, Kq_t (Kq_t o2 (Kt_q q1)) ?_, Or.inl ⟨rfl, ⟨(sR P.1 (5 + k) (nI v), P.2), ?_⟩, j2, e2, c2, Gd_k q5 (wI_row (by omega)) (wI_row (by omega)) (wI_row (by omega)) (fun i hi => by rw [wI_row (by omega)]) rfl, by omega⟩⟩
      · exact ⟨fun x _ a => wI_row (by omega), fun k a => by rw [wI_row (by omega)], rfl, fun x a b => wI_row b, fun i a => wI_slot (by omega), fun i a b => by rw [wI_row (by omega)], fun _ _ _ => rfl, fun _ _ => rfl⟩
      · have hq := PR_k p3 q1
        obtain ⟨s1, s2, s3, s4, s5, s6, s7, s8, s9⟩ := hq.1.1
        obtain ⟨b1, b2, b3, b4, b5, b6, b7, b8, b9, b10, b11, b12, b13, b14⟩ := hq.2.1.1
        obtain ⟨w1, w2, w3, w4, w5, w6, w7⟩ := hq.2.2.1.1
        have lay := z_lay_of (s := P.1) (s' := sR P.1 (5 + k) (nI v)) (fun i a b => sR_ne (by omega))
        have rng : ∀ m, m ≤ 99 → hi = m → (0 : Int32) ≤ nI v ∧ nI v ≤ nI m := fun m hm e => ⟨nI_pos' (by omega), nI_le (by omega) (by omega)⟩
        have RA : ∀ i : Nat, (z_wI A2 30 (5 + k) (nI v)).1 30 i = if i = 5 + k then nI v else A2.1 30 i := fun i => by rw [wI_rd]; simp
        have RN : ∀ i : Nat, (z_wI N2 142 (1500 + (5 + k)) (nI v)).1 142 (1500 + i) = if i = 5 + k then nI v else N2.1 142 (1500 + i) := fun i => by rw [wI_rd]; simp
        refine PR_s hq ?_ ?_ ?_ (fun a x y => wI_row (by omega)) (fun i hi => wI_slot (by omega)) (by rw [wI_row (by omega)]) rfl
        · refine ⟨?_, ?_, ?_, ?_, ?_, ?_, ?_, ?_, ?_⟩
          · rw [RA]; unfold sR; rw [s1]
          · rw [RA]; unfold sR; rw [s2]
          · rw [RA]; unfold sR; rw [s3]
          · rw [RA]; unfold sR; rw [s4]
          · rw [RA, if_neg (by omega), lay]; exact s5
          · rw [RA, if_neg (by omega), sR_ne (by omega)]; exact s6
          · rw [RA]; unfold sR; rw [s7]
          · rw [wI_row (by omega), sR_ne (by omega)]; exact s8
          · rw [wI_row (by omega), sR_ne (by omega)]; exact s9
        · refine ⟨?_, ?_, ?_, ?_, ?_, ?_, ?_, ?_, ?_, ?_, ?_, ?_, ?_, ?_⟩
          all_goals (dsimp only; rw [RN]; unfold sR)
          · rw [show N2.1 142 (1500 + 5) = P.1 5 from b1]
          · rw [show N2.1 142 (1500 + 6) = P.1 6 from b2]
          · rw [show N2.1 142 (1500 + 7) = P.1 7 from b3]
          · rw [show N2.1 142 (1500 + 8) = P.1 8 from b4]
          · rw [show N2.1 142 (1500 + 9) = P.1 9 from b5]
          · rw [show N2.1 142 (1500 + 11) = P.1 11 from b6]
          · rw [show N2.1 142 (1500 + 12) = P.1 12 from b7]
          · rw [show N2.1 142 (1500 + 13) = P.1 13 from b8]
          · rw [show N2.1 142 (1500 + 14) = P.1 14 from b9]
          · rw [show N2.1 142 (1500 + 15) = P.1 15 from b10]
          · rw [show N2.1 142 (1500 + 16) = P.1 16 from b11]
          · rw [show N2.1 142 (1500 + 17) = P.1 17 from b12]
          · rw [show N2.1 142 (1500 + 18) = P.1 18 from b13]
          · rw [show N2.1 142 (1500 + 19) = P.1 19 from b14]
        · refine ⟨?_, ?_, ?_, ?_, ?_, ?_, ?_⟩
          · rw [sR_ne (by omega)]; exact w1
          · intro i hi; rw [sR_ne (by omega)]; exact w2 i hi
          · rw [sR_ne (by omega)]; exact w3
          · rw [sR_ne (by omega)]; exact w4
          · by_cases x : k = 0
            · subst x; rw [sR_eq]; exact rng 16 (by omega) (by omega)
            · rw [sR_ne (by omega)]; exact w5
          · by_cases x : k = 1
            · subst x; rw [sR_eq]; exact rng 99 (by omega) (by omega)
            · rw [sR_ne (by omega)]; exact w6
          · by_cases x : k = 2
            · subst x; rw [sR_eq]; exact rng 99 (by omega) (by omega)
            · rw [sR_ne (by omega)]; exact w7
    · rw [q3, bindS, q4, bindS]
      dsimp only
      rw [if_pos rfl, if_neg (Bd_n q5).2]
      exact ⟨false, _, _, rfl, rfl, Kq_t o2 (Kt_q q1), Or.inr ⟨rfl, q5⟩⟩
  · rw [p1, bindS, if_neg (by simp), b_count (Bd_n p2), bindS]
    dsimp only
    rw [if_neg (Bd_n p2).2]
    exact ⟨false, _, _, rfl, rfl, o2, Or.inr ⟨rfl, p2⟩⟩
end
