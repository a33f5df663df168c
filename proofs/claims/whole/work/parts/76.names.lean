/-! ===== names of questions ===== -/
theorem by_l : ∀ x, x < 128 → (decide (by_c x = nI x)) = true := by decide +kernel
theorem by_lI {x : Nat} (h : isL x) : by_c x = nI x := of_decide_eq_true (by_l x (by unfold isL at h; omega))
def pn (t : Nat → Nat) (s l j e : Nat) : Prop := l = e - j ∧ ∀ k, k < l → t (s + k) = t (j + k)
section
variable {w : Nat} {A N A' N' : z_Mem} {t : Nat → Nat} {n j e : Nat} {c : Int32} {P : t_P}
theorem TR_30 (h : TR A N t n j e 30) : j < e ∧ e - j ≤ 8 ∧ (∀ k, j ≤ k → k < e → isL (t k)) ∧ N.2 137 19 = WV t j (e - j) := by
  obtain ⟨_, h1, h0, _, h⟩ := h
  rcases h with ⟨h, h2, _⟩ | ⟨h, h2, h3, h4, h5, h6⟩ | ⟨h, h2, _⟩ | ⟨h2, _, h⟩ | ⟨h, h2, _⟩
  · exact absurd h (by decide)
  · refine ⟨h3, ?_, h4, h6⟩
    unfold c_wd at h
    cases q : wn (l_tok t j (e - j)) k_ws 0 with
    | none =>
      rw [q] at h
      dsimp only at h
      by_cases g : e - j ≤ 8
      · exact g
      · rw [if_neg g] at h
        exact absurd h (by decide)
    | some i =>
      obtain ⟨_, q2⟩ := wn_some k_ws 0 i q
      have := ws_sh _ (List.mem_of_getElem? q2)
      rw [tok_len] at this
      exact this
  · exact absurd h (by decide)
  · rcases h with ⟨h, _⟩ | ⟨h, _⟩ | ⟨h, _⟩ | ⟨h, _⟩ <;> exact absurd h (by decide)
  · exact absurd h (by decide)
theorem nh_l (hc : Txc A t n) {s l : Nat} (h4 : A.1 5 4 = nI j) (h5 : A.1 5 5 = nI e) (he : e ≤ n) (hl : l = e - j) (hje : j ≤ e) (hs : s + l ≤ n) (L1 : ∀ k, k < l → isL (t (s + k))) (L2 : ∀ k, k < l → isL (t (j + k))) :
    ∀ (m k cc : Nat), k + m = l → m < cc → (∀ i, i < k → t (s + i) = t (j + i)) → ∃ b, L_X4_isNameHere w cc A (nI s) (nI (j + k)) = some (b, A) ∧ (b = true ↔ ∀ i, i < l → t (s + i) = t (j + i)) := by
  have n9 := hc.1
  intro m
  induction m with
  | zero =>
    intro k cc hk hcc hi
    obtain ⟨c0, rfl⟩ : ∃ c0, cc = c0 + 1 := ⟨cc - 1, by omega⟩
    refine ⟨true, ?_, ?_⟩
    · rw [L_X4_isNameHere, h5, if_pos (nI_le (by omega) (by omega))]
    · exact ⟨fun _ i h => hi i (by omega), fun _ => rfl⟩
  | succ m ih =>
    intro k cc hk hcc hi
    obtain ⟨c0, rfl⟩ : ∃ c0, cc = c0 + 1 := ⟨cc - 1, by omega⟩
    have ex : nI s + nI (j + k) - nI j = nI (s + k) := by rw [nI_add, pk_sub (by omega)]; congr 1; omega
    rw [L_X4_isNameHere, h5, h4, if_neg (nI_ge (by omega) (by omega)), ex, if_neg (nI_in (by omega) (by omega)), if_neg (nI_in (by omega) (by omega)), nI_cl (by omega), nI_cl (by omega), hc.2.2.2 (j + k) (by omega), hc.2.2.2 (s + k) (by omega), by_lI (L1 k (by omega)), by_lI (L2 k (by omega))]
    have a1 := L1 k (by omega)
    have a2 := L2 k (by omega)
    unfold isL at a1 a2
    by_cases g : t (j + k) = t (s + k)
    · rw [if_pos (by rw [g]), nI_1, show j + k + 1 = j + (k + 1) by omega]
      refine ih (k + 1) c0 (by omega) (by omega) (fun i h => ?_)
      by_cases x : i = k
      · subst x; exact g.symm
      · exact hi i (by omega)
    · rw [if_neg (fun x => g ((nI_eq (by omega) (by omega)).mp x))]
      refine ⟨false, rfl, ⟨fun x => (Bool.noConfusion x), fun x => absurd (x k (by omega)).symm g⟩⟩
theorem WV_iff {s l : Nat} (hl : l ≤ 8) (he : e - j ≤ 8) (L1 : ∀ k, k < l → isL (t (s + k))) (L2 : ∀ k, k < e - j → isL (t (j + k))) : WV t s l = WV t j (e - j) ↔ pn t s l j e := by
  have w9 : (32 : Nat) ^ 8 = 1099511627776 := by decide
  have b1 := wv_lt (t := t) (s := s) l L1
  have b2 := wv_lt (t := t) (s := j) (e - j) L2
  have c1 : 32 ^ l ≤ 32 ^ 8 := Nat.pow_le_pow_right (by omega) hl
  have c2 : 32 ^ (e - j) ≤ 32 ^ 8 := Nat.pow_le_pow_right (by omega) he
  unfold WV pn
  rw [if_pos hl, if_pos he, pk_lEQ (by omega) (by omega)]
  constructor
  · intro x
    exact wv_inj l (e - j) L1 L2 x
  · rintro ⟨x, y⟩
    subst x
    have : ∀ m, m ≤ e - j → wv t s m = wv t j m := by
      intro m
      induction m with
      | zero => intro _; rfl
      | succ m ih => intro hm; rw [wv, wv, ih (by omega), y m (by omega)]
    exact this _ (Nat.le_refl _)
/-- which question bears the name that stands here -/
theorem lw_named (h : Gd A N t n j e 30) (hw : 10000 ≤ w) {q : Nat} (hq : q ≤ 6) (hm : NM A N t n q) (h4 : A.1 42 4 = nI q) (h2 : N.1 142 1502 = nI q) : ∀ (m i c c' : Nat), i + m = q → m < c → m < c' → ∃ r, L_X4_questionHere w c A (nI i) = some (r, A) ∧ L_X12_named w c' N (nI i) = some (r, N) ∧ (r = -1 ∨ ∃ k, k < q ∧ r = nI k) := by
  obtain ⟨t1, t2, t3, t4⟩ := TR_30 h.2.2.1
  obtain ⟨⟨x4, x5, _, _⟩, x6, x7, _⟩ := h.2.2.1
  have n9 := h.1.1
  intro m
  induction m with
  | zero =>
    intro i c c' hi hc hc'
    obtain ⟨c0, rfl⟩ : ∃ c0, c = c0 + 1 := ⟨c - 1, by omega⟩
    obtain ⟨c1, rfl⟩ : ∃ c1, c' = c1 + 1 := ⟨c' - 1, by omega⟩
    refine ⟨-1, ?_, ?_, Or.inl rfl⟩
    · rw [L_X4_questionHere, h4, if_pos (nI_le (by omega) (by omega))]
    · rw [L_X12_named, h2, if_pos (nI_le (by omega) (by omega))]
  | succ m ih =>
    intro i c c' hi hc hc'
    obtain ⟨c0, rfl⟩ : ∃ c0, c = c0 + 1 := ⟨c - 1, by omega⟩
    obtain ⟨c1, rfl⟩ : ∃ c1, c' = c1 + 1 := ⟨c' - 1, by omega⟩
    obtain ⟨r, r1, r2, r3⟩ := ih (i + 1) c0 c1 (by omega) (by omega) (by omega)
    obtain ⟨s, l, n1, n2, n3, n4, n5, n6⟩ := hm i (by omega)
    have L2 : ∀ k, k < e - j → isL (t (j + k)) := fun k hk => t3 (j + k) (by omega) (by omega)
    have wi := WV_iff (t := t) (s := s) (l := l) (e := e) (j := j) n3 t2 n5 L2
    rw [L_X4_questionHere, L_X12_named, h4, h2, if_neg (nI_ge (by omega) (by omega)), if_neg (nI_ge (by omega) (by omega)), nI_cl (by omega), n1, n2, x4, x5, pk_sub (by omega), n6, t4, nI_1]
    simp only [if_neg (ck_n (j := i) (N := 6) (by omega) (by omega))]
    by_cases g : l = e - j
    · rw [if_pos (by rw [g])]
      obtain ⟨b, b1, b2⟩ := nh_l (w := w) h.1 x4 x5 x7 g x6 n4 n5 (fun k hk => L2 k (by omega)) l 0 w (by omega) (by omega) (fun i hi => by omega)
      have b1' : F_X4_isNameHere w A (nI s) = some (b, A) := by
        unfold F_X4_isNameHere
        rw [x4]
        exact b1
      rw [b1', bindS]
      dsimp only
      by_cases gb : b = true
      · rw [if_pos gb, if_pos ((lg_cmp_eq _ _).mpr (wi.mpr ⟨g, b2.mp gb⟩))]
        exact ⟨nI i, rfl, rfl, Or.inr ⟨i, by omega, rfl⟩⟩
      · rw [if_neg gb, if_neg (fun x => gb (b2.mpr (wi.mp ((lg_cmp_eq _ _).mp x)).2))]
        exact ⟨r, r1, r2, r3⟩
    · rw [if_neg (fun x => g ((nI_eq (by omega) (by omega)).mp x)), if_neg (fun x => g (wi.mp ((lg_cmp_eq _ _).mp x)).1)]
      exact ⟨r, r1, r2, r3⟩
theorem f_named (h : Gd A N t n j e 30) (hw : 10000 ≤ w) (hp : PR A N t n P) : ∃ r, F_X4_questionHere w A = some (r, A) ∧ F_X12_named w N = some (r, N) ∧ (r = -1 ∨ ∃ k, k < P.2.2.2.1.1 ∧ r = nI k) :=
  lw_named h hw hp.2.2.1.2.2.2.1.1 hp.2.2.2.2 hp.1.2.2.2.1.1 hp.2.1.2.2.2.1.1 P.2.2.2.1.1 0 w w (by omega) (by have := hp.2.2.1.2.2.2.1.1; omega) (by have := hp.2.2.1.2.2.2.1.1; omega)
end
