/-! ===== words, as both know them ===== -/
theorem wv_inj {t t' : Nat → Nat} {j j' : Nat} : ∀ s s', (∀ i, i < s → isL (t (j + i))) → (∀ i, i < s' → isL (t' (j' + i))) → wv t j s = wv t' j' s' → s = s' ∧ ∀ i, i < s → t (j + i) = t' (j' + i) := by
  intro s
  induction s with
  | zero =>
    intro s' _ h2 h3
    cases s' with
    | zero => exact ⟨rfl, fun i hi => by omega⟩
    | succ s' =>
      have := h2 s' (by omega)
      unfold isL at this
      rw [wv, wv] at h3
      omega
  | succ s ih =>
    intro s' h1 h2 h3
    cases s' with
    | zero =>
      have := h1 s (by omega)
      unfold isL at this
      rw [wv, wv] at h3
      omega
    | succ s' =>
      have a := h1 s (by omega)
      have b := h2 s' (by omega)
      unfold isL at a b
      rw [wv, wv] at h3
      obtain ⟨r1, r2⟩ := ih s' (fun i hi => h1 i (by omega)) (fun i hi => h2 i (by omega)) (by omega)
      subst r1
      refine ⟨rfl, fun i hi => ?_⟩
      by_cases e : i = s
      · subst e; omega
      · exact r2 i (by omega)
def u_f (u : List Nat) : Nat → Nat := fun i => u.getD i 0
def cd (u : List Nat) : Nat := wv (u_f u) 0 u.length
theorem wn_some {L : List Nat} : ∀ (r : List (List Nat)) (k i : Nat), wn L r k = some i → k ≤ i ∧ r[i - k]? = some L := by
  intro r
  induction r with
  | nil => intro k i h; cases h
  | cons u r ih =>
    intro k i h
    rw [wn] at h
    by_cases g : L = u
    · rw [if_pos g] at h
      cases h
      refine ⟨Nat.le_refl _, ?_⟩
      rw [Nat.sub_self, g]; rfl
    · rw [if_neg g] at h
      obtain ⟨h1, h2⟩ := ih (k + 1) i h
      refine ⟨by omega, ?_⟩
      rw [show i - k = (i - (k + 1)) + 1 by omega]
      exact h2
theorem wn_none {L : List Nat} : ∀ (r : List (List Nat)) (k : Nat), wn L r k = none → ∀ u ∈ r, ¬ L = u := by
  intro r
  induction r with
  | nil => intro k _ u hu; cases hu
  | cons v r ih =>
    intro k h u hu
    rw [wn] at h
    by_cases g : L = v
    · rw [if_pos g] at h; cases h
    · rw [if_neg g] at h
      rcases List.mem_cons.mp hu with e | e
      · rw [e]; exact g
      · exact ih (k + 1) h u e
theorem ws_dis : ∀ a, a < 30 → ∀ b, b < 30 → (decide (k_ws[a]? = k_ws[b]?) == decide (a = b)) = true := by decide +kernel
theorem ws_len : k_ws.length = 30 := by decide +kernel
theorem ws_sh : ∀ u ∈ k_ws, u.length ≤ 8 := by decide +kernel
/-- the class's number of a word is k just where the word is the k-th -/
theorem cwd_k {t : Nat → Nat} {j s k : Nat} {u : List Nat} (hk : k_ws[k]? = some u) : (c_wd t j s = nI k) ↔ l_tok t j s = u := by
  have k30 : k < 30 := by
    rcases Nat.lt_or_ge k k_ws.length with g | g
    · rw [ws_len] at g; exact g
    · rw [List.getElem?_eq_none g] at hk; cases hk
  unfold c_wd
  cases h : wn (l_tok t j s) k_ws 0 with
  | none =>
    have := wn_none k_ws 0 h u (List.mem_of_getElem? hk)
    refine ⟨fun e => ?_, fun e => absurd e this⟩
    exfalso
    dsimp only at e
    split at e
    · have := (nI_eq (a := 30) (by omega) (by omega)).mp e; omega
    · have := (nI_eq (a := 31) (by omega) (by omega)).mp e; omega
  | some i =>
    obtain ⟨_, h2⟩ := wn_some k_ws 0 i h
    rw [Nat.sub_zero] at h2
    have i30 : i < 30 := by
      rcases Nat.lt_or_ge i k_ws.length with g | g
      · rw [ws_len] at g; exact g
      · rw [List.getElem?_eq_none g] at h2; cases h2
    dsimp only
    constructor
    · intro e
      have := (nI_eq (by omega) (by omega)).mp e
      subst this
      rw [h2] at hk
      simpa using hk
    · intro e
      rw [e] at h2
      have d := ws_dis i i30 k k30
      simp only [beq_iff_eq, decide_eq_decide] at d
      rw [d.mp (by rw [h2, hk])]
theorem tok_iff {t : Nat → Nat} {j s : Nat} {u : List Nat} (hl : ∀ i, i < s → isL (t (j + i))) (hu : u ∈ k_ws) : (WV t j s = lN (cd u)) ↔ l_tok t j s = u := by
  have ur := ws_ok u hu
  have ul := ws_sh u hu
  have uf : ∀ i, i < u.length → isL (u_f u (0 + i)) := by
    intro i hi
    rw [Nat.zero_add]
    have : u_f u i = u[i] := by unfold u_f; rw [List.getD_eq_getElem?_getD, List.getElem?_eq_getElem hi]; rfl
    rw [this]
    exact ur _ (List.getElem_mem hi)
  have cb := wv_lt (t := u_f u) (s := 0) u.length uf
  have c8 : 32 ^ u.length ≤ 32 ^ 8 := Nat.pow_le_pow_right (by omega) ul
  have w9 : (32 : Nat) ^ 8 = 1099511627776 := by decide
  unfold WV
  constructor
  · intro e
    by_cases g : s ≤ 8
    · rw [if_pos g] at e
      have wb := wv_lt (t := t) (s := j) s hl
      have w8 : 32 ^ s ≤ 32 ^ 8 := Nat.pow_le_pow_right (by omega) g
      have e2 := (pk_lEQ (a := wv t j s) (b := cd u) (by omega) (by unfold cd; omega)).mp e
      obtain ⟨r1, r2⟩ := wv_inj s u.length hl uf e2
      apply List.ext_getElem?
      intro i
      rw [tok_get]
      by_cases hi : i < s
      · rw [if_pos hi, r2 i hi, Nat.zero_add, List.getElem?_eq_getElem (by omega)]
        unfold u_f
        rw [List.getD_eq_getElem?_getD, List.getElem?_eq_getElem (by omega)]; rfl
      · rw [if_neg hi, List.getElem?_eq_none (by omega)]
    · rw [if_neg g] at e
      exfalso
      have h1 := congrArg Int64.toInt e
      rw [pk_lT (n := cd u) (by unfold cd; omega), show (-1 : Int64).toInt = -1 from rfl] at h1
      omega
  · intro e
    have hs : s = u.length := by rw [← e]; exact tok_len.symm
    rw [if_pos (by omega)]
    congr 1
    unfold cd
    have hg : ∀ i, i < s → t (j + i) = u_f u (0 + i) := by
      intro i hi
      have h1 : (l_tok t j s)[i]? = u[i]? := by rw [e]
      rw [tok_get, if_pos hi] at h1
      rw [Nat.zero_add]
      unfold u_f
      rw [List.getD_eq_getElem?_getD, ← h1]; rfl
    have : ∀ m, m ≤ s → wv t j m = wv (u_f u) 0 m := by
      intro m
      induction m with
      | zero => intro _; rfl
      | succ m ih => intro hm; rw [wv, wv, ih (by omega), hg m (by omega)]
    rw [← hs]
    exact this s (Nat.le_refl _)
section
variable {w : Nat} {A N : z_Mem} {t : Nat → Nat} {n j e : Nat} {c : Int32}
theorem TR_k (h : TR A N t n j e c) : ∃ k, k ≤ 38 ∧ c = nI k := by
  obtain ⟨_, _, _, _, h⟩ := h
  rcases h with ⟨h, _⟩ | ⟨h, _⟩ | ⟨h, _⟩ | ⟨_, _, h⟩ | ⟨h, _⟩
  · exact ⟨38, by omega, h⟩
  · rw [h]
    unfold c_wd
    cases q : wn (l_tok t j (e - j)) k_ws 0 with
    | none =>
      dsimp only
      by_cases g : e - j ≤ 8
      · exact ⟨30, by omega, by rw [if_pos g]; rfl⟩
      · exact ⟨31, by omega, by rw [if_neg g]; rfl⟩
    | some i =>
      obtain ⟨_, h2⟩ := wn_some k_ws 0 i q
      rw [Nat.sub_zero] at h2
      have i30 : i < 30 := by
        rcases Nat.lt_or_ge i k_ws.length with g | g
        · rw [ws_len] at g; exact g
        · rw [List.getElem?_eq_none g] at h2; cases h2
      exact ⟨i, by omega, rfl⟩
  · exact ⟨32, by omega, h⟩
  · rcases h with ⟨h, _⟩ | ⟨h, _⟩ | ⟨h, _⟩ | ⟨h, _⟩
    · exact ⟨33, by omega, h⟩
    · exact ⟨34, by omega, h⟩
    · exact ⟨36, by omega, h⟩
    · exact ⟨35, by omega, h⟩
  · exact ⟨37, by omega, h⟩
theorem m_wd (h : TR A N t n j e c) {k : Nat} (u : List Nat) (hk : k_ws[k]? = some u) (v : Int64) (hv : v = lN (cd u)) : F_X12_isWord w N v = some (decide (c = nI k), N) := by
  have k30 : k < 30 := by
    rcases Nat.lt_or_ge k k_ws.length with g | g
    · rw [ws_len] at g; exact g
    · rw [List.getElem?_eq_none g] at hk; cases hk
  have nk : ∀ m, 30 ≤ m → m ≤ 38 → ¬ nI m = nI k := fun m h1 h2 x => by have := (nI_eq (by omega) (by omega)).mp x; omega
  obtain ⟨_, h1, _, _, h⟩ := h
  unfold F_X12_isWord
  rcases h with ⟨h, h2, _⟩ | ⟨h, h2, h3, h4, h5, h6⟩ | ⟨h, h2, _⟩ | ⟨h2, _, h⟩ | ⟨h, h2, _⟩
  · rw [h2, if_neg (by decide), h, decide_eq_false (show ¬ (38 : Int32) = nI k from nk 38 (by omega) (by omega))]
  · rw [h2, if_pos rfl, h6, hv, h]
    have q1 := tok_iff (t := t) (j := j) (s := e - j) (fun i hi => h4 (j + i) (by omega) (by omega)) (List.mem_of_getElem? hk)
    have q2 := cwd_k (t := t) (j := j) (s := e - j) hk
    by_cases g : l_tok t j (e - j) = u
    · rw [if_pos ((lg_cmp_eq _ _).mpr (q1.mpr g)), decide_eq_true (q2.mpr g)]
    · rw [if_neg (fun x => g (q1.mp ((lg_cmp_eq _ _).mp x))), decide_eq_false (fun x => g (q2.mp x))]
  · rw [h2, if_neg (by decide), h, decide_eq_false (show ¬ (32 : Int32) = nI k from nk 32 (by omega) (by omega))]
  · rw [h2, if_neg (by decide)]
    rcases h with ⟨h, _⟩ | ⟨h, _⟩ | ⟨h, _⟩ | ⟨h, _⟩
    · rw [h, decide_eq_false (show ¬ (33 : Int32) = nI k from nk 33 (by omega) (by omega))]
    · rw [h, decide_eq_false (show ¬ (34 : Int32) = nI k from nk 34 (by omega) (by omega))]
    · rw [h, decide_eq_false (show ¬ (36 : Int32) = nI k from nk 36 (by omega) (by omega))]
    · rw [h, decide_eq_false (show ¬ (35 : Int32) = nI k from nk 35 (by omega) (by omega))]
  · rw [h2, if_neg (by decide), h, decide_eq_false (show ¬ (37 : Int32) = nI k from nk 37 (by omega) (by omega))]
theorem m_isOdds (h : TR A N t n j e c) : F_X12_isOdds w N = some (decide (c = 0), N) := by
  have s : F_X12_spelled w N (111 : Int32) (100 : Int32) (100 : Int32) (115 : Int32) (0 : Int32) (0 : Int32) = some (lN 495763, N) := rfl
  unfold F_X12_isOdds
  rw [s, bindS, m_wd h (k := 0) [111, 100, 100, 115] rfl (lN 495763) rfl, bindS]
  rfl
theorem m_isToll (h : TR A N t n j e c) : F_X12_isToll w N = some (decide (c = 1), N) := by
  have s : F_X12_spelled w N (116 : Int32) (111 : Int32) (108 : Int32) (108 : Int32) (0 : Int32) (0 : Int32) = some (lN 671116, N) := rfl
  unfold F_X12_isToll
  rw [s, bindS, m_wd h (k := 1) [116, 111, 108, 108] rfl (lN 671116) rfl, bindS]
  rfl
theorem m_isWar (h : TR A N t n j e c) : F_X12_isWar w N = some (decide (c = 2), N) := by
  have s : F_X12_spelled w N (119 : Int32) (97 : Int32) (114 : Int32) (0 : Int32) (0 : Int32) (0 : Int32) = some (lN 23602, N) := rfl
  unfold F_X12_isWar
  rw [s, bindS, m_wd h (k := 2) [119, 97, 114] rfl (lN 23602) rfl, bindS]
  rfl
theorem m_isLies (h : TR A N t n j e c) : F_X12_isLies w N = some (decide (c = 3), N) := by
  have s : F_X12_spelled w N (108 : Int32) (105 : Int32) (101 : Int32) (115 : Int32) (0 : Int32) (0 : Int32) = some (lN 402611, N) := rfl
  unfold F_X12_isLies
  rw [s, bindS, m_wd h (k := 3) [108, 105, 101, 115] rfl (lN 402611) rfl, bindS]
  rfl
theorem m_isChest (h : TR A N t n j e c) : F_X12_isChest w N = some (decide (c = 4), N) := by
  have s : F_X12_spelled w N (99 : Int32) (104 : Int32) (101 : Int32) (115 : Int32) (116 : Int32) (0 : Int32) = some (lN 3413620, N) := rfl
  unfold F_X12_isChest
  rw [s, bindS, m_wd h (k := 4) [99, 104, 101, 115, 116] rfl (lN 3413620) rfl, bindS]
  rfl
theorem m_isRight (h : TR A N t n j e c) : F_X12_isRight w N = some (decide (c = 5), N) := by
  have s : F_X12_spelled w N (114 : Int32) (105 : Int32) (103 : Int32) (104 : Int32) (116 : Int32) (0 : Int32) = some (lN 19176724, N) := rfl
  unfold F_X12_isRight
  rw [s, bindS, m_wd h (k := 5) [114, 105, 103, 104, 116] rfl (lN 19176724) rfl, bindS]
  rfl
theorem m_isWorth (h : TR A N t n j e c) : F_X12_isWorth w N = some (decide (c = 6), N) := by
  have s : F_X12_spelled w N (119 : Int32) (111 : Int32) (114 : Int32) (116 : Int32) (104 : Int32) (0 : Int32) = some (lN 24627848, N) := rfl
  unfold F_X12_isWorth
  rw [s, bindS, m_wd h (k := 6) [119, 111, 114, 116, 104] rfl (lN 24627848) rfl, bindS]
  rfl
theorem m_isInWord (h : TR A N t n j e c) : F_X12_isInWord w N = some (decide (c = 7), N) := by
  have s : F_X12_spelled w N (105 : Int32) (110 : Int32) (0 : Int32) (0 : Int32) (0 : Int32) (0 : Int32) = some (lN 302, N) := rfl
  unfold F_X12_isInWord
  rw [s, bindS, m_wd h (k := 7) [105, 110] rfl (lN 302) rfl, bindS]
  rfl
theorem m_isDebt (h : TR A N t n j e c) : F_X12_isDebt w N = some (decide (c = 8), N) := by
  have s : F_X12_spelled w N (100 : Int32) (101 : Int32) (98 : Int32) (116 : Int32) (0 : Int32) (0 : Int32) = some (lN 136276, N) := rfl
  unfold F_X12_isDebt
  rw [s, bindS, m_wd h (k := 8) [100, 101, 98, 116] rfl (lN 136276) rfl, bindS]
  rfl
theorem m_isSum (h : TR A N t n j e c) : F_X12_isSum w N = some (decide (c = 9), N) := by
  have s : F_X12_spelled w N (115 : Int32) (117 : Int32) (109 : Int32) (0 : Int32) (0 : Int32) (0 : Int32) = some (lN 20141, N) := rfl
  unfold F_X12_isSum
  rw [s, bindS, m_wd h (k := 9) [115, 117, 109] rfl (lN 20141) rfl, bindS]
  rfl
theorem m_isLeft (h : TR A N t n j e c) : F_X12_isLeft w N = some (decide (c = 10), N) := by
  have s : F_X12_spelled w N (108 : Int32) (101 : Int32) (102 : Int32) (116 : Int32) (0 : Int32) (0 : Int32) = some (lN 398548, N) := rfl
  unfold F_X12_isLeft
  rw [s, bindS, m_wd h (k := 10) [108, 101, 102, 116] rfl (lN 398548) rfl, bindS]
  rfl
theorem m_isAsk (h : TR A N t n j e c) : F_X12_isAsk w N = some (decide (c = 11), N) := by
  have s : F_X12_spelled w N (97 : Int32) (115 : Int32) (107 : Int32) (0 : Int32) (0 : Int32) (0 : Int32) = some (lN 1643, N) := rfl
  unfold F_X12_isAsk
  rw [s, bindS, m_wd h (k := 11) [97, 115, 107] rfl (lN 1643) rfl, bindS]
  rfl
theorem m_isClause (h : TR A N t n j e c) : F_X12_isClause w N = some (decide (c = 12), N) := by
  have s : F_X12_spelled w N (99 : Int32) (108 : Int32) (97 : Int32) (117 : Int32) (115 : Int32) (101 : Int32) = some (lN 113301093, N) := rfl
  unfold F_X12_isClause
  rw [s, bindS, m_wd h (k := 12) [99, 108, 97, 117, 115, 101] rfl (lN 113301093) rfl, bindS]
  rfl
theorem m_isNot (h : TR A N t n j e c) : F_X12_isNot w N = some (decide (c = 13), N) := by
  have s : F_X12_spelled w N (110 : Int32) (111 : Int32) (116 : Int32) (0 : Int32) (0 : Int32) (0 : Int32) = some (lN 14836, N) := rfl
  unfold F_X12_isNot
  rw [s, bindS, m_wd h (k := 13) [110, 111, 116] rfl (lN 14836) rfl, bindS]
  rfl
theorem m_isEnd (h : TR A N t n j e c) : F_X12_isEnd w N = some (decide (c = 28), N) := by
  have s : F_X12_spelled w N (101 : Int32) (110 : Int32) (100 : Int32) (0 : Int32) (0 : Int32) (0 : Int32) = some (lN 5572, N) := rfl
  unfold F_X12_isEnd
  rw [s, bindS, m_wd h (k := 28) [101, 110, 100] rfl (lN 5572) rfl, bindS]
  rfl
theorem m_isWitness (h : TR A N t n j e c) : F_X12_isWitness w N = some (decide (c = 14), N) := by
  have s : F_X12_spelled w N (119 : Int32) (105 : Int32) (116 : Int32) (110 : Int32) (101 : Int32) (115 : Int32) = some (lN 781858995, N) := rfl
  unfold F_X12_isWitness
  rw [s, bindS, m_wd h (k := 14) [119, 105, 116, 110, 101, 115, 115] rfl _ (show ((lN 781858995 * 32) + 115) - 96 = lN (cd [119, 105, 116, 110, 101, 115, 115]) from rfl), bindS]
  rfl
theorem m_sideWord (h : TR A N t n j e c) : F_X12_sideWord w N = some (if c = 15 then 0 else if c = 16 then 1 else -1, N) := by
  unfold F_X12_sideWord
  have s15 : F_X12_spelled w N (101 : Int32) (97 : Int32) (115 : Int32) (116 : Int32) (0 : Int32) (0 : Int32) = some (lN 165492, N) := rfl
  have w15 : F_X12_isWord w N (lN 165492) = some (decide (c = 15), N) := m_wd h (k := 15) [101, 97, 115, 116] rfl (lN 165492) rfl
  rw [s15, bindS, w15, bindS]
  dsimp only
  by_cases g15 : c = 15
  · rw [if_pos (decide_eq_true g15), if_pos g15]
  · rw [if_neg (by rw [decide_eq_true_iff]; exact g15), if_neg g15]
    have s16 : F_X12_spelled w N (119 : Int32) (101 : Int32) (115 : Int32) (116 : Int32) (0 : Int32) (0 : Int32) = some (lN 759412, N) := rfl
    have w16 : F_X12_isWord w N (lN 759412) = some (decide (c = 16), N) := m_wd h (k := 16) [119, 101, 115, 116] rfl (lN 759412) rfl
    rw [s16, bindS, w16, bindS]
    dsimp only
    by_cases g16 : c = 16
    · rw [if_pos (decide_eq_true g16), if_pos g16]
    · rw [if_neg (by rw [decide_eq_true_iff]; exact g16), if_neg g16]
theorem m_kindWord (h : TR A N t n j e c) : F_X12_kindWord w N = some (if c = 17 then 0 else if c = 18 then 1 else if c = 19 then 2 else -1, N) := by
  unfold F_X12_kindWord
  have s17 : F_X12_spelled w N (104 : Int32) (101 : Int32) (114 : Int32) (101 : Int32) (0 : Int32) (0 : Int32) = some (lN 267845, N) := rfl
  have w17 : F_X12_isWord w N (lN 267845) = some (decide (c = 17), N) := m_wd h (k := 17) [104, 101, 114, 101] rfl (lN 267845) rfl
  rw [s17, bindS, w17, bindS]
  dsimp only
  by_cases g17 : c = 17
  · rw [if_pos (decide_eq_true g17), if_pos g17]
  · rw [if_neg (by rw [decide_eq_true_iff]; exact g17), if_neg g17]
    have s18 : F_X12_spelled w N (97 : Int32) (119 : Int32) (97 : Int32) (121 : Int32) (0 : Int32) (0 : Int32) = some (lN 56377, N) := rfl
    have w18 : F_X12_isWord w N (lN 56377) = some (decide (c = 18), N) := m_wd h (k := 18) [97, 119, 97, 121] rfl (lN 56377) rfl
    rw [s18, bindS, w18, bindS]
    dsimp only
    by_cases g18 : c = 18
    · rw [if_pos (decide_eq_true g18), if_pos g18]
    · rw [if_neg (by rw [decide_eq_true_iff]; exact g18), if_neg g18]
      have s19 : F_X12_spelled w N (108 : Int32) (97 : Int32) (116 : Int32) (101 : Int32) (0 : Int32) (0 : Int32) = some (lN 394885, N) := rfl
      have w19 : F_X12_isWord w N (lN 394885) = some (decide (c = 19), N) := m_wd h (k := 19) [108, 97, 116, 101] rfl (lN 394885) rfl
      rw [s19, bindS, w19, bindS]
      dsimp only
      by_cases g19 : c = 19
      · rw [if_pos (decide_eq_true g19), if_pos g19]
      · rw [if_neg (by rw [decide_eq_true_iff]; exact g19), if_neg g19]
theorem m_stepWord (h : TR A N t n j e c) : F_X12_stepWord w N = some (if c = 20 then 0 else if c = 21 then 1 else if c = 22 then 2 else if c = 23 then 3 else if c = 24 then 4 else if c = 25 then 5 else if c = 27 then 6 else if c = 29 then 7 else -1, N) := by
  unfold F_X12_stepWord
  have s20 : F_X12_spelled w N (109 : Int32) (111 : Int32) (110 : Int32) (116 : Int32) (104 : Int32) (0 : Int32) = some (lN 14137992, N) := rfl
  have w20 : F_X12_isWord w N (lN 14137992) = some (decide (c = 20), N) := m_wd h (k := 20) [109, 111, 110, 116, 104] rfl (lN 14137992) rfl
  rw [s20, bindS, w20, bindS]
  dsimp only
  by_cases g20 : c = 20
  · rw [if_pos (decide_eq_true g20), if_pos g20]
  · rw [if_neg (by rw [decide_eq_true_iff]; exact g20), if_neg g20]
    have s21 : F_X12_spelled w N (99 : Int32) (97 : Int32) (114 : Int32) (114 : Int32) (121 : Int32) (0 : Int32) = some (lN 3197529, N) := rfl
    have w21 : F_X12_isWord w N (lN 3197529) = some (decide (c = 21), N) := m_wd h (k := 21) [99, 97, 114, 114, 121] rfl (lN 3197529) rfl
    rw [s21, bindS, w21, bindS]
    dsimp only
    by_cases g21 : c = 21
    · rw [if_pos (decide_eq_true g21), if_pos g21]
    · rw [if_neg (by rw [decide_eq_true_iff]; exact g21), if_neg g21]
      have s22 : F_X12_spelled w N (115 : Int32) (119 : Int32) (101 : Int32) (97 : Int32) (114 : Int32) (0 : Int32) = some (lN 20681778, N) := rfl
      have w22 : F_X12_isWord w N (lN 20681778) = some (decide (c = 22), N) := m_wd h (k := 22) [115, 119, 101, 97, 114] rfl (lN 20681778) rfl
      rw [s22, bindS, w22, bindS]
      dsimp only
      by_cases g22 : c = 22
      · rw [if_pos (decide_eq_true g22), if_pos g22]
      · rw [if_neg (by rw [decide_eq_true_iff]; exact g22), if_neg g22]
        have s23 : F_X12_spelled w N (112 : Int32) (97 : Int32) (121 : Int32) (0 : Int32) (0 : Int32) (0 : Int32) = some (lN 16441, N) := rfl
        have w23 : F_X12_isWord w N (lN 16441) = some (decide (c = 23), N) := m_wd h (k := 23) [112, 97, 121] rfl (lN 16441) rfl
        rw [s23, bindS, w23, bindS]
        dsimp only
        by_cases g23 : c = 23
        · rw [if_pos (decide_eq_true g23), if_pos g23]
        · rw [if_neg (by rw [decide_eq_true_iff]; exact g23), if_neg g23]
          have s24 : F_X12_spelled w N (97 : Int32) (110 : Int32) (121 : Int32) (0 : Int32) (0 : Int32) (0 : Int32) = some (lN 1497, N) := rfl
          have w24 : F_X12_isWord w N (lN 1497) = some (decide (c = 24), N) := m_wd h (k := 24) [97, 110, 121] rfl (lN 1497) rfl
          rw [s24, bindS, w24, bindS]
          dsimp only
          by_cases g24 : c = 24
          · rw [if_pos (decide_eq_true g24), if_pos g24]
          · rw [if_neg (by rw [decide_eq_true_iff]; exact g24), if_neg g24]
            have s25 : F_X12_spelled w N (119 : Int32) (104 : Int32) (101 : Int32) (110 : Int32) (0 : Int32) (0 : Int32) = some (lN 762030, N) := rfl
            have w25 : F_X12_isWord w N (lN 762030) = some (decide (c = 25), N) := m_wd h (k := 25) [119, 104, 101, 110] rfl (lN 762030) rfl
            rw [s25, bindS, w25, bindS]
            dsimp only
            by_cases g25 : c = 25
            · rw [if_pos (decide_eq_true g25), if_pos g25]
            · rw [if_neg (by rw [decide_eq_true_iff]; exact g25), if_neg g25]
              have s27 : F_X12_spelled w N (108 : Int32) (111 : Int32) (111 : Int32) (112 : Int32) (0 : Int32) (0 : Int32) = some (lN 409072, N) := rfl
              have w27 : F_X12_isWord w N (lN 409072) = some (decide (c = 27), N) := m_wd h (k := 27) [108, 111, 111, 112] rfl (lN 409072) rfl
              rw [s27, bindS, w27, bindS]
              dsimp only
              by_cases g27 : c = 27
              · rw [if_pos (decide_eq_true g27), if_pos g27]
              · rw [if_neg (by rw [decide_eq_true_iff]; exact g27), if_neg g27]
                have s29 : F_X12_spelled w N (115 : Int32) (116 : Int32) (111 : Int32) (112 : Int32) (0 : Int32) (0 : Int32) = some (lN 643568, N) := rfl
                have w29 : F_X12_isWord w N (lN 643568) = some (decide (c = 29), N) := m_wd h (k := 29) [115, 116, 111, 112] rfl (lN 643568) rfl
                rw [s29, bindS, w29, bindS]
                dsimp only
                by_cases g29 : c = 29
                · rw [if_pos (decide_eq_true g29), if_pos g29]
                · rw [if_neg (by rw [decide_eq_true_iff]; exact g29), if_neg g29]
theorem m_testWord (h : TR A N t n j e c) : F_X12_testWord w N = some (if c = 3 then 0 else if c = 4 then 1 else if c = 26 then 2 else -1, N) := by
  unfold F_X12_testWord
  rw [m_isLies h, bindS]
  dsimp only
  by_cases g3 : c = 3
  · rw [if_pos (decide_eq_true g3), if_pos g3]
  · rw [if_neg (by rw [decide_eq_true_iff]; exact g3), if_neg g3, m_isChest h, bindS]
    dsimp only
    by_cases g4 : c = 4
    · rw [if_pos (decide_eq_true g4), if_pos g4]
    · rw [if_neg (by rw [decide_eq_true_iff]; exact g4), if_neg g4]
      have s : F_X12_spelled w N (111 : Int32) (119 : Int32) (101 : Int32) (115 : Int32) (0 : Int32) (0 : Int32) = some (lN 515251, N) := rfl
      have w26 : F_X12_isWord w N (lN 515251) = some (decide (c = 26), N) := m_wd h (k := 26) [111, 119, 101, 115] rfl (lN 515251) rfl
      rw [s, bindS, w26, bindS]
      dsimp only
      by_cases g5 : c = 26
      · rw [if_pos (decide_eq_true g5), if_pos g5]
      · rw [if_neg (by rw [decide_eq_true_iff]; exact g5), if_neg g5]
theorem m_isKept (h : TR A N t n j e c) : F_X12_isKept w N = some (decide (c < 30), N) := by
  obtain ⟨k, hk, hc⟩ := TR_k h
  have h39 : k = 0 ∨ k = 1 ∨ k = 2 ∨ k = 3 ∨ k = 4 ∨ k = 5 ∨ k = 6 ∨ k = 7 ∨ k = 8 ∨ k = 9 ∨ k = 10 ∨ k = 11 ∨ k = 12 ∨ k = 13 ∨ k = 14 ∨ k = 15 ∨ k = 16 ∨ k = 17 ∨ k = 18 ∨ k = 19 ∨ k = 20 ∨ k = 21 ∨ k = 22 ∨ k = 23 ∨ k = 24 ∨ k = 25 ∨ k = 26 ∨ k = 27 ∨ k = 28 ∨ k = 29 ∨ k = 30 ∨ k = 31 ∨ k = 32 ∨ k = 33 ∨ k = 34 ∨ k = 35 ∨ k = 36 ∨ k = 37 ∨ k = 38 := by omega
  unfold F_X12_isKept
  rcases h39 with g | g | g | g | g | g | g | g | g | g | g | g | g | g | g | g | g | g | g | g | g | g | g | g | g | g | g | g | g | g | g | g | g | g | g | g | g | g | g
  all_goals (subst g; subst hc; simp (decide := true) only [m_isOdds h, m_isToll h, m_isWar h, m_isRight h, m_isWorth h, m_isInWord h, m_isDebt h, m_isSum h, m_isLeft h, m_isAsk h, m_isClause h, m_isNot h, m_isWitness h, m_isEnd h, m_sideWord h, m_kindWord h, m_stepWord h, m_testWord h, bindS, ↓reduceIte]; rfl)
theorem m_isName (hn : n ≤ 60000) (h : TR A N t n j e c) : F_X12_isName w N = some (decide (c = 30), N) := by
  have kp := m_isKept (w := w) h
  obtain ⟨_, h1, h0, _, h⟩ := h
  unfold F_X12_isName
  rcases h with ⟨h, h2, _⟩ | ⟨h, h2, h3, h4, h5, h6⟩ | ⟨h, h2, _⟩ | ⟨h2, _, h⟩ | ⟨h, h2, _⟩
  · rw [h2, if_neg (by decide), h]; rfl
  · rw [h2, if_pos rfl, h5]
    by_cases g : e - j ≤ 8
    · rw [if_neg (show ¬ (8 : Int32) < nI (e - j) from Int32.not_lt.mpr (nI_le (b := 8) (by omega) (by omega))), kp, bindS]
      rw [h]
      unfold c_wd
      cases q : wn (l_tok t j (e - j)) k_ws 0 with
      | none =>
        dsimp only
        rw [if_pos g]
        rfl
      | some i =>
        obtain ⟨_, q2⟩ := wn_some k_ws 0 i q
        rw [Nat.sub_zero] at q2
        have i30 : i < 30 := by
          rcases Nat.lt_or_ge i k_ws.length with g | g
          · rw [ws_len] at g; exact g
          · rw [List.getElem?_eq_none g] at q2; cases q2
        dsimp only
        have a1 : nI i < (30 : Int32) := nI_lt (b := 30) i30 (by omega)
        have a2 : ¬ nI i = (30 : Int32) := fun x => by have := (nI_eq (b := 30) (by omega) (by omega)).mp x; omega
        rw [if_pos (decide_eq_true a1), decide_eq_false a2]
    · rw [if_pos (show (8 : Int32) < nI (e - j) from nI_lt (a := 8) (by omega) (by omega)), h]
      unfold c_wd
      cases q : wn (l_tok t j (e - j)) k_ws 0 with
      | none =>
        dsimp only
        rw [if_neg g]
        rfl
      | some i =>
        exfalso
        obtain ⟨_, q2⟩ := wn_some k_ws 0 i q
        have := ws_sh _ (List.mem_of_getElem? q2)
        rw [tok_len] at this
        omega
  · rw [h2, if_neg (by decide), h]; rfl
  · rw [h2, if_neg (by decide)]
    rcases h with ⟨h, _⟩ | ⟨h, _⟩ | ⟨h, _⟩ | ⟨h, _⟩ <;> rw [h] <;> rfl
  · rw [h2, if_neg (by decide), h]; rfl
theorem TR_w (h : TR A N t n j e c) (h14 : N.1 137 14 = 1) : c < 32 := by
  obtain ⟨_, h1, h0, _, h⟩ := h
  rcases h with ⟨h, h2, _⟩ | ⟨h, h2, h3, h4, h5, h6⟩ | ⟨h, h2, _⟩ | ⟨h2, _, h⟩ | ⟨h, h2, _⟩
  · rw [h2] at h14; exact absurd h14 (by decide)
  · rw [h]
    unfold c_wd
    cases q : wn (l_tok t j (e - j)) k_ws 0 with
    | none => dsimp only; split <;> decide
    | some i =>
      obtain ⟨_, q2⟩ := wn_some k_ws 0 i q
      rw [Nat.sub_zero] at q2
      have i30 : i < 30 := by
        rcases Nat.lt_or_ge i k_ws.length with g | g
        · rw [ws_len] at g; exact g
        · rw [List.getElem?_eq_none g] at q2; cases q2
      exact nI_lt (b := 32) (by omega) (by omega)
  · rw [h2] at h14; exact absurd h14 (by decide)
  · rw [h2] at h14; exact absurd h14 (by decide)
  · rw [h2] at h14; exact absurd h14 (by decide)
theorem m_sign (h : TR A N t n j e c) (s d : Int32) (hs : (s = 59 ∧ d = 33) ∨ (s = 60 ∧ d = 34) ∨ (s = 61 ∧ d = 36) ∨ (s = 62 ∧ d = 35)) : F_X12_isSign w N s = some (decide (c = d), N) := by
  have tw := TR_w h
  obtain ⟨_, h1, h0, _, h⟩ := h
  unfold F_X12_isSign
  rcases h with ⟨h, h2, _⟩ | ⟨h, h2, h3, h4, h5, h6⟩ | ⟨h, h2, _⟩ | ⟨h2, _, h⟩ | ⟨h, h2, _⟩
  · rw [h2, if_neg (by decide), h]
    rcases hs with ⟨_, x⟩ | ⟨_, x⟩ | ⟨_, x⟩ | ⟨_, x⟩ <;> rw [x] <;> rfl
  · have b := tw h2
    rw [h2, if_neg (by decide), decide_eq_false]
    intro x
    rw [x] at b
    rcases hs with ⟨_, x⟩ | ⟨_, x⟩ | ⟨_, x⟩ | ⟨_, x⟩ <;> rw [x] at b <;> exact absurd b (by decide)
  · rw [h2, if_neg (by decide), h]
    rcases hs with ⟨_, x⟩ | ⟨_, x⟩ | ⟨_, x⟩ | ⟨_, x⟩ <;> rw [x] <;> rfl
  · rw [h2, if_pos rfl]
    rcases h with ⟨h, g⟩ | ⟨h, g⟩ | ⟨h, g⟩ | ⟨h, g⟩ <;> rcases hs with ⟨y, x⟩ | ⟨y, x⟩ | ⟨y, x⟩ | ⟨y, x⟩ <;> rw [g, h, x, y] <;> rfl
  · rw [h2, if_neg (by decide), h]
    rcases hs with ⟨_, x⟩ | ⟨_, x⟩ | ⟨_, x⟩ | ⟨_, x⟩ <;> rw [x] <;> rfl
/-- a number stands where both see one -/
theorem TR_n (h : TR A N t n j e c) : (N.1 137 14 = 2 ↔ c = 32) := by
  have tw := TR_w h
  obtain ⟨_, h1, h0, _, h⟩ := h
  rcases h with ⟨h, h2, _⟩ | ⟨h, h2, h3, h4, h5, h6⟩ | ⟨h, h2, _⟩ | ⟨h2, _, h⟩ | ⟨h, h2, _⟩
  · rw [h2, h]; decide
  · have b := tw h2
    rw [h2]
    refine ⟨fun x => absurd x (by decide), fun x => ?_⟩
    rw [x] at b
    exact absurd b (by decide)
  · rw [h2, h]; decide
  · rw [h2]
    rcases h with ⟨h, _⟩ | ⟨h, _⟩ | ⟨h, _⟩ | ⟨h, _⟩ <;> rw [h] <;> decide
  · rw [h2, h]; decide
end
