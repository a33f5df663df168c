/-! ===== bytes and tokens ===== -/
def by_c (k : Nat) : Int32 := (nI k).toInt8.toInt32
theorem by_of {b : Int32} (h : b.toInt8.toInt32 = b) : ∃ k, k < 256 ∧ b = by_c k ∧ b &&& 255 = nI k := by
  obtain ⟨k, hk, e⟩ := pk_andE b (m := 255) 8 (by decide)
  refine ⟨k, hk, ?_, e⟩
  unfold by_c
  rw [← e, Int32.toInt8_and, show Int32.toInt8 255 = -1 from by decide, Int8.and_neg_one, h]
theorem by_b : ∀ k, k < 256 → (decide (by_c k = 32) == decide (k = 32) && decide (by_c k = 10) == decide (k = 10) && decide (by_c k < 97) == (decide (k < 97) || decide (128 ≤ k)) && decide ((122 : Int32) < by_c k) == (decide (122 < k) && decide (k < 128)) && decide (by_c k < 48) == (decide (k < 48) || decide (128 ≤ k)) && decide ((57 : Int32) < by_c k) == (decide (57 < k) && decide (k < 128)) && decide (by_c k = 59) == decide (k = 59) && decide (by_c k = 60) == decide (k = 60) && decide (by_c k = 61) == decide (k = 61) && decide (by_c k = 62) == decide (k = 62) && (!decide (k < 128) || decide (by_c k = nI k))) = true := by decide +kernel
theorem by_v {k : Nat} (h : k < 256) : (by_c k = 32 ↔ k = 32) ∧ (by_c k = 10 ↔ k = 10) ∧ (by_c k < 97 ↔ (k < 97 ∨ 128 ≤ k)) ∧ ((122 : Int32) < by_c k ↔ (122 < k ∧ k < 128)) ∧ (by_c k < 48 ↔ (k < 48 ∨ 128 ≤ k)) ∧ ((57 : Int32) < by_c k ↔ (57 < k ∧ k < 128)) ∧ (by_c k = 59 ↔ k = 59) ∧ (by_c k = 60 ↔ k = 60) ∧ (by_c k = 61 ↔ k = 61) ∧ (by_c k = 62 ↔ k = 62) ∧ (k < 128 → by_c k = nI k) := by
  have := by_b k h
  simp only [Bool.and_eq_true, beq_iff_eq, decide_eq_decide, Bool.or_eq_true, Bool.not_eq_true', decide_eq_false_iff_not, decide_eq_true_eq, ← Bool.decide_or, ← Bool.decide_and] at this
  obtain ⟨⟨⟨⟨⟨⟨⟨⟨⟨⟨a1, a2⟩, a3⟩, a4⟩, a5⟩, a6⟩, a7⟩, a8⟩, a9⟩, a10⟩, a11⟩ := this
  exact ⟨a1, a2, a3, a4, a5, a6, a7, a8, a9, a10, fun g => a11.resolve_left (fun x => x g)⟩
theorem wI_self {M : z_Mem} {a k : Nat} {v : Int32} (h : M.1 a k = v) : z_wI M a k v = M := by
  refine Prod.ext ?_ rfl
  funext b j
  rw [wI_rd]
  by_cases e : b = a ∧ j = k
  · rw [if_pos e, e.1, e.2, h]
  · rw [if_neg e]
/-- a text: its bytes, how many; the class's tape (A), the reference's (N) -/
def Txc (A : z_Mem) (t : Nat → Nat) (n : Nat) : Prop := n ≤ 900 ∧ (∀ k, t k < 256) ∧ A.1 5 2 = nI n ∧ ∀ k, k < 900 → A.1 6 k = by_c (t k)
def Txm (N : z_Mem) (t : Nat → Nat) (n : Nat) : Prop := n ≤ 900 ∧ (∀ k, t k < 256) ∧ N.1 137 9 = nI n ∧ ∀ k, k < 900 → N.1 141 k &&& 255 = nI (t k)
def isB (x : Nat) : Prop := x = 32 ∨ x = 10
/-- where a run of such bytes ends -/
theorem run_to (q : Nat → Prop) (n : Nat) : ∀ d i, i + d = n → ∃ j, i ≤ j ∧ j ≤ n ∧ (∀ k, i ≤ k → k < j → q k) ∧ (j = n ∨ ¬ q j) := by
  intro d
  induction d with
  | zero => intro i h; exact ⟨i, Nat.le_refl i, by omega, fun k h1 h2 => by omega, Or.inl (by omega)⟩
  | succ d ih =>
    intro i h
    by_cases g : q i
    · obtain ⟨j, h1, h2, h3, h4⟩ := ih (i + 1) (by omega)
      refine ⟨j, by omega, h2, fun k h5 h6 => ?_, h4⟩
      by_cases e : k = i
      · rw [e]; exact g
      · exact h3 k (by omega) h6
    · exact ⟨i, Nat.le_refl i, by omega, fun k h1 h2 => by omega, Or.inr g⟩
def isL (x : Nat) : Prop := 97 ≤ x ∧ x ≤ 122
def isD (x : Nat) : Prop := 48 ≤ x ∧ x ≤ 57
def dv (t : Nat → Nat) (s : Nat) : Nat → Nat
  | 0 => 0
  | k + 1 => dv t s k * 10 + (t (s + k) - 48)
def wv (t : Nat → Nat) (s : Nat) : Nat → Nat
  | 0 => 0
  | k + 1 => wv t s k * 32 + (t (s + k) - 96)
theorem dv_lt {t : Nat → Nat} {s : Nat} : ∀ k, (∀ i, i < k → isD (t (s + i))) → dv t s k < 10 ^ k := by
  intro k
  induction k with
  | zero => intro _; exact Nat.one_pos
  | succ k ih =>
    intro h
    have h1 := ih (fun i hi => h i (by omega))
    have h2 := h k (by omega)
    unfold isD at h2
    rw [dv, Nat.pow_succ]
    omega
section
variable {w : Nat}
/-- the class, at a token's first byte -/
def tlC (w : Nat) (M : z_Mem) (x1 : Int32) : Option (Unit × z_Mem) :=
    if x1 < (M.1 5 2) then
    (F_X7_isBetween w (z_wI (z_wI M 5 4 x1) 5 5 x1) x1 (97 : Int32) (122 : Int32)).bind fun q27 =>
    if q27.1 = true then
    (F_X7_goBehind w q27.2 (97 : Int32) (122 : Int32)).bind fun q42 =>
    (F_X7_wordNumber w q42.2).bind fun q44 =>
    some ((), (z_wI q44.2 5 3 q44.1))
    else
    (F_X7_isBetween w q27.2 x1 (48 : Int32) (57 : Int32)).bind fun q30 =>
    if q30.1 = true then
    (F_X7_goBehind w q30.2 (48 : Int32) (57 : Int32)).bind fun q35 =>
    if ((q35.2.1 5 5) - (q35.2.1 5 4)) ≤ (4 : Int32) then
    (F_X7_digitsRead w (z_wI q35.2 5 3 (32 : Int32))).bind fun q39 =>
    some ((), (z_wI q39.2 5 6 q39.1))
    else
    some ((), (z_wI (z_wI q35.2 5 3 (37 : Int32)) 5 6 (0 : Int32)))
    else
    (F_X7_signAt w (z_wI q30.2 5 5 (x1 + (1 : Int32))) x1).bind fun q33 =>
    some ((), (z_wI q33.2 5 3 q33.1))
    else
    some ((), (z_wI (z_wI (z_wI M 5 4 x1) 5 5 x1) 5 3 (38 : Int32)))
theorem c_skip {A : z_Mem} {t : Nat → Nat} {n j : Nat} (h : Txc A t n) (hj : j ≤ n) (hs : j = n ∨ ¬ isB (t j)) : ∀ d i c, i + d = j → (∀ k, i ≤ k → k < j → isB (t k)) → L_X7_advance w (c + d + 1) A (nI i) = tlC w A (nI j) := by
  obtain ⟨h1, h2, h3, h4⟩ := h
  intro d
  induction d with
  | zero =>
    intro i c hi _
    obtain rfl : i = j := by omega
    rw [L_X7_advance, h3]
    unfold tlC
    rw [h3]
    rcases hs with e | e
    · subst e
      rw [if_pos (nI_le (Nat.le_refl _) (by omega))]
    · by_cases g : i = n
      · subst g
        rw [if_pos (nI_le (Nat.le_refl _) (by omega))]
      · have v := by_v (h2 i)
        rw [if_neg (nI_ge (by omega) (by omega)), if_neg (n_in (by omega) (by omega)), nI_clamp (by omega), h4 i (by omega), if_neg (fun x => e (Or.inl (v.1.mp x)))]
        have hin : ¬ (nI i < 0 ∨ 900 ≤ i) := fun g => g.elim (nI_pos (by omega)) (fun y => by omega)
        rw [if_neg hin, if_neg (fun x => e (Or.inr (v.2.1.mp x)))]
  | succ d ih =>
    intro i c hi hb
    have v := by_v (h2 i)
    have hin : ¬ (nI i < 0 ∨ 900 ≤ i) := fun g => g.elim (nI_pos (by omega)) (fun y => by omega)
    have r := ih (i + 1) c (by omega) (fun k a b => hb k (by omega) b)
    rw [show c + (d + 1) + 1 = (c + d + 1) + 1 by omega, L_X7_advance, h3, if_neg (nI_ge (by omega) (by omega)), if_neg (n_in (by omega) (by omega)), nI_clamp (by omega), h4 i (by omega), nI_11]
    rcases hb i (Nat.le_refl i) (by omega) with e | e
    · rw [if_pos (v.1.mpr e)]
      exact r
    · rw [if_neg (fun x => by have := v.1.mp x; omega), if_neg hin, if_pos (v.2.1.mpr e)]
      exact r
theorem f_btw {A : z_Mem} {t : Nat → Nat} {n : Nat} (h : Txc A t n) {i : Nat} (hi : i < 900) : F_X7_isBetween w A (nI i) 97 122 = some (decide (97 ≤ t i ∧ t i ≤ 122), A) ∧ F_X7_isBetween w A (nI i) 48 57 = some (decide (48 ≤ t i ∧ t i ≤ 57), A) := by
  obtain ⟨h1, h2, h3, h4⟩ := h
  obtain ⟨_, _, v3, v4, v5, v6, _⟩ := by_v (h2 i)
  have hin : ¬ (nI i < 0 ∨ 900 ≤ i) := fun g => g.elim (nI_pos (by omega)) (fun y => by omega)
  constructor
  · unfold F_X7_isBetween
    rw [if_neg (n_in (by omega) (by omega)), nI_clamp (by omega), h4 i hi]
    by_cases g1 : by_c (t i) < 97
    · rw [if_pos g1, decide_eq_false (by have := v3.mp g1; omega)]
    · rw [if_neg g1, if_neg hin]
      by_cases g2 : (122 : Int32) < by_c (t i)
      · rw [if_pos g2, decide_eq_false (by have := v4.mp g2; omega)]
      · rw [if_neg g2, decide_eq_true (by have a := mt v3.mpr g1; have b := mt v4.mpr g2; omega)]
  · unfold F_X7_isBetween
    rw [if_neg (n_in (by omega) (by omega)), nI_clamp (by omega), h4 i hi]
    by_cases g1 : by_c (t i) < 48
    · rw [if_pos g1, decide_eq_false (by have := v5.mp g1; omega)]
    · rw [if_neg g1, if_neg hin]
      by_cases g2 : (57 : Int32) < by_c (t i)
      · rw [if_pos g2, decide_eq_false (by have := v6.mp g2; omega)]
      · rw [if_neg g2, decide_eq_true (by have a := mt v5.mpr g1; have b := mt v6.mpr g2; omega)]
theorem Txc_of {A B : z_Mem} {t : Nat → Nat} {n : Nat} (h : Txc A t n) (h6 : B.1 6 = A.1 6) (h5 : B.1 5 2 = A.1 5 2) : Txc B t n := by
  obtain ⟨a, b, c, d⟩ := h
  exact ⟨a, b, by rw [h5]; exact c, by rw [h6]; exact d⟩
theorem c_go {t : Nat → Nat} {n e : Nat} (he : e ≤ n) (lo hi : Int32) (q : Nat → Prop) [DecidablePred q] (hq : ∀ (B : z_Mem), Txc B t n → ∀ i, i < 900 → F_X7_isBetween w B (nI i) lo hi = some (decide (q (t i)), B)) (hs : e = n ∨ ¬ q (t e)) : ∀ d i c (A : z_Mem), Txc A t n → i + d = e → (∀ k, i ≤ k → k < e → q (t k)) → A.1 5 5 = nI i → L_X7_goBehind w (c + d + 1) A lo hi = some ((), z_wI A 5 5 (nI e)) := by
  intro d
  induction d with
  | zero =>
    intro i c A h hi _ h5
    obtain rfl : i = e := by omega
    have h9 := h.1
    rw [L_X7_goBehind, h.2.2.1, h5, wI_self h5]
    rcases hs with g | g
    · rw [if_pos (nI_le (by omega) (by omega))]
    · by_cases g2 : i = n
      · rw [if_pos (nI_le (by omega) (by omega))]
      · rw [if_neg (nI_ge (by omega) (by omega)), hq A h i (by omega), bindS, if_neg (by rw [decide_eq_true_iff]; exact g)]
  | succ d ih =>
    intro i c A h hi hb h5
    have h9 := h.1
    rw [show c + (d + 1) + 1 = (c + d + 1) + 1 by omega, L_X7_goBehind, h.2.2.1, h5, if_neg (nI_ge (by omega) (by omega)), hq A h i (by omega), bindS, if_pos (decide_eq_true (hb i (Nat.le_refl i) (by omega))), h5, nI_11, ih (i + 1) c (z_wI A 5 5 (nI (i + 1))) (Txc_of h (wI_row (by omega)) (wI_slot (by omega))) (by omega) (fun k a b => hb k (by omega) b) wI_same, wI_wI]
theorem c_dig {A : z_Mem} {t : Nat → Nat} {n j e : Nat} (h : Txc A t n) (he : e ≤ n) (h5 : A.1 5 5 = nI e) (hl : e - j ≤ 4) (hd : ∀ k, j ≤ k → k < e → isD (t k)) : ∀ d k c, j + k + d = e → L_X7_digitsRead w (c + d + 1) A (nI (dv t j k)) (nI (j + k)) = some (nI (dv t j (e - j)), A) := by
  have h9 := h.1
  intro d
  induction d with
  | zero =>
    intro k c hk
    rw [L_X7_digitsRead, h5, if_pos (nI_le (by omega) (by omega)), show e - j = k by omega]
  | succ d ih =>
    intro k c hk
    have q := hd (j + k) (by omega) (by omega)
    unfold isD at q
    have v := (by_v (h.2.1 (j + k))).2.2.2.2.2.2.2.2.2.2 (by omega)
    have e1 : nI (dv t j k) * 10 + (nI (t (j + k)) - 48) = nI (dv t j (k + 1)) := by
      rw [show (10 : Int32) = nI 10 from rfl, show (48 : Int32) = nI 48 from rfl, g_nmul, pk_sub (by omega), nI_add]
      rfl
    rw [show c + (d + 1) + 1 = (c + d + 1) + 1 by omega, L_X7_digitsRead, h5, if_neg (nI_ge (by omega) (by omega)), if_neg (n_in (by omega) (by omega)), nI_clamp (by omega), h.2.2.2 _ (by omega), v, e1, nI_11]
    exact ih (k + 1) c (by omega)
/-! words -/
def k_ws : List (List Nat) := [[111, 100, 100, 115], [116, 111, 108, 108], [119, 97, 114], [108, 105, 101, 115], [99, 104, 101, 115, 116], [114, 105, 103, 104, 116], [119, 111, 114, 116, 104], [105, 110], [100, 101, 98, 116], [115, 117, 109], [108, 101, 102, 116], [97, 115, 107], [99, 108, 97, 117, 115, 101], [110, 111, 116], [119, 105, 116, 110, 101, 115, 115], [101, 97, 115, 116], [119, 101, 115, 116], [104, 101, 114, 101], [97, 119, 97, 121], [108, 97, 116, 101], [109, 111, 110, 116, 104], [99, 97, 114, 114, 121], [115, 119, 101, 97, 114], [112, 97, 121], [97, 110, 121], [119, 104, 101, 110], [111, 119, 101, 115], [108, 111, 111, 112], [101, 110, 100], [115, 116, 111, 112]]
def l_tok (t : Nat → Nat) (j s : Nat) : List Nat := (List.range s).map fun i => t (j + i)
def wn (L : List Nat) : List (List Nat) → Nat → Option Nat
  | [], _ => none
  | u :: r, k => if L = u then some k else wn L r (k + 1)
theorem tok_get {t : Nat → Nat} {j s i : Nat} : (l_tok t j s)[i]? = if i < s then some (t (j + i)) else none := by
  unfold l_tok
  rw [List.getElem?_map]
  by_cases g : i < s
  · rw [if_pos g, List.getElem?_range g]; rfl
  · rw [if_neg g, List.getElem?_eq_none (by simp; omega)]; rfl
theorem tok_len {t : Nat → Nat} {j s : Nat} : (l_tok t j s).length = s := by unfold l_tok; simp
theorem txt_ok : z_txt = ((k_ws.map (· ++ [32])).flatten).map nI := by decide +kernel
theorem ws_ok : ∀ u ∈ k_ws, ∀ x ∈ u, 97 ≤ x ∧ x ≤ 122 := by decide +kernel
/-- in the midst of a word: so many letters alike (or not: -1) -/
theorem wn_in {A : z_Mem} {t : Nat → Nat} {n j s : Nat} (h : Txc A t n) (hjs : j + s ≤ n) (hl : ∀ k, k < s → isL (t (j + k))) (h4 : A.1 5 4 = nI j) (u : List Nat) (hu : ∀ x ∈ u, 97 ≤ x ∧ x ≤ 122) (pre post : List Int32) (hz : z_txt = pre ++ (u.map nI ++ (32 : Int32) :: post)) (k : Nat) : ∀ d a c, a + d = u.length → ∀ al : Int32, ((al = -1 ∧ ¬ u.take a = (l_tok t j s).take a) ∨ (al = nI a ∧ a ≤ s ∧ u.take a = (l_tok t j s).take a)) → L_X7_wordNumber w (c + d + 1) A (nI s) (nI k) al (nI (pre.length + a)) = if l_tok t j s = u then some (nI k, A) else L_X7_wordNumber w c A (nI s) (nI (k + 1)) 0 (nI (pre.length + u.length + 1)) := by
  have hlen : z_txt.length = 152 := by decide +kernel
  have hlen2 : z_txt.length = pre.length + (u.length + (post.length + 1)) := by rw [hz]; simp
  have h9 := h.1
  intro d
  induction d with
  | zero =>
    intro a c ha al hal
    obtain rfl : a = u.length := by omega
    have gz : z_txt.getD (pre.length + u.length) 0 = 32 := by
      rw [hz, List.getD_eq_getElem?_getD, List.getElem?_append_right (by omega), show pre.length + u.length - pre.length = u.length by omega, List.getElem?_append_right (by simp)]
      simp
    rw [L_X7_wordNumber, if_neg (show ¬ (152 : Int32) ≤ nI (pre.length + u.length) from nI_ge (b := 152) (by omega) (by omega)), if_neg (n_in (by omega) (by omega)), nI_clamp (by omega), gz, if_pos rfl, nI_11, nI_11]
    have tl : (l_tok t j s).length = s := tok_len
    rcases hal with ⟨rfl, g⟩ | ⟨rfl, g1, g2⟩
    · rw [if_neg (fun e => nI_nm1 (n := s) (by omega) e.symm), if_neg (fun e => g (by rw [e]))]
    · rw [List.take_length] at g2
      by_cases e : u.length = s
      · rw [if_pos (congrArg nI e)]
        have : l_tok t j s = u := by rw [g2, e, List.take_of_length_le (by omega)]
        rw [if_pos this]
      · rw [if_neg (fun x => e ((nI_eq (by omega) (by omega)).mp x)), if_neg (fun x => e (by rw [← x]; exact tl))]
  | succ d ih =>
    intro a c ha al hal
    have hau : a < u.length := by omega
    obtain ⟨x, hx⟩ : ∃ x, u[a]? = some x := ⟨u[a], List.getElem?_eq_getElem hau⟩
    have hxr := hu x (List.mem_of_getElem? hx)
    have gz : z_txt.getD (pre.length + a) 0 = nI x := by
      rw [hz, List.getD_eq_getElem?_getD, List.getElem?_append_right (by omega), show pre.length + a - pre.length = a by omega, List.getElem?_append_left (by simp; omega), List.getElem?_map, hx]
      rfl
    have x32 : ¬ nI x = 32 := fun e => by
      have := (nI_eq (b := 32) (by omega) (by omega)).mp e
      omega
    have ut : u.take (a + 1) = u.take a ++ [x] := by rw [List.take_succ, hx]; rfl
    have tl : (l_tok t j s).length = s := tok_len
    have r := fun al hal => ih (a + 1) c (by omega) al hal
    rw [show c + (d + 1) + 1 = (c + d + 1) + 1 by omega, L_X7_wordNumber, if_neg (show ¬ (152 : Int32) ≤ nI (pre.length + a) from nI_ge (b := 152) (by omega) (by omega)), if_neg (n_in (by omega) (by omega)), nI_clamp (by omega), gz, if_neg x32, nI_11, show pre.length + a + 1 = pre.length + (a + 1) by omega]
    have no1 : ¬ u.take a = (l_tok t j s).take a → ¬ u.take (a + 1) = (l_tok t j s).take (a + 1) := by
      intro g e
      apply g
      have := congrArg (List.take a) e
      rwa [List.take_take, List.take_take, Nat.min_eq_left (by omega)] at this
    rcases hal with ⟨rfl, g⟩ | ⟨rfl, g1, g2⟩
    · rw [if_pos (by decide)]
      exact r (-1) (Or.inl ⟨rfl, no1 g⟩)
    · rw [if_neg (nI_pos (by omega))]
      by_cases e : s ≤ a
      · rw [if_pos (nI_le e (by omega))]
        refine r (-1) (Or.inl ⟨rfl, fun q => ?_⟩)
        have q2 := congrArg List.length q
        rw [List.length_take, List.length_take, tl] at q2
        omega
      · have tt : (l_tok t j s).take (a + 1) = (l_tok t j s).take a ++ [t (j + a)] := by
          rw [List.take_succ, tok_get, if_pos (by omega)]; rfl
        have lt := hl a (by omega)
        unfold isL at lt
        have v := (by_v (h.2.1 (j + a))).2.2.2.2.2.2.2.2.2.2 (by omega)
        rw [if_neg (nI_ge (by omega) (by omega)), h4, nI_add, if_neg (n_in (by omega) (by omega)), nI_clamp (by omega), h.2.2.2 _ (by omega), v]
        by_cases q : t (j + a) = x
        · rw [if_pos (congrArg nI q), nI_11]
          exact r (nI (a + 1)) (Or.inr ⟨rfl, by omega, by rw [ut, tt, g2, q]⟩)
        · rw [if_neg (fun y => q ((nI_eq (by omega) (by omega)).mp y))]
          refine r (-1) (Or.inl ⟨rfl, fun y => q ?_⟩)
          rw [ut, tt, g2] at y
          have := List.append_cancel_left y
          simp at this
          exact this.symm
theorem wn_all {A : z_Mem} {t : Nat → Nat} {n j s : Nat} (h : Txc A t n) (hjs : j + s ≤ n) (hs0 : 0 < s) (hl : ∀ k, k < s → isL (t (j + k))) (h4 : A.1 5 4 = nI j) : ∀ (r : List (List Nat)) (pre : List Int32) (k c : Nat), (∀ u ∈ r, ∀ x ∈ u, 97 ≤ x ∧ x ≤ 122) → z_txt = pre ++ ((r.map (· ++ [32])).flatten).map nI → z_txt.length - pre.length < c → L_X7_wordNumber w c A (nI s) (nI k) 0 (nI pre.length) = some (match wn (l_tok t j s) r k with
      | some i => nI i
      | none => if s ≤ 8 then 30 else 31, A) := by
  have hlen : z_txt.length = 152 := by decide +kernel
  have h9 := h.1
  intro r
  induction r with
  | nil =>
    intro pre k c hu hz hc
    obtain ⟨c, rfl⟩ : ∃ x, c = x + 1 := ⟨c - 1, by omega⟩
    have : pre.length = 152 := by rw [← hlen, hz]; simp
    rw [L_X7_wordNumber, this, if_pos (by decide)]
    unfold wn
    by_cases g : s ≤ 8
    · rw [if_neg (i_nlt.mpr (show nI s ≤ (8 : Int32) from nI_le (b := 8) g (by omega))), if_pos g]
    · rw [if_pos (show (8 : Int32) < nI s from nI_lt (a := 8) (by omega) (by omega)), if_neg g]
  | cons u r ih =>
    intro pre k c hu hz hc
    have hz2 : z_txt = pre ++ (u.map nI ++ (32 : Int32) :: ((r.map (· ++ [32])).flatten).map nI) := by
      rw [hz]
      simp
      rfl
    have hl2 : z_txt.length = pre.length + (u.length + ((((r.map (· ++ [32])).flatten).map nI).length + 1)) := by rw [hz2]; simp
    obtain ⟨c', rfl⟩ : ∃ x, c = x + u.length + 1 := ⟨c - u.length - 1, by omega⟩
    have e := wn_in (w := w) h hjs hl h4 u (hu u (by simp)) pre _ hz2 k u.length 0 c' (by omega) 0 (Or.inr ⟨rfl, by omega, by simp⟩)
    rw [show pre.length + 0 = pre.length from rfl] at e
    rw [e, wn]
    by_cases g : l_tok t j s = u
    · rw [if_pos g, if_pos g]
    · rw [if_neg g, if_neg g]
      have e2 := ih (pre ++ (u.map nI ++ [32])) (k + 1) c' (fun v hv => hu v (by simp [hv])) (by rw [hz2]; simp) (by simp; omega)
      rw [show (pre ++ (u.map nI ++ [(32 : Int32)])).length = pre.length + u.length + 1 by simp; omega] at e2
      exact e2
end
