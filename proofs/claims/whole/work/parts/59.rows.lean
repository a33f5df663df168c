/-! ===== years: rows as the class goes through them, steps as the reference does ===== -/
def Lst (l p : Nat) (A N : z_Mem) (P : t_P) (d st : Nat) (ms lf : Int32) (ov : Bool) : Prop := s_st l p A N P d ∧ (A.1 l 2 = nI st ∧ N.1 137 33 = nI st) ∧ (A.1 l 3 = ms ∧ N.1 137 34 = ms) ∧ (A.1 l 7 = lf ∧ N.1 137 38 = lf) ∧ N.1 137 31 = z_tb ov ∧ st ≤ 300
def Lfr (l p a b : Nat) (A A' N N' : z_Mem) : Prop := (∀ x, x ≠ l → x ≠ l + 1 → (x < p ∨ p + 23 ≤ x) → A'.1 x = A.1 x) ∧ (∀ k, k ≠ 1 → k ≠ 2 → k ≠ 3 → k ≠ 7 → A'.1 l k = A.1 l k) ∧ (∀ k, k < a ∨ b ≤ k → A'.1 (l + 1) k = A.1 (l + 1) k) ∧ A'.2 = A.2 ∧ (∀ x, x ≠ 137 → x ≠ 142 → N'.1 x = N.1 x) ∧ (∀ k, k ≠ 31 → k ≠ 32 → k ≠ 33 → k ≠ 34 → k ≠ 38 → N'.1 137 k = N.1 137 k) ∧ (∀ k, 103 ≤ k → N'.1 142 k = N.1 142 k) ∧ N'.2 = N.2
theorem Lfr_r {l p a b : Nat} {A N : z_Mem} : Lfr l p a b A A N N := ⟨fun _ _ _ _ => rfl, fun _ _ _ _ _ => rfl, fun _ _ => rfl, rfl, fun _ _ _ => rfl, fun _ _ _ _ _ _ => rfl, fun _ _ => rfl, rfl⟩
theorem Lfr_w {l p a b a1 b1 : Nat} {A A' N N' : z_Mem} (h : Lfr l p a1 b1 A A' N N') (ha : a ≤ a1) (hb : b1 ≤ b) : Lfr l p a b A A' N N' := by
  obtain ⟨h1, h2, h3, h4⟩ := h
  exact ⟨h1, h2, fun k hk => h3 k (by omega), h4⟩
theorem Lfr_t {l p a b : Nat} {A B C N L K : z_Mem} (h : Lfr l p a b A B N L) (g : Lfr l p a b B C L K) : Lfr l p a b A C N K := by
  obtain ⟨h1, h2, h3, h4, h5, h6, h7, h8⟩ := h
  obtain ⟨g1, g2, g3, g4, g5, g6, g7, g8⟩ := g
  exact ⟨fun x a b c => (g1 x a b c).trans (h1 x a b c), fun k a b c d => (g2 k a b c d).trans (h2 k a b c d), fun k a => (g3 k a).trans (h3 k a), g4.trans h4, fun x a b => (g5 x a b).trans (h5 x a b), fun k a b c d e => (g6 k a b c d e).trans (h6 k a b c d e), fun k a => (g7 k a).trans (h7 k a), g8.trans h8⟩
/-- how a piece of years ends: behind it; in its midst, with a step left; by a stop -/
def Lou (e T : Nat) (lf : Int32) (ov : Bool) (at' : Nat) : Prop := (ov = false ∧ at' = e ∧ lf = 0) ∨ (ov = true ∧ lf = 1) ∨ (ov = true ∧ lf = 0 ∧ at' = T)
section
variable {w l p : Nat}
theorem dep_s {y : List t_Y} {i : Nat} {r : t_Y} (h : y[i]? = some r) : y_dep y (i + 1) = if r.1 = 25 ∨ r.1 = 27 then y_dep y i + 1 else if r.1 = 28 then y_dep y i - 1 else y_dep y i := by
  rw [y_dep, h]
theorem dep_seg {y : List t_Y} : ∀ (n a b : Nat), y_wf y n a b → y_dep y b = y_dep y a := by
  intro n
  induction n with
  | zero => intro a b h; rw [show a = b from h]
  | succ n ih =>
    intro a b h
    rcases h with h | ⟨hab, r, hr, ha, hk, h⟩
    · rw [h]
    · by_cases g : r.1 = 25 ∨ r.1 = 27
      · rw [if_pos g] at h
        obtain ⟨e, he, e1, e2, h1, h2, h3, h4⟩ := h
        have d1 := dep_s hr
        rw [if_pos g] at d1
        have d2 := ih _ _ h3
        have d3 := dep_s he
        rw [if_neg (by rw [e1]; decide), if_pos e1] at d3
        have d4 := ih _ _ h4
        omega
      · rw [if_neg g] at h
        have d1 := dep_s hr
        rw [if_neg g, if_neg hk] at d1
        have d4 := ih _ _ h
        omega
/-! one row of the class -/
theorem run_end {c x i : Nat} {A : z_Mem} {T : Nat} (hT : A.1 (p + 17) 5 = nI T) (h60 : T ≤ 60) (hi : i < T) (hx : x < 1000000) (h7 : A.1 l 7 = 0) (he : A.1 (p + 18) i = 28) : L_X2_run w l p (c + 1) A (nI i) (nI x) = (F_X2_behindEnd w A l p (nI i)).bind fun q => L_X2_run w l p c q.2 q.1 (nI (x + 1)) := by
  rw [L_X2_run, if_neg (show ¬ (1000000 : Int32) ≤ nI x from nI_ge (b := 1000000) hx (by omega)), hT, if_neg (nI_ge (by omega) (by omega)), h7, if_pos rfl, if_neg (n_in (by omega) (by omega)), nI_clamp (by omega), he, if_pos rfl, nI_11]
theorem run_left {c x i : Nat} {A : z_Mem} {T : Nat} (hT : A.1 (p + 17) 5 = nI T) (h60 : T ≤ 60) (hi : i < T) (hx : x < 1000000) (h7 : A.1 l 7 = 0) (he : ¬ A.1 (p + 18) i = 28) (h2 : A.1 l 2 = nI 300) : L_X2_run w l p (c + 1) A (nI i) (nI x) = L_X2_run w l p c (z_wI A l 7 1) (nI i) (nI (x + 1)) := by
  rw [L_X2_run, if_neg (show ¬ (1000000 : Int32) ≤ nI x from nI_ge (b := 1000000) hx (by omega)), hT, if_neg (nI_ge (by omega) (by omega)), h7, if_pos rfl, if_neg (n_in (by omega) (by omega)), nI_clamp (by omega), if_neg he, h2, if_neg (by decide), nI_11]
theorem run_step {c x i st : Nat} {A : z_Mem} {T : Nat} (hT : A.1 (p + 17) 5 = nI T) (h60 : T ≤ 60) (hi : i < T) (hx : x < 1000000) (h7 : A.1 l 7 = 0) (he : ¬ A.1 (p + 18) i = 28) (h2 : A.1 l 2 = nI st) (hst : st < 300) {ok : Bool} {B : z_Mem} (hd : F_X2_isDone w (z_wI A l 2 (nI (st + 1))) l p (nI i) = some (ok, B)) : L_X2_run w l p (c + 1) A (nI i) (nI x) = (F_X2_behindStep w (if ok = true then B else z_wI B l 3 (B.1 l 3 + 1)) l p (nI i)).bind fun q => L_X2_run w l p c q.2 q.1 (nI (x + 1)) := by
  rw [L_X2_run, if_neg (show ¬ (1000000 : Int32) ≤ nI x from nI_ge (b := 1000000) hx (by omega)), hT, if_neg (nI_ge (by omega) (by omega)), h7, if_pos rfl, if_neg (n_in (by omega) (by omega)), nI_clamp (by omega), if_neg he, h2, if_pos (show nI st < (300 : Int32) from nI_lt (b := 300) hst (by omega)), nI_11, nI_11, hd, bindS]
  cases ok
  · rw [if_neg (show ¬ (false, B).1 = true by simp), if_neg (by decide)]
  · rw [if_pos rfl, if_pos rfl]
/-! what is known of the rows -/
theorem row_c {A : z_Mem} {P : t_P} {y : List t_Y} (c : CP A p P) (hy : P.2.2.2.2 = (true, y)) : A.1 (p + 17) 5 = nI y.length ∧ ∀ i r, y[i]? = some r → A.1 (p + 18) i = r.1 ∧ A.1 (p + 19) i = r.2.1 ∧ A.1 (p + 22) i = nI r.2.2.2.2 := by
  have h := c.2.2.2.2
  rw [hy] at h
  exact ⟨h.1, fun i r hr => ⟨(h.2.2.2 i r hr).1, (h.2.2.2 i r hr).2.1, (h.2.2.2 i r hr).2.2.2.2⟩⟩
theorem row_b {N : z_Mem} {P : t_P} {y : List t_Y} (b : BP (N.1 142) P) (hy : P.2.2.2.2 = (true, y)) : N.1 142 104 = nI (y_steps y) ∧ ∀ i r, y[i]? = some r → ¬ r.1 = 28 → BYr (N.1 142) y i r := by
  have h := b.2.2.2.2
  rw [hy] at h
  exact h.2 rfl
theorem row_v {P : t_P} {y : List t_Y} (v : VP P) (hy : P.2.2.2.2 = (true, y)) : y.length ≤ 60 ∧ y_steps y ≤ 30 ∧ y_wf y 60 0 y.length ∧ ∀ i, y_dep y i ≤ 3 := by
  have h := v.2.2.2.2
  rw [hy] at h
  exact ⟨h.1, h.2.1, (h.2.2 rfl).1, (h.2.2 rfl).2⟩
/-- class and reference behind a step's count -/
theorem Lst_1 (hlp : l < p ∨ p + 23 ≤ l) {A N : z_Mem} {P : t_P} {d st : Nat} {ms lf : Int32} {ov : Bool} (h : Lst l p A N P d st ms lf ov) (hst : st < 300) : Lst l p (z_wI A l 2 (nI (st + 1))) (z_wI N 137 33 (nI (st + 1))) P d (st + 1) ms lf ov := by
  obtain ⟨⟨c, b, v, h4, h5, h6⟩, ⟨g1, g2⟩, ⟨g3, g4⟩, ⟨g5, g6⟩, g7, g8⟩ := h
  refine ⟨⟨CP_of c (fun x h1 h2 => wI_row (by omega)), by rw [wI_row (by omega)]; exact b, v, h4, by rw [wI_slot (by omega)]; exact h5, by rw [wI_slot (by omega)]; exact h6⟩, ⟨wI_same, wI_same⟩, ⟨by rw [wI_slot (by omega)]; exact g3, by rw [wI_slot (by omega)]; exact g4⟩, ⟨by rw [wI_slot (by omega)]; exact g5, by rw [wI_slot (by omega)]; exact g6⟩, by rw [wI_slot (by omega)]; exact g7, by omega⟩
theorem Lfr_1 {a b st : Nat} {A N : z_Mem} : Lfr l p a b A (z_wI A l 2 (nI st)) N (z_wI N 137 33 (nI st)) := ⟨fun x h1 _ _ => wI_row h1, fun k _ h2 _ _ => wI_slot h2, fun k _ => by rw [wI_row (by omega)], rfl, fun x h1 _ => wI_row h1, fun k _ _ h3 _ _ => wI_slot h3, fun k _ => by rw [wI_row (by omega)], rfl⟩
theorem Lfr_s {a b : Nat} {A A' N N' : z_Mem} (hlp : l + 1 < p ∨ p + 23 ≤ l) (h : s_fr l p A A' N N') : Lfr l p a b A A' N N' := by
  obtain ⟨h1, h2, h3, h4, h5, h6, h7⟩ := h
  exact ⟨fun x a _ c => h1 x a c, fun k a _ _ _ => h2 k a, fun k _ => by rw [h1 (l + 1) (by omega) (by omega)], h3, h4, fun k _ a _ _ _ => h5 k a, h6, h7⟩
theorem Lst_s {A A' N N' : z_Mem} {P P' : t_P} {d d' st : Nat} {ms lf : Int32} {ov : Bool} (h : Lst l p A N P d st ms lf ov) (g : s_st l p A' N' P' d') (f : s_fr l p A A' N N') : Lst l p A' N' P' d' st ms lf ov := by
  obtain ⟨_, ⟨g1, g2⟩, ⟨g3, g4⟩, ⟨g5, g6⟩, g7, g8⟩ := h
  obtain ⟨_, f2, _, _, f5, _, _⟩ := f
  exact ⟨g, ⟨by rw [f2 2 (by omega)]; exact g1, by rw [f5 33 (by omega)]; exact g2⟩, ⟨by rw [f2 3 (by omega)]; exact g3, by rw [f5 34 (by omega)]; exact g4⟩, ⟨by rw [f2 7 (by omega)]; exact g5, by rw [f5 38 (by omega)]; exact g6⟩, by rw [f5 31 (by omega)]; exact g7, g8⟩
/-- .. missed or not -/
theorem Lst_m (hlp : l < p ∨ p + 23 ≤ l) {A N : z_Mem} {P : t_P} {d st : Nat} {ms lf : Int32} {ov : Bool} (h : Lst l p A N P d st ms lf ov) (ok : Bool) : Lst l p (if ok = true then A else z_wI A l 3 (ms + 1)) (z_wI N 137 34 (if ok = true then ms else ms + 1)) P d st (if ok = true then ms else ms + 1) lf ov ∧ ∀ a b, Lfr l p a b A (if ok = true then A else z_wI A l 3 (ms + 1)) N (z_wI N 137 34 (if ok = true then ms else ms + 1)) := by
  obtain ⟨⟨c, b, v, h4, h5, h6⟩, ⟨g1, g2⟩, ⟨g3, g4⟩, ⟨g5, g6⟩, g7, g8⟩ := h
  have n1 : ∀ z, BP ((z_wI N 137 34 z).1 142) P := fun z => by rw [wI_row (by omega)]; exact b
  cases ok
  · rw [if_neg (by decide), if_neg (by decide)]
    refine ⟨⟨⟨CP_of c (fun x h1 h2 => wI_row (by omega)), n1 _, v, h4, by rw [wI_slot (by omega)]; exact h5, by rw [wI_slot (by omega)]; exact h6⟩, ⟨by rw [wI_slot (by omega)]; exact g1, by rw [wI_slot (by omega)]; exact g2⟩, ⟨wI_same, wI_same⟩, ⟨by rw [wI_slot (by omega)]; exact g5, by rw [wI_slot (by omega)]; exact g6⟩, by rw [wI_slot (by omega)]; exact g7, g8⟩, fun a b => ?_⟩
    exact ⟨fun x h1 _ _ => wI_row h1, fun k _ _ h3 _ => wI_slot h3, fun k _ => by rw [wI_row (by omega)], rfl, fun x h1 _ => wI_row h1, fun k _ _ _ h4 _ => wI_slot h4, fun k _ => by rw [wI_row (by omega)], rfl⟩
  · rw [if_pos rfl, if_pos rfl]
    refine ⟨⟨⟨c, n1 _, v, h4, h5, by rw [wI_slot (by omega)]; exact h6⟩, ⟨g1, by rw [wI_slot (by omega)]; exact g2⟩, ⟨g3, wI_same⟩, ⟨g5, by rw [wI_slot (by omega)]; exact g6⟩, by rw [wI_slot (by omega)]; exact g7, g8⟩, fun a b => ?_⟩
    exact ⟨fun x h1 _ _ => rfl, fun k _ _ h3 _ => rfl, fun k _ => rfl, rfl, fun x h1 _ => wI_row h1, fun k _ _ _ h4 _ => wI_slot h4, fun k _ => by rw [wI_row (by omega)], rfl⟩
/-- what a piece of years comes to -/
def Res (w l p : Nat) (y : List t_Y) (s lo b st : Nat) (A N : z_Mem) (P : t_P) (R : Option (Unit × z_Mem)) (B : Nat) : Prop := ∃ A' N' P' d' st' ms' lf' ov' at' K, R = some ((), N') ∧ (∀ c x, x + K < 900000 → L_X2_run w l p (c + K) A (nI s) (nI x) = L_X2_run w l p c A' (nI at') (nI (x + K))) ∧ Lst l p A' N' P' d' st' ms' lf' ov' ∧ P'.2.2.2 = P.2.2.2 ∧ Lfr l p lo b A A' N N' ∧ st ≤ st' ∧ K ≤ 101 * (st' - st) + B + 1 ∧ (lf' = 0 → K ≤ 101 * (st' - st) + B) ∧ Lou b y.length lf' ov' at'
end
