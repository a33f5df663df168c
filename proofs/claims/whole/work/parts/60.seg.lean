/-! ===== years: pieces of them ===== -/
section
variable {w l p : Nat}
theorem bs_simple {A : z_Mem} {P : t_P} {y : List t_Y} (c : CP A p P) (hy : P.2.2.2.2 = (true, y)) (h60 : y.length ≤ 60) {i : Nat} {r : t_Y} (hr : y[i]? = some r) (h1 : ¬ r.1 = 25) (h2 : ¬ r.1 = 27) (h3 : ¬ r.1 = 29) : F_X2_behindStep w A l p (nI i) = some (nI (i + 1), A) := by
  have hi := y_lt hr
  obtain ⟨c1, c2, c3⟩ := (row_c c hy).2 i r hr
  unfold F_X2_behindStep
  rw [if_neg (n_in (by omega) (by omega)), nI_clamp (by omega), c1, if_neg h1, if_neg h2, if_neg h3, nI_11]
  simp only [ite_self]
theorem isd_blk {A : z_Mem} {P : t_P} {y : List t_Y} (c : CP A p P) (hy : P.2.2.2.2 = (true, y)) (h60 : y.length ≤ 60) {i : Nat} {r : t_Y} (hr : y[i]? = some r) (h : r.1 = 25 ∨ r.1 = 27 ∨ r.1 = 29) : F_X2_isDone w A l p (nI i) = some (true, A) := by
  have hi := y_lt hr
  obtain ⟨c1, c2, c3⟩ := (row_c c hy).2 i r hr
  unfold F_X2_isDone
  rw [if_neg (n_in (by omega) (by omega)), if_neg (n_in (by omega) (by omega)), nI_clamp (by omega), c1]
  rcases h with h | h | h <;> rw [h, if_neg (by decide), if_neg (by decide), if_neg (by decide), if_neg (by decide), if_neg (by decide)]
/-- the reference goes on through steps that are over -/
theorem doAll_over {G : z_Mem → Int32 → Option (Unit × z_Mem)} {c : Nat} {N : z_Mem} {x y : Int32} (h : N.1 137 31 = z_tb true) : L_X12_doAll w G (c + 1) N x y = some ((), N) := by
  rw [L_X12_doAll, h, if_pos (show z_bb (z_tb true) = true by decide)]
  split <;> rfl
def IH (w l p : Nat) (y : List t_Y) (n : Nat) : Prop := ∀ (a b f c : Nat) (A N : z_Mem) (P : t_P) (d st : Nat) (ms : Int32), y_wf y n a b → b ≤ y.length → 4 ≤ y_dep y a + f → n < c → P.2.2.2.2 = (true, y) → Lst l p A N P d st ms 0 false → Res w l p y a a b st A N P (L_X12_doAll w (Fb_X12_doOne w (F_X12_doAll w f)) c N (nI (y_no y b)) (nI (y_no y a))) 0
/-- a loop, so often as is left -/
theorem lp (hw : 10000 ≤ w) (hlp : l + 1 < p ∨ p + 23 ≤ l) {y : List t_Y} (h60 : y.length ≤ 60) (h30 : y_steps y ≤ 30) {n : Nat} (hn : n < 100) (H : IH w l p y n) {a q : Nat} {r e : t_Y} (hr : y[a]? = some r) (hk : r.1 = 27) (hq : r.2.1 = nI q) (hq99 : q ≤ 99) (he : y[r.2.2.2.2]? = some e) (e1 : e.1 = 28) (e2 : e.2.2.2.2 = a) (hae : a < r.2.2.2.2) (hwf : y_wf y n (a + 1) r.2.2.2.2) {f' : Nat} (hf : 4 ≤ y_dep y (a + 1) + f') : ∀ (j c : Nat) (A N : z_Mem) (P : t_P) (d st : Nat) (ms : Int32), 1 ≤ j → j ≤ q → j < c → P.2.2.2.2 = (true, y) → Lst l p A N P d st ms 0 false → A.1 (l + 1) a = nI j → Res w l p y (a + 1) a (r.2.2.2.2 + 1) st A N P (L_X12_doOne w (F_X12_doAll w (f' + 1)) c N (nI (y_no y a)) (nI (105 + 9 * y_no y a)) (nI (q - j))) j := by
  have hk3 : ¬ r.1 = 28 := by rw [hk]; decide
  have hi := y_lt hr
  have hpe := y_lt he
  have hno := no_lt hr hk3
  have n1 := no_s hr
  rw [if_neg hk3] at n1
  have n2 := no_s he
  rw [if_pos e1] at n2
  have nx : y_next a r = r.2.2.2.2 + 1 := by unfold y_next; rw [if_pos (Or.inr hk)]
  intro j
  induction j with
  | zero => intro c A N P d st ms h1; omega
  | succ j ih =>
    intro c A N P d st ms h1 h2 h3 hy h hrest
    obtain ⟨c, rfl⟩ : ∃ x, c = x + 1 := ⟨c - 1, by omega⟩
    obtain ⟨b1, b2, b3, b4, b5, b6⟩ := (row_b h.1.2.1 hy).2 a r hr hk3
    rw [nx, n2] at b2
    have b4' : N.1 142 (106 + 9 * y_no y a) = nI q := by
      rcases b4 (by rw [hk]; decide) with g | g | g
      · rw [g]; exact hq
      · rw [hk] at g; exact absurd g (by decide)
      · rw [hk] at g; exact absurd g (by decide)
    obtain ⟨A1, N1, P1, d1, st1, ms1, lf1, ov1, at1, K1, r1, r2, r3, r4, r5, r6, r7, r8, r9⟩ := H (a + 1) r.2.2.2.2 f' w A N P d st ms hwf (by omega) hf (by omega) hy h
    have hy1 : P1.2.2.2.2 = (true, y) := by rw [r4]; exact hy
    have w1 : nI (105 + 9 * y_no y a) + 1 = nI (106 + 9 * y_no y a) := by
      rw [nI_11]
      exact congrArg nI (by omega)
    have w8 : nI (105 + 9 * y_no y a) + 8 = nI (113 + 9 * y_no y a) := by
      rw [show (8 : Int32) = nI 8 from rfl, nI_add]
      exact congrArg nI (by omega)
    have hG : F_X12_doAll w (f' + 1) N (nI (y_no y a) + 1) (nI (y_no y r.2.2.2.2)) = some ((), N1) := by
      rw [F_X12_doAll]
      unfold Fb_X12_doAll
      rw [nI_11, ← n1]
      exact r1
    have eM : L_X12_doOne w (F_X12_doAll w (f' + 1)) (c + 1) N (nI (y_no y a)) (nI (105 + 9 * y_no y a)) (nI (q - (j + 1))) = L_X12_doOne w (F_X12_doAll w (f' + 1)) c N1 (nI (y_no y a)) (nI (105 + 9 * y_no y a)) (nI (q - j)) := by
      rw [L_X12_doOne, w1, if_neg (n_in (by omega) (by omega)), nI_clamp (by omega), b4', if_neg (nI_ge (by omega) (by omega)), h.2.2.2.2.1, if_neg (show ¬ z_bb (z_tb false) = true by decide), w8, if_neg (n_in (by omega) (by omega)), nI_clamp (by omega), b2, hG, bindS, nI_11, show q - (j + 1) + 1 = q - j by omega]
    have eO : ov1 = true → ∀ c', L_X12_doOne w (F_X12_doAll w (f' + 1)) (c' + 1) N1 (nI (y_no y a)) (nI (105 + 9 * y_no y a)) (nI (q - j)) = some ((), N1) := by
      intro g c'
      have o1 := r3.2.2.2.2.1
      rw [g] at o1
      rw [L_X12_doOne, w1, if_neg (n_in (by omega) (by omega)), o1, if_pos (show z_bb (z_tb true) = true by decide)]
      split <;> rfl
    obtain ⟨c, rfl⟩ : ∃ x, c = x + 1 := ⟨c - 1, by omega⟩
    have fr1 : Lfr l p a (r.2.2.2.2 + 1) A A1 N N1 := Lfr_w r5 (by omega) (by omega)
    rcases r9 with ⟨o1, o2, o3⟩ | ⟨o1, o2⟩ | ⟨o1, o2, o3⟩
    · -- the body is done
      subst o1 o2 o3
      obtain ⟨t1, t2⟩ := row_c r3.1.1 hy1
      obtain ⟨u1, u2, u3⟩ := t2 a r hr
      obtain ⟨v1, v2, v3⟩ := t2 r.2.2.2.2 e he
      rw [e2] at v3
      rw [hk] at u1
      rw [e1] at v1
      have hrest1 : A1.1 (l + 1) a = nI (j + 1) := by rw [r5.2.2.1 a (by omega)]; exact hrest
      have k1 : nI (j + 1) - 1 = nI j := pk_sub (b := 1) (by omega)
      have be : F_X2_behindEnd w A1 l p (nI r.2.2.2.2) = some (if j = 0 then nI (r.2.2.2.2 + 1) else nI (a + 1), z_wI A1 (l + 1) a (nI j)) := by
        unfold F_X2_behindEnd
        rw [if_neg (n_in (by omega) (by omega)), nI_clamp (n := r.2.2.2.2) (by omega), v3, if_neg (n_in (by omega) (by omega)), nI_clamp (n := a) (by omega), u1, if_pos rfl, hrest1, k1, wI_same]
        have hin : ¬ (nI a < 0 ∨ 60 ≤ a) := fun g => g.elim (nI_pos (by omega)) (fun y => by omega)
        rw [if_neg hin, if_neg hin, if_neg hin, nI_11, nI_11]
        by_cases j0 : j = 0
        · rw [if_pos j0, if_pos (by rw [j0]; decide)]
        · rw [if_neg j0, if_neg (nle0 (by omega) (by omega))]
      have rE := fun (c x : Nat) (hx : x < 1000000) => run_end (w := w) (l := l) (p := p) (c := c) (x := x) (i := r.2.2.2.2) t1 h60 hpe hx r3.2.2.2.1.1 v1
      have lst2 : Lst l p (z_wI A1 (l + 1) a (nI j)) N1 P1 d1 st1 ms1 0 false := by
        obtain ⟨⟨x1, x2, x3, x4, x5, x6⟩, ⟨y1, y2⟩, ⟨y3, y4⟩, ⟨y5, y6⟩, y7, y8⟩ := r3
        exact ⟨⟨CP_of x1 (fun x h1 h2 => wI_row (by omega)), x2, x3, x4, by rw [wI_row (by omega)]; exact x5, x6⟩, ⟨by rw [wI_row (by omega)]; exact y1, y2⟩, ⟨by rw [wI_row (by omega)]; exact y3, y4⟩, ⟨by rw [wI_row (by omega)]; exact y5, y6⟩, y7, y8⟩
      have fr2 : Lfr l p a (r.2.2.2.2 + 1) A1 (z_wI A1 (l + 1) a (nI j)) N1 N1 := ⟨fun x _ h2 _ => wI_row h2, fun k _ _ _ _ => by rw [wI_row (by omega)], fun k hk => wI_slot (by omega), rfl, fun _ _ _ => rfl, fun _ _ _ _ _ _ => rfl, fun _ _ => rfl, rfl⟩
      have r8' := r8 rfl
      by_cases j0 : j = 0
      · subst j0
        rw [if_pos rfl] at be
        refine ⟨z_wI A1 (l + 1) a (nI 0), N1, P1, d1, st1, ms1, 0, false, r.2.2.2.2 + 1, K1 + 1, ?_, fun c' x hx => ?_, lst2, r4, Lfr_t fr1 fr2, r6, by omega, fun _ => by omega, Or.inl ⟨rfl, rfl, rfl⟩⟩
        · rw [eM, L_X12_doOne, w1, if_neg (n_in (by omega) (by omega)), nI_clamp (by omega)]
          have z : N1.1 142 (106 + 9 * y_no y a) = nI q := by
            rw [r5.2.2.2.2.2.2.1 _ (by omega)]; exact b4'
          rw [z, if_pos (nI_le (by omega) (by omega))]
        · rw [show c' + (K1 + 1) = (c' + 1) + K1 by omega, r2 (c' + 1) x (by omega), rE c' (x + K1) (by omega), be, bindS]
          rfl
      · rw [if_neg j0] at be
        obtain ⟨A3, N3, P3, d3, st3, ms3, lf3, ov3, at3, K3, q1, q2, q3, q4, q5, q6, q7, q8, q9⟩ := ih (c + 1) (z_wI A1 (l + 1) a (nI j)) N1 P1 d1 st1 ms1 (by omega) (by omega) (by omega) hy1 lst2 wI_same
        refine ⟨A3, N3, P3, d3, st3, ms3, lf3, ov3, at3, K1 + 1 + K3, ?_, fun c' x hx => ?_, q3, q4.trans r4, Lfr_t fr1 (Lfr_t fr2 q5), by omega, by omega, fun g => by have := q8 g; omega, q9⟩
        · rw [eM]; exact q1
        · rw [show c' + (K1 + 1 + K3) = ((c' + K3) + 1) + K1 by omega, r2 (c' + K3 + 1) x (by omega), rE (c' + K3) (x + K1) (by omega), be, bindS]
          dsimp only
          rw [q2 c' (x + K1 + 1) (by omega)]
          exact congrArg _ (congrArg nI (by omega))
    · refine ⟨A1, N1, P1, d1, st1, ms1, lf1, ov1, at1, K1, by rw [eM]; exact eO o1 c, r2, r3, r4, fr1, r6, by omega, fun g => by have := r8 g; omega, Or.inr (Or.inl ⟨o1, o2⟩)⟩
    · refine ⟨A1, N1, P1, d1, st1, ms1, lf1, ov1, at1, K1, by rw [eM]; exact eO o1 c, r2, r3, r4, fr1, r6, by omega, fun g => by have := r8 g; omega, Or.inr (Or.inr ⟨o1, o2, o3⟩)⟩
theorem y_kind_v : y_kind 25 = 5 ∧ y_kind 27 = 6 ∧ y_kind 29 = 7 := by decide
/-- one step, with all that is in it -/
theorem one (hw : 10000 ≤ w) (hlp : l + 1 < p ∨ p + 23 ≤ l) {y : List t_Y} (h60 : y.length ≤ 60) (h30 : y_steps y ≤ 30) (hdep : ∀ i, y_dep y i ≤ 3) {n : Nat} (hn : n < 100) (H : IH w l p y n) {a : Nat} {r : t_Y} (hr : y[a]? = some r) (ha : y_arg r) (hk : ¬ r.1 = 28) (hblk : r.1 = 25 ∨ r.1 = 27 → ∃ e, y[r.2.2.2.2]? = some e ∧ e.1 = 28 ∧ e.2.2.2.2 = a ∧ a < r.2.2.2.2 ∧ y_wf y n (a + 1) r.2.2.2.2) {f : Nat} (hf : 4 ≤ y_dep y a + f) {A N : z_Mem} {P : t_P} {d st : Nat} {ms : Int32} (hy : P.2.2.2.2 = (true, y)) (h : Lst l p A N P d st ms 0 false) : Res w l p y a a (y_next a r) st A N P (Fb_X12_doOne w (F_X12_doAll w f) N (nI (y_no y a))) 0 := by
  have hlp' : l < p ∨ p + 23 ≤ l := by omega
  have hi := y_lt hr
  have hno := no_lt hr hk
  obtain ⟨t1, t2⟩ := row_c h.1.1 hy
  obtain ⟨u1, u2, u3⟩ := t2 a r hr
  obtain ⟨b1, b2, b3, b4, b5, b6⟩ := (row_b h.1.2.1 hy).2 a r hr hk
  have he : ¬ A.1 (p + 18) a = 28 := by rw [u1]; exact hk
  have hs2 := h.2.1.1
  have hs3 := h.2.1.2
  have hs4 := h.2.2.1.2
  have h7 := h.2.2.2.1.1
  have w0 : (105 : Int32) + 9 * nI (y_no y a) = nI (105 + 9 * y_no y a) := by
    rw [show (105 : Int32) = nI 105 from rfl, show (9 : Int32) = nI 9 from rfl, g_nmul, nI_add]
  by_cases h300 : st = 300
  · subst h300
    refine ⟨z_wI A l 7 1, z_wI (z_wI N 137 31 1) 137 38 1, P, d, 300, ms, 1, true, a, 1, ?_, fun c x hx => ?_, ?_, rfl, ?_, by omega, by omega, fun g => absurd g (by decide), Or.inr (Or.inl ⟨rfl, rfl⟩)⟩
    · unfold Fb_X12_doOne
      rw [hs3, if_pos (show nI 300 = 300 from rfl)]
    · exact run_left t1 h60 hi (by omega) h7 he hs2
    · obtain ⟨⟨x1, x2, x3, x4, x5, x6⟩, ⟨y1, y2⟩, ⟨y3, y4⟩, ⟨y5, y6⟩, y7, y8⟩ := h
      refine ⟨⟨CP_of x1 (fun x h1 h2 => wI_row (by omega)), by rw [wI_row (by omega), wI_row (by omega)]; exact x2, x3, x4, by rw [wI_slot (by omega)]; exact x5, by rw [wI_slot (by omega), wI_slot (by omega)]; exact x6⟩, ⟨by rw [wI_slot (by omega)]; exact y1, by rw [wI_slot (by omega), wI_slot (by omega)]; exact y2⟩, ⟨by rw [wI_slot (by omega)]; exact y3, by rw [wI_slot (by omega), wI_slot (by omega)]; exact y4⟩, ⟨wI_same, wI_same⟩, by rw [wI_slot (by omega), wI_same]; rfl, y8⟩
    · exact ⟨fun x h1 _ _ => wI_row h1, fun k _ _ _ h4 => wI_slot h4, fun k _ => by rw [wI_row (by omega)], rfl, fun x h1 _ => by rw [wI_row h1, wI_row h1], fun k h1 _ _ _ h5 => by rw [wI_slot h5, wI_slot h1], fun k _ => by rw [wI_row (by omega), wI_row (by omega)], rfl⟩
  · have hst : st < 300 := by have := h.2.2.2.2.2; omega
    have h1 := Lst_1 hlp' h hst
    have n300 : ¬ nI st = (300 : Int32) := fun g => h300 ((nI_eq (b := 300) (by omega) (by omega)).mp g)
    have rS := fun (c x : Nat) (hx : x < 1000000) {ok : Bool} {B : z_Mem} (hd) => run_step (w := w) (l := l) (p := p) (c := c) (x := x) (i := a) (ok := ok) (B := B) t1 h60 hi hx h7 he hs2 hst hd
    have kc : (z_wI N 137 33 (nI (st + 1))).1 142 (105 + 9 * y_no y a) = y_kind r.1 := b1
    have dO : ∀ G, Fb_X12_doOne w G N (nI (y_no y a)) = if (5 : Int32) ≤ y_kind r.1 then (if y_kind r.1 = 5 then (F_X12_holds w (z_wI N 137 33 (nI (st + 1))) (nI (105 + 9 * y_no y a))).bind fun q13 => if q13.1 = true then (G q13.2 (nI (y_no y a + 1)) (q13.2.1 142 (113 + 9 * y_no y a))).bind fun q19 => some ((), q19.2) else if y_kind r.1 = 6 then L_X12_doOne w G w q13.2 (nI (y_no y a)) (nI (105 + 9 * y_no y a)) 0 else if y_kind r.1 ≤ 6 then some ((), q13.2) else some ((), z_wI q13.2 137 31 1) else if y_kind r.1 = 6 then L_X12_doOne w G w (z_wI N 137 33 (nI (st + 1))) (nI (y_no y a)) (nI (105 + 9 * y_no y a)) 0 else if y_kind r.1 ≤ 6 then some ((), z_wI N 137 33 (nI (st + 1))) else some ((), z_wI (z_wI N 137 33 (nI (st + 1))) 137 31 1)) else (F_X12_does w (z_wI N 137 33 (nI (st + 1))) (nI (105 + 9 * y_no y a))).bind fun q21 => if q21.1 = true then some ((), z_wI q21.2 137 34 ms) else some ((), z_wI q21.2 137 34 (ms + 1)) := by
      intro G
      have w8 : nI (105 + 9 * y_no y a) + 8 = nI (113 + 9 * y_no y a) := by
        rw [show (8 : Int32) = nI 8 from rfl, nI_add]
        exact congrArg nI (by omega)
      unfold Fb_X12_doOne
      rw [hs3, if_neg n300, w0, if_neg (n_in (by omega) (by omega)), nI_11, nI_11, nI_clamp (n := 105 + 9 * y_no y a) (by omega), kc, hs4, Int32.add_zero, w8, nI_clamp (n := 113 + 9 * y_no y a) (by omega)]
      have hin : ¬ (nI (113 + 9 * y_no y a) < 0 ∨ 1875 ≤ 113 + 9 * y_no y a) := fun g => g.elim (nI_pos (by omega)) (fun y => by omega)
      simp only [hin, if_false]
    have blk : r.1 = 25 ∨ r.1 = 27 ∨ r.1 = 29 ∨ (¬ r.1 = 25 ∧ ¬ r.1 = 27 ∧ ¬ r.1 = 29) := by
      by_cases g1 : r.1 = 25
      · exact Or.inl g1
      · by_cases g2 : r.1 = 27
        · exact Or.inr (Or.inl g2)
        · by_cases g3 : r.1 = 29
          · exact Or.inr (Or.inr (Or.inl g3))
          · exact Or.inr (Or.inr (Or.inr ⟨g1, g2, g3⟩))
    rcases blk with g | g | g | ⟨g1, g2, g3⟩
    · -- when
      obtain ⟨e, he1, he2, he3, he4, he5⟩ := hblk (Or.inl g)
      have hpe := y_lt he1
      have n1 := no_s hr
      rw [if_neg hk] at n1
      have n2 := no_s he1
      rw [if_pos he2] at n2
      have nx : y_next a r = r.2.2.2.2 + 1 := by unfold y_next; rw [if_pos (Or.inl g)]
      have d1 := dep_s hr
      rw [if_pos (Or.inl g)] at d1
      have d2 := hdep (a + 1)
      obtain ⟨f, rfl⟩ : ∃ x, f = x + 1 := ⟨f - 1, by omega⟩
      have isd := isd_blk (w := w) (l := l) h1.1.1 hy h60 hr (Or.inl g)
      have hh := s_holds (w := w) (l := l) (by omega) h1.1.1 h1.1.2.1 h1.1.2.2.1 (by rw [hy]) (i := a) (r := r) (by rw [hy]; exact hr) ha g
      rw [hy] at hh
      obtain ⟨ok, o1, o2⟩ := hh
      obtain ⟨w1, w2, w3⟩ := (row_c h1.1.1 hy).2 a r hr
      have bst : F_X2_behindStep w (z_wI A l 2 (nI (st + 1))) l p (nI a) = some (if ok = true then nI (a + 1) else nI (r.2.2.2.2 + 1), z_wI A l 2 (nI (st + 1))) := by
        unfold F_X2_behindStep
        rw [if_neg (n_in (by omega) (by omega)), nI_clamp (by omega), w1, if_pos g, o1, bindS]
        have hin : ¬ (nI a < 0 ∨ 60 ≤ a) := fun g => g.elim (nI_pos (by omega)) (fun y => by omega)
        dsimp only
        rw [if_neg hin, w3, nI_11, nI_11]
        cases ok
        · simp only [Bool.false_eq_true, if_false]
        · simp only [if_true]
      have cell : (z_wI N 137 33 (nI (st + 1))).1 142 (113 + 9 * y_no y a) = nI (y_no y r.2.2.2.2) := by
        have : N.1 142 (113 + 9 * y_no y a) = nI (y_no y (y_next a r)) := b2
        rw [nx, n2] at this
        exact this
      rw [nx, dO, g, y_kind_v.1, if_pos (by decide), if_pos rfl, o2, bindS]
      dsimp only
      cases ok
      · rw [if_neg (by decide), if_neg (by decide), if_pos (by decide)]
        rw [if_neg (by decide)] at bst
        refine ⟨_, _, P, d, st + 1, ms, 0, false, r.2.2.2.2 + 1, 1, rfl, fun c x hx => ?_, h1, rfl, Lfr_1, by omega, by omega, fun _ => by omega, Or.inl ⟨rfl, rfl, rfl⟩⟩
        rw [rS c x (by omega) isd, if_pos rfl, bst, bindS]
      · rw [if_pos rfl]
        rw [if_pos rfl] at bst
        obtain ⟨A1, N1, P1, d1', st1, ms1, lf1, ov1, at1, K1, r1, r2, r3, r4, r5, r6, r7, r8, r9⟩ := H (a + 1) r.2.2.2.2 f w _ _ P d (st + 1) ms he5 (by omega) (by omega) (by omega) hy h1
        have hG : F_X12_doAll w (f + 1) (z_wI N 137 33 (nI (st + 1))) (nI (y_no y a + 1)) (nI (y_no y r.2.2.2.2)) = some ((), N1) := by
          rw [F_X12_doAll]
          unfold Fb_X12_doAll
          rw [← n1]
          exact r1
        rw [cell, hG, bindS]
        have fr : Lfr l p a (r.2.2.2.2 + 1) A A1 N N1 := Lfr_t Lfr_1 (Lfr_w r5 (by omega) (by omega))
        have go : ∀ c x, x + (1 + K1) < 900000 → L_X2_run w l p (c + (1 + K1)) A (nI a) (nI x) = L_X2_run w l p c A1 (nI at1) (nI (x + (1 + K1))) := by
          intro c x hx
          rw [show c + (1 + K1) = (c + K1) + 1 by omega, rS (c + K1) x (by omega) isd, if_pos rfl, bst, bindS]
          dsimp only
          rw [r2 c (x + 1) (by omega)]
          exact congrArg _ (congrArg nI (by omega))
        rcases r9 with ⟨p1, p2, p3⟩ | ⟨p1, p2⟩ | ⟨p1, p2, p3⟩
        · subst p1 p2 p3
          have hy1 : P1.2.2.2.2 = (true, y) := by rw [r4]; exact hy
          obtain ⟨s1, s2⟩ := row_c r3.1.1 hy1
          obtain ⟨v1, v2, v3⟩ := s2 r.2.2.2.2 e he1
          obtain ⟨x1, x2, x3⟩ := s2 a r hr
          rw [he3] at v3
          rw [he2] at v1
          have be : F_X2_behindEnd w A1 l p (nI r.2.2.2.2) = some (nI (r.2.2.2.2 + 1), A1) := by
            unfold F_X2_behindEnd
            rw [if_neg (n_in (by omega) (by omega)), nI_clamp (n := r.2.2.2.2) (by omega), v3, if_neg (n_in (by omega) (by omega)), nI_clamp (n := a) (by omega), x1, if_neg (by rw [g]; decide), nI_11]
          have r8' := r8 rfl
          refine ⟨A1, N1, P1, d1', st1, ms1, 0, false, r.2.2.2.2 + 1, 1 + K1 + 1, rfl, fun c x hx => ?_, r3, r4, fr, by omega, by omega, fun _ => by omega, Or.inl ⟨rfl, rfl, rfl⟩⟩
          rw [show c + (1 + K1 + 1) = (c + 1) + (1 + K1) by omega, go (c + 1) x (by omega), run_end s1 h60 hpe (by omega) r3.2.2.2.1.1 v1, be, bindS]
          rfl
        · exact ⟨A1, N1, P1, d1', st1, ms1, lf1, ov1, at1, 1 + K1, rfl, go, r3, r4, fr, by omega, by omega, fun q => by have := r8 q; omega, Or.inr (Or.inl ⟨p1, p2⟩)⟩
        · exact ⟨A1, N1, P1, d1', st1, ms1, lf1, ov1, at1, 1 + K1, rfl, go, r3, r4, fr, by omega, by omega, fun q => by have := r8 q; omega, Or.inr (Or.inr ⟨p1, p2, p3⟩)⟩
    · -- loop
      obtain ⟨e, he1, he2, he3, he4, he5⟩ := hblk (Or.inr g)
      have hpe := y_lt he1
      have nx : y_next a r = r.2.2.2.2 + 1 := by unfold y_next; rw [if_pos (Or.inr g)]
      have d1 := dep_s hr
      rw [if_pos (Or.inr g)] at d1
      have d2 := hdep (a + 1)
      obtain ⟨f, rfl⟩ : ∃ x, f = x + 1 := ⟨f - 1, by omega⟩
      obtain ⟨q, hq1, hq2, hq3⟩ : ∃ q, 1 ≤ q ∧ q ≤ 99 ∧ r.2.1 = nI q := by
        rcases ha with ⟨k, _⟩ | k | ⟨k, _⟩ | ⟨k, _⟩ | k | k | k | ⟨k, _⟩ | ⟨_, k⟩
        · rw [g] at k; exact absurd k (by decide)
        · rw [g] at k; exact absurd k (by decide)
        · rw [g] at k; exact absurd k (by decide)
        · rw [g] at k; exact absurd k (by decide)
        · rw [g] at k; exact absurd k (by decide)
        · rw [g] at k; exact absurd k (by decide)
        · rw [g] at k; exact absurd k (by decide)
        · rw [g] at k; exact absurd k (by decide)
        · obtain ⟨q, a1, a2, a3⟩ := (i_rng 1 99 (by omega) (by omega)).mp k
          exact ⟨q, a1, a2, a3⟩
      have isd := isd_blk (w := w) (l := l) h1.1.1 hy h60 hr (Or.inr (Or.inl g))
      obtain ⟨w1, w2, w3⟩ := (row_c h1.1.1 hy).2 a r hr
      have bst : F_X2_behindStep w (z_wI A l 2 (nI (st + 1))) l p (nI a) = some (nI (a + 1), z_wI (z_wI A l 2 (nI (st + 1))) (l + 1) a (nI q)) := by
        unfold F_X2_behindStep
        have hin : ¬ (nI a < 0 ∨ 60 ≤ a) := fun g => g.elim (nI_pos (by omega)) (fun y => by omega)
        rw [if_neg (n_in (by omega) (by omega)), nI_clamp (by omega), w1, g, if_neg (by decide), if_neg (by decide), if_pos rfl, if_neg hin, if_neg hin, w2, hq3, nI_11]
      have lst2 : Lst l p (z_wI (z_wI A l 2 (nI (st + 1))) (l + 1) a (nI q)) (z_wI N 137 33 (nI (st + 1))) P d (st + 1) ms 0 false := by
        obtain ⟨⟨x1, x2, x3, x4, x5, x6⟩, ⟨y1, y2⟩, ⟨y3, y4⟩, ⟨y5, y6⟩, y7, y8⟩ := h1
        exact ⟨⟨CP_of x1 (fun x h1 h2 => wI_row (by omega)), x2, x3, x4, by rw [wI_row (by omega)]; exact x5, x6⟩, ⟨by rw [wI_row (by omega)]; exact y1, y2⟩, ⟨by rw [wI_row (by omega)]; exact y3, y4⟩, ⟨by rw [wI_row (by omega)]; exact y5, y6⟩, y7, y8⟩
      have fr2 : Lfr l p a (r.2.2.2.2 + 1) (z_wI A l 2 (nI (st + 1))) (z_wI (z_wI A l 2 (nI (st + 1))) (l + 1) a (nI q)) (z_wI N 137 33 (nI (st + 1))) (z_wI N 137 33 (nI (st + 1))) := ⟨fun x _ h2 _ => wI_row h2, fun k _ _ _ _ => by rw [wI_row (by omega)], fun k hk => wI_slot (by omega), rfl, fun _ _ _ => rfl, fun _ _ _ _ _ _ => rfl, fun _ _ => rfl, rfl⟩
      obtain ⟨A1, N1, P1, d1', st1, ms1, lf1, ov1, at1, K1, r1, r2, r3, r4, r5, r6, r7, r8, r9⟩ := lp (w := w) hw hlp h60 h30 hn H hr g hq3 hq2 he1 he2 he3 he4 he5 (f' := f) (by omega) q w _ _ P d (st + 1) ms hq1 (by omega) (by omega) hy lst2 wI_same
      rw [Nat.sub_self] at r1
      rw [nx, dO, g, y_kind_v.2.1, if_pos (by decide), if_neg (by decide), if_pos rfl]
      refine ⟨A1, N1, P1, d1', st1, ms1, lf1, ov1, at1, 1 + K1, r1, fun c x hx => ?_, r3, r4, Lfr_t Lfr_1 (Lfr_t fr2 r5), by omega, by omega, fun z => by have := r8 z; omega, r9⟩
      rw [show c + (1 + K1) = (c + K1) + 1 by omega, rS (c + K1) x (by omega) isd, if_pos rfl, bst, bindS]
      dsimp only
      rw [r2 c (x + 1) (by omega)]
      exact congrArg _ (congrArg nI (by omega))
    · -- stop
      have isd := isd_blk (w := w) (l := l) h1.1.1 hy h60 hr (Or.inr (Or.inr g))
      obtain ⟨w1, w2, w3⟩ := (row_c h1.1.1 hy).2 a r hr
      have w5 := (row_c h1.1.1 hy).1
      have bst : F_X2_behindStep w (z_wI A l 2 (nI (st + 1))) l p (nI a) = some (nI y.length, z_wI A l 2 (nI (st + 1))) := by
        unfold F_X2_behindStep
        rw [if_neg (n_in (by omega) (by omega)), nI_clamp (by omega), w1, g, if_neg (by decide), if_neg (by decide), if_neg (by decide), if_neg (by decide), if_pos rfl, w5]
      rw [dO, g, y_kind_v.2.2, if_pos (by decide), if_neg (by decide), if_neg (by decide), if_neg (by decide)]
      refine ⟨z_wI A l 2 (nI (st + 1)), z_wI (z_wI N 137 33 (nI (st + 1))) 137 31 1, P, d, st + 1, ms, 0, true, y.length, 1, rfl, fun c x hx => ?_, ?_, rfl, ?_, by omega, by omega, fun _ => by omega, Or.inr (Or.inr ⟨rfl, rfl, rfl⟩)⟩
      · rw [rS c x (by omega) isd, if_pos rfl, bst, bindS]
      · obtain ⟨⟨x1, x2, x3, x4, x5, x6⟩, ⟨y1, y2⟩, ⟨y3, y4⟩, ⟨y5, y6⟩, y7, y8⟩ := h1
        exact ⟨⟨x1, by rw [wI_row (by omega)]; exact x2, x3, x4, x5, by rw [wI_slot (by omega)]; exact x6⟩, ⟨y1, by rw [wI_slot (by omega)]; exact y2⟩, ⟨y3, by rw [wI_slot (by omega)]; exact y4⟩, ⟨y5, by rw [wI_slot (by omega)]; exact y6⟩, by rw [wI_same]; rfl, y8⟩
      · refine Lfr_t (Lfr_1 (st := st + 1)) ⟨fun _ _ _ _ => rfl, fun _ _ _ _ _ => rfl, fun _ _ => rfl, rfl, fun x h1 _ => wI_row h1, fun k h1 _ _ _ _ => wI_slot h1, fun k _ => by rw [wI_row (by omega)], rfl⟩
    · -- any other
      have nx : y_next a r = a + 1 := by unfold y_next; rw [if_neg (fun z => z.elim g1 g2)]
      have hh := s_step (w := w) (by omega) hlp' h1.1 (by rw [hy]) (i := a) (r := r) (by rw [hy]; exact hr) ha g1 g2 hk g3
      rw [hy] at hh
      obtain ⟨ok, P', d', A', N', r1, r2, r3, r4, r5⟩ := hh
      have lst2 := Lst_s h1 r3 r5
      obtain ⟨lst3, fr3⟩ := Lst_m hlp' lst2 ok
      have hy1 : P'.2.2.2.2 = (true, y) := by rw [r4]; exact hy
      have m3 : A'.1 l 3 = ms := lst2.2.2.1.1
      have bst := bs_simple (w := w) (l := l) lst3.1.1 hy1 h60 hr g1 g2 g3
      have k5 : ¬ (5 : Int32) ≤ y_kind r.1 := by
        rcases ha with ⟨k, _⟩ | k | ⟨k, _⟩ | ⟨k, _⟩ | k | k | k | ⟨k, _⟩ | ⟨k, _⟩
        · rw [k]; decide
        · rw [k]; decide
        · rw [k]; decide
        · rw [k]; decide
        · rw [k]; decide
        · exact absurd k g3
        · exact absurd k hk
        · exact absurd k g1
        · exact absurd k g2
      rw [nx, dO, if_neg k5, r2, bindS]
      refine ⟨_, z_wI N' 137 34 (if ok = true then ms else ms + 1), P', d', st + 1, _, 0, false, a + 1, 1, ?_, fun c x hx => ?_, lst3, r4, Lfr_t Lfr_1 (Lfr_t (Lfr_s hlp r5) (fr3 _ _)), by omega, by omega, fun _ => by omega, Or.inl ⟨rfl, rfl, rfl⟩⟩
      · cases ok
        · simp only [Bool.false_eq_true, if_false]
        · simp only [if_true]
      · rw [rS c x (by omega) r1, m3, bst, bindS]
theorem seg (hw : 10000 ≤ w) (hlp : l + 1 < p ∨ p + 23 ≤ l) {y : List t_Y} (h60 : y.length ≤ 60) (h30 : y_steps y ≤ 30) (hdep : ∀ i, y_dep y i ≤ 3) : ∀ n, n ≤ 60 → IH w l p y n := by
  have nil : ∀ (a f c : Nat) (A N : z_Mem) (P : t_P) (d st : Nat) (ms : Int32), a ≤ y.length → Lst l p A N P d st ms 0 false → Res w l p y a a a st A N P (L_X12_doAll w (Fb_X12_doOne w (F_X12_doAll w f)) (c + 1) N (nI (y_no y a)) (nI (y_no y a))) 0 := by
    intro a f c A N P d st ms ha h
    have := no_le y a
    refine ⟨A, N, P, d, st, ms, 0, false, a, 0, ?_, fun c x _ => rfl, h, rfl, Lfr_r, Nat.le_refl _, by omega, fun _ => by omega, Or.inl ⟨rfl, rfl, rfl⟩⟩
    rw [L_X12_doAll, if_pos (nI_le (by omega) (by omega))]
  intro n
  induction n with
  | zero =>
    intro _ a b f c A N P d st ms hwf hb hf hc hy h
    obtain ⟨c, rfl⟩ : ∃ x, c = x + 1 := ⟨c - 1, by omega⟩
    obtain rfl : a = b := hwf
    exact nil a f c A N P d st ms hb h
  | succ n ih =>
    intro hn a b f c A N P d st ms hwf hb hf hc hy h
    obtain ⟨c, rfl⟩ : ∃ x, c = x + 1 := ⟨c - 1, by omega⟩
    have H := ih (by omega)
    rcases hwf with e | ⟨hab, r, hr, ha, hk, hwf⟩
    · subst e
      exact nil a f c A N P d st ms hb h
    · have hi := y_lt hr
      have hblk : r.1 = 25 ∨ r.1 = 27 → ∃ e, y[r.2.2.2.2]? = some e ∧ e.1 = 28 ∧ e.2.2.2.2 = a ∧ a < r.2.2.2.2 ∧ y_wf y n (a + 1) r.2.2.2.2 := by
        intro g
        rw [if_pos g] at hwf
        obtain ⟨e, e1, e2, e3, e4, e5, e6, e7⟩ := hwf
        exact ⟨e, e1, e2, e3, e4, e6⟩
      have hrest : y_wf y n (y_next a r) b ∧ y_next a r ≤ b ∧ a < y_next a r ∧ y_dep y (y_next a r) = y_dep y a := by
        unfold y_next
        by_cases g : r.1 = 25 ∨ r.1 = 27
        · rw [if_pos g] at hwf ⊢
          obtain ⟨e, e1, e2, e3, e4, e5, e6, e7⟩ := hwf
          have d1 := dep_s hr
          rw [if_pos g] at d1
          have d2 := dep_seg _ _ _ e6
          have d3 := dep_s e1
          rw [if_neg (by rw [e2]; decide), if_pos e2] at d3
          exact ⟨e7, by omega, by omega, by omega⟩
        · rw [if_neg g] at hwf ⊢
          have d1 := dep_s hr
          rw [if_neg g, if_neg hk] at d1
          exact ⟨hwf, by omega, by omega, d1⟩
      obtain ⟨hw2, hnb, hna, hd2⟩ := hrest
      have hno := no_lt hr hk
      have n1 := no_s hr
      rw [if_neg hk] at n1
      have mono : ∀ i j, i ≤ j → y_no y i ≤ y_no y j := by
        intro i j hij
        unfold y_no y_steps
        have : (y.take i) = (y.take j).take i := by rw [List.take_take, Nat.min_eq_left hij]
        rw [this]
        exact (List.Sublist.filter _ (List.take_sublist i (y.take j))).length_le
      have hlt : y_no y a < y_no y b := by have := mono (a + 1) b (by omega); omega
      have hbn := no_le y b
      obtain ⟨A1, N1, P1, d1, st1, ms1, lf1, ov1, at1, K1, r1, r2, r3, r4, r5, r6, r7, r8, r9⟩ := one (w := w) hw hlp h60 h30 hdep (n := n) (by omega) H hr ha hk hblk hf hy h
      have hy1 : P1.2.2.2.2 = (true, y) := by rw [r4]; exact hy
      obtain ⟨k1, k2, _⟩ := (row_b r3.1.2.1 hy1).2 a r hr hk
      have w0 : (105 : Int32) + 9 * nI (y_no y a) + 8 = nI (113 + 9 * y_no y a) := by
        rw [show (105 : Int32) = nI 105 from rfl, show (9 : Int32) = nI 9 from rfl, show (8 : Int32) = nI 8 from rfl, g_nmul, nI_add, nI_add]
        exact congrArg nI (by omega)
      have eM : L_X12_doAll w (Fb_X12_doOne w (F_X12_doAll w f)) (c + 1) N (nI (y_no y b)) (nI (y_no y a)) = L_X12_doAll w (Fb_X12_doOne w (F_X12_doAll w f)) c N1 (nI (y_no y b)) (nI (y_no y (y_next a r))) := by
        rw [L_X12_doAll, if_neg (nI_ge hlt (by omega)), h.2.2.2.2.1, if_neg (show ¬ z_bb (z_tb false) = true by decide), r1, bindS, w0, if_neg (n_in (by omega) (by omega)), nI_clamp (by omega), k2]
      rw [eM]
      have fr1 : Lfr l p a b A A1 N N1 := Lfr_w r5 (by omega) hnb
      rcases r9 with ⟨p1, p2, p3⟩ | ⟨p1, p2⟩ | ⟨p1, p2, p3⟩
      · subst p1 p2 p3
        obtain ⟨A3, N3, P3, d3, st3, ms3, lf3, ov3, at3, K3, q1, q2, q3, q4, q5, q6, q7, q8, q9⟩ := H (y_next a r) b f c A1 N1 P1 d1 st1 ms1 hw2 hb (by omega) (by omega) hy1 r3
        have r8' := r8 rfl
        refine ⟨A3, N3, P3, d3, st3, ms3, lf3, ov3, at3, K1 + K3, q1, fun c x hx => ?_, q3, q4.trans r4, Lfr_t fr1 (Lfr_w q5 (by omega) (Nat.le_refl _)), by omega, by omega, fun z => by have := q8 z; omega, q9⟩
        rw [show c + (K1 + K3) = (c + K3) + K1 by omega, r2 (c + K3) x (by omega), q2 c (x + K1) (by omega)]
        exact congrArg _ (congrArg nI (by omega))
      · obtain ⟨c, rfl⟩ : ∃ x, c = x + 1 := ⟨c - 1, by omega⟩
        have o1 := r3.2.2.2.2.1
        rw [p1] at o1
        exact ⟨A1, N1, P1, d1, st1, ms1, lf1, ov1, at1, K1, doAll_over o1, r2, r3, r4, fr1, r6, r7, r8, Or.inr (Or.inl ⟨p1, p2⟩)⟩
      · obtain ⟨c, rfl⟩ : ∃ x, c = x + 1 := ⟨c - 1, by omega⟩
        have o1 := r3.2.2.2.2.1
        rw [p1] at o1
        exact ⟨A1, N1, P1, d1, st1, ms1, lf1, ov1, at1, K1, doAll_over o1, r2, r3, r4, fr1, r6, r7, r8, Or.inr (Or.inr ⟨p1, p2, p3⟩)⟩
end
