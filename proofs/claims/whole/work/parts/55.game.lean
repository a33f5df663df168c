/-! ===== games ===== -/
theorem pm_b : bs_all (fun n => ((4095 : Int32) &&& (nI n ^^^ (-1 : Int32))) == nI (4095 - n)) 12 0 = true := by decide +kernel
theorem pm_ok {n : Nat} (h : n < 4096) : ((4095 : Int32) &&& (nI n ^^^ (-1 : Int32))) = nI (4095 - n) := by
  have := bs_ok 12 0 pm_b n (Nat.div_eq_of_lt h)
  simpa using this
def mx (b : Bool) (x y : Int) : Int := if b = true then max x y else min x y
def mmL (f : Nat → Int) (av : Nat → Bool) (b : Bool) (x : Int) : Nat → Int
  | 0 => x
  | m + 1 => if av m = true then mx b (mmL f av b x m) (f m) else mmL f av b x m
def ld (P : t_P) (e v : Nat) : Int := (gG P 0 (if P.1 8 = 0 then 4095 - v else e) - gG P 1 (if P.1 8 = 0 then 4095 - v else e)).toInt
def mm (P : t_P) : Nat → Bool → Nat → Nat → Int
  | 0, _, e, v => ld P e v
  | k + 1, b, e, v => mmL (fun m => mm P k (!b) (if b = true then e ||| 2 ^ m else e) (if b = true then v else v ||| 2 ^ m)) (fun m => !(e ||| v).testBit m) b (mm P k (!b) e v) 12
theorem ld_rng {P : t_P} (hv : VP P) (e v : Nat) : -4800 ≤ ld P e v ∧ ld P e v ≤ 4800 := by
  unfold ld
  generalize (if P.1 8 = 0 then 4095 - v else e) = q
  obtain ⟨n, hn, e1⟩ := gG_rng hv 0 q
  obtain ⟨m, hm, e2⟩ := gG_rng hv 1 q
  rw [e1, e2, pk_sub_toInt (by omega) (by omega)]
  omega
theorem mmL_rng {f : Nat → Int} {av : Nat → Bool} {b : Bool} {x : Int} (hx : -4800 ≤ x ∧ x ≤ 4800) (hf : ∀ m, -4800 ≤ f m ∧ f m ≤ 4800) : ∀ n, -4800 ≤ mmL f av b x n ∧ mmL f av b x n ≤ 4800 := by
  intro n
  induction n with
  | zero => exact hx
  | succ n ih =>
    have h2 := hf n
    rw [mmL]
    unfold mx
    cases av n <;> cases b <;> simp <;> omega
theorem mm_rng {P : t_P} (hv : VP P) : ∀ (k : Nat) (b : Bool) (e v : Nat), -4800 ≤ mm P k b e v ∧ mm P k b e v ≤ 4800 := by
  intro k
  induction k with
  | zero => intro b e v; exact ld_rng hv e v
  | succ k ih =>
    intro b e v
    rw [mm]
    exact mmL_rng (ih _ _ _) (fun m => ih _ _ _) 12
theorem mmL_up {f : Nat → Int} {av : Nat → Bool} {x : Int} : ∀ (j m : Nat), mmL f av true x m ≤ mmL f av true x (m + j) := by
  intro j
  induction j with
  | zero => intro m; exact Int.le_refl _
  | succ j ih =>
    intro m
    have h := ih m
    rw [show m + (j + 1) = (m + j) + 1 from rfl, mmL]
    unfold mx
    cases av (m + j) <;> simp <;> omega
theorem mmL_dn {f : Nat → Int} {av : Nat → Bool} {x : Int} : ∀ (j m : Nat), mmL f av false x (m + j) ≤ mmL f av false x m := by
  intro j
  induction j with
  | zero => intro m; exact Int.le_refl _
  | succ j ih =>
    intro m
    have h := ih m
    rw [show m + (j + 1) = (m + j) + 1 from rfl, mmL]
    unfold mx
    cases av (m + j) <;> simp <;> omega
/-- alike, where what is not above f, not below r counts as these -/
def ce (f r x y : Int) : Prop := max f (min r x) = max f (min r y)
theorem or_lt {e m : Nat} (he : e < 4096) (hm : m < 12) : e ||| 2 ^ m < 4096 := Nat.or_lt_two_pow (n := 12) he (Nat.pow_lt_pow_right (by omega) (by omega))
theorem or_lt2 {e v : Nat} (he : e < 4096) (hv : v < 4096) : e ||| v < 4096 := Nat.or_lt_two_pow (n := 12) he hv
theorem av_c {x m : Nat} (hm : m < 12) : ((nI x &&& nI (2 ^ m)) = 0) ↔ x.testBit m = false := by
  rw [b_zero]
  constructor
  · intro h
    have := h m (by omega)
    rw [b_and, bt_nI (by omega), bt_nI (by omega), Nat.testBit_two_pow, decide_eq_true rfl, Bool.and_true] at this
    exact this
  · intro h i hi
    rw [b_and, bt_nI hi, bt_nI hi, Nat.testBit_two_pow]
    by_cases e : m = i
    · subst e; rw [h]; rfl
    · rw [decide_eq_false e, Bool.and_false]
theorem i_max (x y : Int32) : (if x < y then y else x).toInt = max x.toInt y.toInt := by
  by_cases h : x < y
  · rw [if_pos h]
    have := Int32.lt_iff_toInt_lt.mp h
    omega
  · rw [if_neg h]
    have := Int32.le_iff_toInt_le.mp (i_nlt.mp h)
    omega
theorem i_min (x y : Int32) : (if x < y then x else y).toInt = min x.toInt y.toInt := by
  by_cases h : x < y
  · rw [if_pos h]
    have := Int32.lt_iff_toInt_lt.mp h
    omega
  · rw [if_neg h]
    have := Int32.le_iff_toInt_le.mp (i_nlt.mp h)
    omega
section
variable {w : Nat}
theorem f_lead {A : z_Mem} {P : t_P} (ha : W_c A P) {e v : Nat} (he : e < 4096) (hv : v < 4096) : ∃ x, F_X5_leadOf w A (nI e) (nI v) = some (x, A) ∧ x.toInt = ld P e v := by
  have g0 : ∀ x, x < 4096 → F_X5_gainOf w A 0 (nI x) = some (gG P 0 x, A) := fun x hx => f_gain5 ha (s := 0) (by omega) hx
  have g1 : ∀ x, x < 4096 → F_X5_gainOf w A 1 (nI x) = some (gG P 1 x, A) := fun x hx => f_gain5 ha (s := 1) (by omega) hx
  unfold F_X5_leadOf ld
  rw [ha.2.1]
  by_cases h : P.1 8 = 0
  · rw [if_pos h, if_pos h, pm_ok hv, g0 _ (by omega), bindS, g1 _ (by omega), bindS]
    exact ⟨_, rfl, rfl⟩
  · rw [if_neg h, if_neg h, g0 _ he, bindS, g1 _ he, bindS]
    exact ⟨_, rfl, rfl⟩
theorem bp_e (G : z_Mem → Int32 → Int32 → Int32 → Int32 → Int32 → Int32 → Option (Int32 × z_Mem)) (c : Nat) (A : z_Mem) (x1 x2 x3 fl rf best : Int32) {m : Nat} (hm : m < 12) : L_X5_bestPlay w G (c + 1) A x1 x2 x3 1 fl rf best (nI m) = if (if fl < best then best else fl) < rf then (if ((x1 ||| x2) &&& nI (2 ^ m)) = 0 then (G A (x1 ||| nI (2 ^ m)) x2 (x3 - 1) 0 (if fl < best then best else fl) rf).bind fun q => L_X5_bestPlay w G c q.2 x1 x2 x3 1 fl rf (if best < q.1 then q.1 else best) (nI (m + 1)) else L_X5_bestPlay w G c A x1 x2 x3 1 fl rf best (nI (m + 1))) else some (best, A) := by
  have h1 : ¬ (1 : Int32) = 0 := by decide
  rw [L_X5_bestPlay, if_neg (ge12 hm)]
  simp only [h1, if_false, n_pow2 (show m < 31 by omega), nI_11]
theorem bp_w (G : z_Mem → Int32 → Int32 → Int32 → Int32 → Int32 → Int32 → Option (Int32 × z_Mem)) (c : Nat) (A : z_Mem) (x1 x2 x3 fl rf best : Int32) {m : Nat} (hm : m < 12) : L_X5_bestPlay w G (c + 1) A x1 x2 x3 0 fl rf best (nI m) = if fl < (if best < rf then best else rf) then (if ((x1 ||| x2) &&& nI (2 ^ m)) = 0 then (G A x1 (x2 ||| nI (2 ^ m)) (x3 - 1) 1 fl (if best < rf then best else rf)).bind fun q => L_X5_bestPlay w G c q.2 x1 x2 x3 0 fl rf (if q.1 < best then q.1 else best) (nI (m + 1)) else L_X5_bestPlay w G c A x1 x2 x3 0 fl rf best (nI (m + 1))) else some (best, A) := by
  rw [L_X5_bestPlay, if_neg (ge12 hm)]
  simp only [if_true, n_pow2 (show m < 31 by omega), nI_11]
theorem cl_be {A : z_Mem} {P : t_P} {k e v : Nat} (he : e < 4096) (hv : v < 4096) {fl rf : Int32} (hfr : fl.toInt < rf.toInt) (G : z_Mem → Int32 → Int32 → Int32 → Int32 → Int32 → Int32 → Option (Int32 × z_Mem)) (hG : ∀ (e' v' : Nat) (fl rf : Int32), e' < 4096 → v' < 4096 → fl.toInt < rf.toInt → ∃ x, G A (nI e') (nI v') (nI k) 0 fl rf = some (x, A) ∧ ce fl.toInt rf.toInt x.toInt (mm P k false e' v')) (x0 : Int) : ∀ (j m c : Nat) (best : Int32), m + j = 12 → j < c → ce fl.toInt rf.toInt best.toInt (mmL (fun m => mm P k false (e ||| 2 ^ m) v) (fun m => !(e ||| v).testBit m) true x0 m) → ∃ x, L_X5_bestPlay w G c A (nI e) (nI v) (nI (k + 1)) 1 fl rf best (nI m) = some (x, A) ∧ ce fl.toInt rf.toInt x.toInt (mmL (fun m => mm P k false (e ||| 2 ^ m) v) (fun m => !(e ||| v).testBit m) true x0 12) := by
  intro j
  induction j with
  | zero =>
    intro m c best h1 h2 h3
    obtain ⟨c, rfl⟩ : ∃ x, c = x + 1 := ⟨c - 1, by omega⟩
    obtain rfl : m = 12 := by omega
    refine ⟨best, ?_, h3⟩
    rw [L_X5_bestPlay, if_pos (by decide)]
  | succ j ih =>
    intro m c best h1 h2 h3
    obtain ⟨c, rfl⟩ : ∃ x, c = x + 1 := ⟨c - 1, by omega⟩
    have k1 : nI (k + 1) - 1 = nI k := pk_sub (b := 1) (by omega)
    have hl := i_max fl best
    rw [bp_e G c A _ _ _ fl rf best (show m < 12 by omega), n_or, n_or, k1]
    by_cases g : (if fl < best then best else fl) < rf
    · rw [if_pos g]
      have g' := Int32.lt_iff_toInt_lt.mp g
      rw [hl] at g'
      cases av : (e ||| v).testBit m
      · rw [if_pos ((av_c (by omega)).mpr av)]
        obtain ⟨x, r1, r2⟩ := hG (e ||| 2 ^ m) v (if fl < best then best else fl) rf (or_lt he (by omega)) hv (by rw [hl]; exact g')
        rw [r1, bindS]
        dsimp only
        refine ih (m + 1) c _ (by omega) (by omega) ?_
        rw [i_max, mmL, if_pos (by rw [av]; rfl)]
        rw [hl] at r2
        unfold ce mx at *
        simp only [if_true]
        omega
      · rw [if_neg (fun y => by rw [(av_c (by omega)).mp y] at av; exact absurd av (by decide))]
        refine ih (m + 1) c best (by omega) (by omega) ?_
        rw [mmL, if_neg (by rw [av]; decide)]
        exact h3
    · rw [if_neg g]
      refine ⟨best, rfl, ?_⟩
      have g' := Int32.le_iff_toInt_le.mp (i_nlt.mp g)
      rw [hl] at g'
      have up := mmL_up (f := fun m => mm P k false (e ||| 2 ^ m) v) (av := fun m => !(e ||| v).testBit m) (x := x0) (j + 1) m
      rw [h1] at up
      unfold ce at *
      omega
theorem cl_bw {A : z_Mem} {P : t_P} {k e v : Nat} (he : e < 4096) (hv : v < 4096) {fl rf : Int32} (hfr : fl.toInt < rf.toInt) (G : z_Mem → Int32 → Int32 → Int32 → Int32 → Int32 → Int32 → Option (Int32 × z_Mem)) (hG : ∀ (e' v' : Nat) (fl rf : Int32), e' < 4096 → v' < 4096 → fl.toInt < rf.toInt → ∃ x, G A (nI e') (nI v') (nI k) 1 fl rf = some (x, A) ∧ ce fl.toInt rf.toInt x.toInt (mm P k true e' v')) (x0 : Int) : ∀ (j m c : Nat) (best : Int32), m + j = 12 → j < c → ce fl.toInt rf.toInt best.toInt (mmL (fun m => mm P k true e (v ||| 2 ^ m)) (fun m => !(e ||| v).testBit m) false x0 m) → ∃ x, L_X5_bestPlay w G c A (nI e) (nI v) (nI (k + 1)) 0 fl rf best (nI m) = some (x, A) ∧ ce fl.toInt rf.toInt x.toInt (mmL (fun m => mm P k true e (v ||| 2 ^ m)) (fun m => !(e ||| v).testBit m) false x0 12) := by
  intro j
  induction j with
  | zero =>
    intro m c best h1 h2 h3
    obtain ⟨c, rfl⟩ : ∃ x, c = x + 1 := ⟨c - 1, by omega⟩
    obtain rfl : m = 12 := by omega
    refine ⟨best, ?_, h3⟩
    rw [L_X5_bestPlay, if_pos (by decide)]
  | succ j ih =>
    intro m c best h1 h2 h3
    obtain ⟨c, rfl⟩ : ∃ x, c = x + 1 := ⟨c - 1, by omega⟩
    have k1 : nI (k + 1) - 1 = nI k := pk_sub (b := 1) (by omega)
    have hl := i_min best rf
    rw [bp_w G c A _ _ _ fl rf best (show m < 12 by omega), n_or, n_or, k1]
    by_cases g : fl < (if best < rf then best else rf)
    · rw [if_pos g]
      have g' := Int32.lt_iff_toInt_lt.mp g
      rw [hl] at g'
      cases av : (e ||| v).testBit m
      · rw [if_pos ((av_c (by omega)).mpr av)]
        obtain ⟨x, r1, r2⟩ := hG e (v ||| 2 ^ m) fl (if best < rf then best else rf) he (or_lt hv (by omega)) (by rw [hl]; exact g')
        rw [r1, bindS]
        dsimp only
        refine ih (m + 1) c _ (by omega) (by omega) ?_
        rw [i_min, mmL, if_pos (by rw [av]; rfl)]
        rw [hl] at r2
        unfold ce mx at *
        simp only [Bool.false_eq_true, if_false]
        omega
      · rw [if_neg (fun y => by rw [(av_c (by omega)).mp y] at av; exact absurd av (by decide))]
        refine ih (m + 1) c best (by omega) (by omega) ?_
        rw [mmL, if_neg (by rw [av]; decide)]
        exact h3
    · rw [if_neg g]
      refine ⟨best, rfl, ?_⟩
      have g' := Int32.le_iff_toInt_le.mp (i_nlt.mp g)
      rw [hl] at g'
      have dn := mmL_dn (f := fun m => mm P k true e (v ||| 2 ^ m)) (av := fun m => !(e ||| v).testBit m) (x := x0) (j + 1) m
      rw [h1] at dn
      unfold ce at *
      omega
theorem c_play (hw : 1000 ≤ w) {A : z_Mem} {P : t_P} (ha : W_c A P) : ∀ (k n : Nat) (b : Bool) (e v : Nat) (fl rf : Int32), k < n → k < 100 → e < 4096 → v < 4096 → fl.toInt < rf.toInt → ∃ x, F_X5_bestPlay w n A (nI e) (nI v) (nI k) (z_tb b) fl rf = some (x, A) ∧ ce fl.toInt rf.toInt x.toInt (mm P k b e v) := by
  intro k
  induction k with
  | zero =>
    intro n b e v fl rf h1 h100 he hv hfr
    obtain ⟨n, rfl⟩ : ∃ x, n = x + 1 := ⟨n - 1, by omega⟩
    obtain ⟨x, r1, r2⟩ := f_lead (w := w) ha he hv
    refine ⟨x, ?_, by rw [r2]; rfl⟩
    rw [F_X5_bestPlay]
    unfold Fb_X5_bestPlay
    rw [if_neg (by decide), r1, bindS]
  | succ k ih =>
    intro n b e v fl rf h1 h100 he hv hfr
    obtain ⟨n, rfl⟩ : ∃ x, n = x + 1 := ⟨n - 1, by omega⟩
    have k1 : nI (k + 1) - 1 = nI k := pk_sub (b := 1) (by omega)
    have k2 : (0 : Int32) < nI (k + 1) := nI_lt (a := 0) (by omega) (by omega)
    rw [F_X5_bestPlay, mm]
    unfold Fb_X5_bestPlay
    rw [if_pos k2, k1]
    cases b
    · obtain ⟨y, y1, y2⟩ := ih n true e v fl rf (by omega) (by omega) he hv hfr
      have y1' : F_X5_bestPlay w n A (nI e) (nI v) (nI k) 1 fl rf = _ := y1
      rw [if_pos (show z_tb false = 0 from rfl), y1', bindS]
      exact cl_bw (w := w) he hv hfr (F_X5_bestPlay w n) (fun e' v' fl rf h1 h2 h3 => ih n true e' v' fl rf (by omega) (by omega) h1 h2 h3) (mm P k true e v) 12 0 w y (by omega) (by omega) y2
    · obtain ⟨y, y1, y2⟩ := ih n false e v fl rf (by omega) (by omega) he hv hfr
      have y1' : F_X5_bestPlay w n A (nI e) (nI v) (nI k) 0 fl rf = _ := y1
      rw [if_neg (show ¬ z_tb true = 0 by decide), y1', bindS]
      exact cl_be (w := w) he hv hfr (F_X5_bestPlay w n) (fun e' v' fl rf h1 h2 h3 => ih n false e' v' fl rf (by omega) (by omega) h1 h2 h3) (mm P k false e v) 12 0 w y (by omega) (by omega) y2
/-! the reference's play -/
def p_nx (b : Bool) (s : Option (Int × Nat)) (fx : Int) (m : Nat) : Option (Int × Nat) := match s with
  | none => some (fx, m)
  | some (y, j) => if (if b = true then fx ≤ y else y ≤ fx) then some (y, j) else some (fx, m)
def pf (f : Nat → Int) (av : Nat → Bool) (b : Bool) : Nat → Option (Int × Nat)
  | 0 => none
  | m + 1 => if av m = true then p_nx b (pf f av b m) (f m) m else pf f av b m
def pfin (f : Nat → Int) (av : Nat → Bool) (b : Bool) (x : Int) : Int × Nat := (p_nx b (pf f av b 12) x 12).getD (x, 12)
theorem pf_mm {f : Nat → Int} {av : Nat → Bool} {b : Bool} {x : Int} : ∀ m, (pf f av b m = none ∧ mmL f av b x m = x) ∨ ∃ y j, pf f av b m = some (y, j) ∧ mmL f av b x m = mx b x y ∧ j < m := by
  intro m
  induction m with
  | zero => exact Or.inl ⟨rfl, rfl⟩
  | succ m ih =>
    rw [pf, mmL]
    cases a : av m
    · rw [if_neg (by decide), if_neg (by decide)]
      rcases ih with h | ⟨y, j, h1, h2, h3⟩
      · exact Or.inl h
      · exact Or.inr ⟨y, j, h1, h2, by omega⟩
    · rw [if_pos rfl, if_pos rfl]
      rcases ih with ⟨h1, h2⟩ | ⟨y, j, h1, h2, h3⟩
      · rw [h1, h2]
        exact Or.inr ⟨f m, m, rfl, rfl, by omega⟩
      · rw [h1, h2]
        unfold p_nx
        dsimp only
        by_cases g : (if b = true then f m ≤ y else y ≤ f m)
        · rw [if_pos g]
          refine Or.inr ⟨y, j, rfl, ?_, by omega⟩
          unfold mx
          cases b <;> simp at g ⊢ <;> omega
        · rw [if_neg g]
          refine Or.inr ⟨f m, m, rfl, ?_, by omega⟩
          unfold mx
          cases b <;> simp at g ⊢ <;> omega
theorem pfin_mm {f : Nat → Int} {av : Nat → Bool} {b : Bool} {x : Int} : (pfin f av b x).1 = mmL f av b x 12 ∧ (pfin f av b x).2 ≤ 12 := by
  unfold pfin
  rcases pf_mm (f := f) (av := av) (b := b) (x := x) 12 with ⟨h1, h2⟩ | ⟨y, j, h1, h2, h3⟩
  · rw [h1, h2]; exact ⟨rfl, Nat.le_refl 12⟩
  · rw [h1, h2]
    unfold p_nx
    dsimp only
    by_cases g : (if b = true then x ≤ y else y ≤ x)
    · rw [if_pos g]
      refine ⟨?_, show j ≤ 12 by omega⟩
      show y = _
      unfold mx
      cases b <;> simp at g ⊢ <;> omega
    · rw [if_neg g]
      refine ⟨?_, Nat.le_refl 12⟩
      show x = _
      unfold mx
      cases b <;> simp at g ⊢ <;> omega
def p_st (s : Option (Int × Nat)) (best wth : Int32) : Prop := (s = none ∧ wth = -1) ∨ ∃ y j, s = some (y, j) ∧ j ≤ 12 ∧ best.toInt = y ∧ wth = nI j
/-- a child is taken or not -/
theorem p_step {x : Int32} {fx : Int} (hx : x.toInt = fx) {b : Bool} {s : Option (Int × Nat)} {best wth : Int32} (h : p_st s best wth) {α : Type} (K : Int32 → Int32 → Option α) (m : Nat) (hm : m ≤ 12) : ∃ best' wth', (if wth < (0 : Int32) then K x (nI m) else if z_tb b = (0 : Int32) then (if x < best then K x (nI m) else K best wth) else (if best < x then K x (nI m) else K best wth)) = K best' wth' ∧ p_st (p_nx b s fx m) best' wth' := by
  rcases h with ⟨rfl, rfl⟩ | ⟨y, j, rfl, hj, hy, rfl⟩
  · refine ⟨x, nI m, ?_, Or.inr ⟨fx, m, rfl, hm, hx, rfl⟩⟩
    rw [if_pos (by decide)]
  · rw [if_neg (nI_pos (by omega))]
    unfold p_nx
    dsimp only
    cases b
    · rw [if_pos (show z_tb false = 0 from rfl)]
      by_cases g : x < best
      · have := Int32.lt_iff_toInt_lt.mp g
        rw [if_pos g]
        exact ⟨x, nI m, rfl, Or.inr ⟨fx, m, by rw [if_neg (by simp; omega)], hm, hx, rfl⟩⟩
      · have := Int32.le_iff_toInt_le.mp (i_nlt.mp g)
        rw [if_neg g]
        exact ⟨best, nI j, rfl, Or.inr ⟨y, j, by rw [if_pos (by simp; omega)], hj, hy, rfl⟩⟩
    · rw [if_neg (show ¬ z_tb true = 0 by decide)]
      by_cases g : best < x
      · have := Int32.lt_iff_toInt_lt.mp g
        rw [if_pos g]
        exact ⟨x, nI m, rfl, Or.inr ⟨fx, m, by rw [if_neg (by simp; omega)], hm, hx, rfl⟩⟩
      · have := Int32.le_iff_toInt_le.mp (i_nlt.mp g)
        rw [if_neg g]
        exact ⟨best, nI j, rfl, Or.inr ⟨y, j, by rw [if_pos (by simp; omega)], hj, hy, rfl⟩⟩
theorem pl_m (G : z_Mem → Int32 → Int32 → Int32 → Int32 → Option (Int32 × z_Mem)) (c : Nat) (N : z_Mem) (x1 x2 best wth : Int32) (e v : Nat) (b : Bool) {m : Nat} (hm : m < 12) {x : Int32} (hx : (e ||| v).testBit m = false → G N (x1 + 1) x2 (nI (if b = true then e ||| 2 ^ m else e)) (nI (if b = true then v else v ||| 2 ^ m)) = some (x, N)) : L_X12_plays w G (c + 1) N x1 x2 (nI e) (nI v) (z_tb b) best wth (nI m) = if (e ||| v).testBit m = true then L_X12_plays w G c N x1 x2 (nI e) (nI v) (z_tb b) best wth (nI (m + 1)) else (if wth < (0 : Int32) then L_X12_plays w G c N x1 x2 (nI e) (nI v) (z_tb b) x (nI m) (nI (m + 1)) else if z_tb b = (0 : Int32) then (if x < best then L_X12_plays w G c N x1 x2 (nI e) (nI v) (z_tb b) x (nI m) (nI (m + 1)) else L_X12_plays w G c N x1 x2 (nI e) (nI v) (z_tb b) best wth (nI (m + 1))) else (if best < x then L_X12_plays w G c N x1 x2 (nI e) (nI v) (z_tb b) x (nI m) (nI (m + 1)) else L_X12_plays w G c N x1 x2 (nI e) (nI v) (z_tb b) best wth (nI (m + 1)))) := by
  have q1 : ¬ (12 : Int32) < nI m := i_nlt.mpr (nI_le (b := 12) (by omega) (by omega))
  rw [L_X12_plays, if_neg q1, if_neg (ge12 hm), n_or, f_has12, bindS]
  cases av : (e ||| v).testBit m
  · have gb : ¬ ((nI (e ||| v) >>> (nI m &&& 31)) &&& 1) = 1 := fun y => by
      have := (bit_n (by omega)).mp y
      rw [av] at this
      exact absurd this (by decide)
    have hx' := hx av
    dsimp only
    rw [if_neg (by rw [decide_eq_true_iff]; exact gb), if_neg (ge12 hm), n_pow2 (by omega), n_or, n_or]
    cases b
    · rw [if_pos (show z_tb false = 0 from rfl)]
      simp only [Bool.false_eq_true, if_false] at hx'
      rw [hx', bindS, nI_11]
      simp only [Bool.false_eq_true, if_false]
    · rw [if_neg (show ¬ z_tb true = 0 by decide)]
      simp only [if_true] at hx'
      rw [hx', bindS, nI_11]
      simp only [Bool.false_eq_true, if_false]
  · rw [if_pos (decide_eq_true ((bit_n (by omega)).mpr av)), if_pos rfl, nI_11]
theorem pl_12 (G : z_Mem → Int32 → Int32 → Int32 → Int32 → Option (Int32 × z_Mem)) (c : Nat) (N : z_Mem) (x1 x2 best wth : Int32) (e v : Nat) (b : Bool) {x : Int32} (hx : G N (x1 + 1) x2 (nI e) (nI v) = some (x, N)) : L_X12_plays w G (c + 1) N x1 x2 (nI e) (nI v) (z_tb b) best wth 12 = (if wth < (0 : Int32) then L_X12_plays w G c N x1 x2 (nI e) (nI v) (z_tb b) x 12 13 else if z_tb b = (0 : Int32) then (if x < best then L_X12_plays w G c N x1 x2 (nI e) (nI v) (z_tb b) x 12 13 else L_X12_plays w G c N x1 x2 (nI e) (nI v) (z_tb b) best wth 13) else (if best < x then L_X12_plays w G c N x1 x2 (nI e) (nI v) (z_tb b) x 12 13 else L_X12_plays w G c N x1 x2 (nI e) (nI v) (z_tb b) best wth 13)) := by
  have e13 : (12 : Int32) + 1 = 13 := by decide
  rw [L_X12_plays, if_neg (by decide), if_pos (by decide), if_pos (by decide), Int32.or_zero, Int32.or_zero, e13]
  cases b
  · rw [if_pos (show z_tb false = 0 from rfl), hx, bindS]
  · rw [if_neg (show ¬ z_tb true = 0 by decide), hx, bindS]
theorem p_fin {s : Option (Int × Nat)} {b : Bool} {x0 : Int} {b' w' : Int32} (h : p_st (p_nx b s x0 12) b' w') : b'.toInt = ((p_nx b s x0 12).getD (x0, 12)).1 ∧ w' = nI ((p_nx b s x0 12).getD (x0, 12)).2 := by
  rcases h with ⟨h, _⟩ | ⟨y, j, h, _, h4, h5⟩
  · exfalso
    revert h
    unfold p_nx
    cases s with
    | none => intro h; cases h
    | some p =>
      obtain ⟨y0, j0⟩ := p
      dsimp only
      intro h
      by_cases g : (if b = true then x0 ≤ y0 else y0 ≤ x0)
      · rw [if_pos g] at h; cases h
      · rw [if_neg g] at h; cases h
  · rw [h]; exact ⟨h4, h5⟩
theorem ml_pl {N : z_Mem} {t T e v : Nat} (b : Bool) (ht : t < 100) (G : z_Mem → Int32 → Int32 → Int32 → Int32 → Option (Int32 × z_Mem)) (f : Nat → Int) (av : Nat → Bool) (x0 : Int) (hav : ∀ m, av m = !(e ||| v).testBit m) (hf : ∀ m, m < 12 → ∃ x, G N (nI t + 1) (nI T) (nI (if b = true then e ||| 2 ^ m else e)) (nI (if b = true then v else v ||| 2 ^ m)) = some (x, N) ∧ x.toInt = f m) (hx : ∃ x, G N (nI t + 1) (nI T) (nI e) (nI v) = some (x, N) ∧ x.toInt = x0) : ∀ (j m c : Nat) (best wth : Int32), m + j = 12 → j + 1 < c → p_st (pf f av b m) best wth → ∃ y, L_X12_plays w G c N (nI t) (nI T) (nI e) (nI v) (z_tb b) best wth (nI m) = some (y, if t = 0 then z_wI N 137 28 (nI (pfin f av b x0).2) else N) ∧ y.toInt = (pfin f av b x0).1 := by
  intro j
  induction j with
  | zero =>
    intro m c best wth h1 h2 h3
    obtain ⟨c, rfl⟩ : ∃ x, c = x + 2 := ⟨c - 2, by omega⟩
    obtain rfl : m = 12 := by omega
    obtain ⟨x, x1, x2⟩ := hx
    have e0 := pl_12 (w := w) G (c + 1) N (nI t) (nI T) best wth e v b x1
    obtain ⟨b', w', s1, s2⟩ := p_step (b := b) x2 h3 (fun p q => L_X12_plays w G (c + 1) N (nI t) (nI T) (nI e) (nI v) (z_tb b) p q 13) 12 (by omega)
    have e1 : L_X12_plays w G (c + 2) N (nI t) (nI T) (nI e) (nI v) (z_tb b) best wth (nI 12) = L_X12_plays w G (c + 1) N (nI t) (nI T) (nI e) (nI v) (z_tb b) b' w' 13 := e0.trans s1
    have key := p_fin s2
    rw [e1, L_X12_plays, if_pos (by decide)]
    refine ⟨b', ?_, key.1⟩
    by_cases t0 : t = 0
    · subst t0
      rw [if_pos (show nI 0 = 0 from rfl), if_pos rfl, key.2]
      rfl
    · rw [if_neg (show ¬ nI t = 0 from fun y => t0 ((nI_eq (b := 0) (by omega) (by omega)).mp y)), if_neg t0]
  | succ j ih =>
    intro m c best wth h1 h2 h3
    obtain ⟨c, rfl⟩ : ∃ x, c = x + 1 := ⟨c - 1, by omega⟩
    obtain ⟨x, x1, x2⟩ := hf m (by omega)
    rw [pl_m (w := w) G c N (nI t) (nI T) best wth e v b (show m < 12 by omega) (fun _ => x1)]
    cases g : (e ||| v).testBit m
    · rw [if_neg (by decide)]
      obtain ⟨b', w', s1, s2⟩ := p_step (b := b) x2 h3 (fun p q => L_X12_plays w G c N (nI t) (nI T) (nI e) (nI v) (z_tb b) p q (nI (m + 1))) m (by omega)
      rw [s1]
      refine ih (m + 1) c b' w' (by omega) (by omega) ?_
      rw [pf, if_pos (by rw [hav, g]; rfl)]
      exact s2
    · rw [if_pos rfl]
      refine ih (m + 1) c best wth (by omega) (by omega) ?_
      rw [pf, if_neg (by rw [hav, g]; decide)]
      exact h3
theorem m_play (hw : 1000 ≤ w) {N : z_Mem} {P : t_P} (hn : Qn N P) (h8 : N.1 142 8 = P.1 8) {T : Nat} (hT : T < 100) : ∀ (k n t e v : Nat), t + k = T → k < n → e < 4096 → v < 4096 → ∃ x, F_X12_plays w n N (nI t) (nI T) (nI e) (nI v) = some (x, if t = 0 ∧ 0 < k then z_wI N 137 28 (nI (pfin (fun m => mm P (k - 1) (!(t % 2 == 0)) (if (t % 2 == 0) = true then e ||| 2 ^ m else e) (if (t % 2 == 0) = true then v else v ||| 2 ^ m)) (fun m => !(e ||| v).testBit m) (t % 2 == 0) (mm P (k - 1) (!(t % 2 == 0)) e v)).2) else N) ∧ x.toInt = mm P k (t % 2 == 0) e v := by
  intro k
  induction k with
  | zero =>
    intro n t e v h1 h2 he hv
    obtain ⟨n, rfl⟩ : ∃ x, n = x + 1 := ⟨n - 1, by omega⟩
    obtain rfl : t = T := by omega
    rw [F_X12_plays, if_neg (by omega)]
    unfold Fb_X12_plays
    rw [if_pos rfl, h8]
    have k4 : (4096 : Int32) = nI 4096 := rfl
    by_cases g : P.1 8 = 0
    · obtain ⟨x1, x2, _⟩ := hn (4095 - v) (by omega)
      rw [if_pos g, pm_ok hv, k4, nI_add, if_neg (n_in (by omega) (by omega)), if_neg (n_in (by omega) (by omega)), nI_clamp (by omega), nI_clamp (by omega), x1, x2]
      refine ⟨_, rfl, ?_⟩
      rw [mm]
      unfold ld
      rw [if_pos g]
    · obtain ⟨x1, x2, _⟩ := hn e he
      rw [if_neg g, k4, nI_add, if_neg (n_in (by omega) (by omega)), if_neg (n_in (by omega) (by omega)), nI_clamp (by omega), nI_clamp (by omega), x1, x2]
      refine ⟨_, rfl, ?_⟩
      rw [mm]
      unfold ld
      rw [if_neg g]
  | succ k ih =>
    intro n t e v h1 h2 he hv
    obtain ⟨n, rfl⟩ : ∃ x, n = x + 1 := ⟨n - 1, by omega⟩
    have hG : ∀ e' v', e' < 4096 → v' < 4096 → ∃ x, F_X12_plays w n N (nI (t + 1)) (nI T) (nI e') (nI v') = some (x, N) ∧ x.toInt = mm P k (!(t % 2 == 0)) e' v' := by
      intro e' v' g1 g2
      obtain ⟨x, x1, x2⟩ := ih n (t + 1) e' v' (by omega) (by omega) g1 g2
      rw [if_neg (by omega)] at x1
      have pb : ((t + 1) % 2 == 0) = !(t % 2 == 0) := by
        rcases Nat.mod_two_eq_zero_or_one t with g | g
        · rw [g, show (t + 1) % 2 = 1 by omega]; rfl
        · rw [g, show (t + 1) % 2 = 0 by omega]; rfl
      rw [pb] at x2
      exact ⟨x, x1, x2⟩
    obtain ⟨y, y1, y2⟩ := ml_pl (w := w) (N := N) (t := t) (T := T) (e := e) (v := v) (t % 2 == 0) (by omega) (F_X12_plays w n) (fun m => mm P k (!(t % 2 == 0)) (if (t % 2 == 0) = true then e ||| 2 ^ m else e) (if (t % 2 == 0) = true then v else v ||| 2 ^ m)) (fun m => !(e ||| v).testBit m) (mm P k (!(t % 2 == 0)) e v) (fun _ => rfl) (fun m hm => by
      rw [nI_11]
      exact hG _ _ (by split; exact or_lt he hm; exact he) (by split; exact hv; exact or_lt hv hm)) (by rw [nI_11]; exact hG e v he hv) 12 0 w 0 (-1) (by omega) (by omega) (Or.inl ⟨rfl, rfl⟩)
    rw [pfin_mm.1] at y2
    have y1' : L_X12_plays w (F_X12_plays w n) w N (nI t) (nI T) (nI e) (nI v) (z_tb (t % 2 == 0)) 0 (-1) 0 = _ := y1
    refine ⟨y, ?_, y2⟩
    have e2 : nI t - nI t / 2 * 2 = nI (t % 2) := pk_rem (d := 2) (by omega) (by omega) (by omega)
    have cnd : (t = 0 ∧ 0 < k + 1) ↔ t = 0 := by omega
    rw [F_X12_plays]
    unfold Fb_X12_plays
    rw [if_neg (fun y => by have := (nI_eq (a := t) (b := T) (by omega) (by omega)).mp y; omega), e2]
    simp only [cnd, Nat.add_sub_cancel]
    rcases Nat.mod_two_eq_zero_or_one t with g | g
    · rw [g] at y1' ⊢
      rw [if_pos (show nI 0 = 0 from rfl)]
      exact y1'
    · rw [g] at y1' ⊢
      rw [if_neg (show ¬ nI 1 = 0 by decide)]
      exact y1'
variable {M : z_Mem}
theorem far_t : (-1000000 : Int32).toInt = -1000000 ∧ (1000000 : Int32).toInt = 1000000 := ⟨rfl, rfl⟩
theorem call_game (hw : 10000 ≤ w) (h : r_Rel M) (a : Int32) : r_ok (F_X11_game w M a) (fun M => F_X12_game w M a) := by
  obtain ⟨P, hc, hb, hv⟩ := h.2.2.2.2.2.2.1
  by_cases g : (0 : Int32) ≤ a ∧ a ≤ 4
  · have m1 := fun N => in_t (w := w) (M := N) (a := a) (B := 0) (C := 4) 0 4 rfl rfl g
    have w1 : ∀ N, F_X11_isWithin w N a 0 4 = some (true, N) := fun N => by rw [f_wi, decide_eq_true g]
    obtain ⟨T, _, hT, rfl⟩ := (i_rng 0 4 (by omega) (by omega)).mp g
    obtain ⟨A, a1, a2, a3⟩ := f_weigh (w := w) (by omega) hc hv
    obtain ⟨N, n1, n2, n3, n4⟩ := f_pN (w := w) hw hb hv a3 0
    have h8 : N.1 142 8 = P.1 8 := by rw [N_7 hb a3 n3]; exact hb.1.2.2.2.1
    obtain ⟨x, x1, x2⟩ := c_play (w := w) (by omega) a2 T 10 true 0 0 (-1000000) 1000000 (by omega) (by omega) (by omega) (by omega) (by rw [far_t.1, far_t.2]; omega)
    obtain ⟨y, y1, y2⟩ := m_play (w := w) (by omega) n2 h8 (T := T) (by omega) T 10 0 0 0 (by omega) (by omega) (by omega) (by omega)
    have hr := mm_rng hv T true 0 0
    have e : x = y := by
      rw [← Int32.toInt_inj]
      rw [far_t.1, far_t.2] at x2
      have y2' : y.toInt = mm P T true 0 0 := y2
      unfold ce at x2
      omega
    subst e
    have x1' : F_X5_bestPlay w 10 A 0 0 (nI T) 1 (-1000000) 1000000 = _ := x1
    obtain ⟨z, y1'⟩ : ∃ z, F_X12_plays w 10 N 0 (nI T) 0 0 = some (x, if 0 = 0 ∧ 0 < T then z_wI N 137 28 z else N) := ⟨_, y1⟩
    refine ⟨x, z_wI A 0 11 0, (if 0 = 0 ∧ 0 < T then z_wI N 137 28 z else N), ?_, ?_, ?_⟩
    · simp (maxSteps := 2000000) (decide := true) (disch := omega) only [F_X11_game, F_X5_playedOut, F_X11_answer, w1, a1, x1', bindS, wI_row, wI_slot, wI_same, wI_2, nI_p0, false_or, nle_f, nI_cl, n_lad, n_adl, nI_add, if_true, if_false, ite_true, ite_false, ↓reduceIte]
    · show F_X12_game w _ (nI T) = _
      unfold F_X12_game
      rw [m1, bindS, if_pos rfl, n1, bindS, y1', bindS]
    · refine r_pl h 0 a3 (fun a h3 h4 h5 => ?_) ?_ (fun k h3 h4 h5 => ?_) ?_
      · have e0 : ∀ z, (if 0 = 0 ∧ 0 < T then z_wI N 137 28 z else N).1 a = N.1 a := fun z => by
          split
          · exact wI_row h5
          · rfl
        rw [e0, n3 a h3 h4]
        simp (maxSteps := 2000000) (decide := true) (disch := omega) only [bindS, wI_row, wI_slot, wI_same, wI_2, nI_p0, false_or, nle_f, nI_cl, n_lad, n_adl, nI_add, if_true, if_false, ite_true, ite_false, ↓reduceIte]
      · have e0 : ∀ z, (if 0 = 0 ∧ 0 < T then z_wI N 137 28 z else N).1 137 0 = N.1 137 0 := fun z => by
          split
          · exact wI_slot (by omega)
          · rfl
        rw [e0, n3 137 (by omega) (by omega)]
        simp (maxSteps := 2000000) (decide := true) (disch := omega) only [bindS, wI_row, wI_slot, wI_same, wI_2, nI_p0, false_or, nle_f, nI_cl, n_lad, n_adl, nI_add, if_true, if_false, ite_true, ite_false, ↓reduceIte]
      · have e0 : ∀ z, (if 0 = 0 ∧ 0 < T then z_wI N 137 28 z else N).1 137 k = N.1 137 k := fun z => by
          split
          · exact wI_slot h5
          · rfl
        rw [e0, n3 137 (by omega) (by omega)]
        simp (maxSteps := 2000000) (decide := true) (disch := omega) only [bindS, wI_row, wI_slot, wI_same, wI_2, nI_p0, false_or, nle_f, nI_cl, n_lad, n_adl, nI_add, if_true, if_false, ite_true, ite_false, ↓reduceIte]
      · have e0 : ∀ z, (if 0 = 0 ∧ 0 < T then z_wI N 137 28 z else N).2 = N.2 := fun z => by
          split <;> rfl
        rw [e0, n4]
  · have m1 := fun N => in_f (w := w) (M := N) (a := a) (B := 0) (C := 4) 0 4 rfl rfl g
    have w1 : ∀ N, F_X11_isWithin w N a 0 4 = some (false, N) := fun N => by rw [f_wi, decide_eq_false g]
    exact ⟨-1, z_wI M 0 11 5, z_st M 5, by simp (maxSteps := 2000000) (decide := true) (disch := omega) only [F_X11_game, F_X11_refuse, w1, Bool.false_eq_true, bindS, wI_row, wI_slot, wI_same, wI_2, nI_p0, false_or, nle_f, nI_cl, n_lad, n_adl, nI_add, if_true, if_false, ite_true, ite_false, ↓reduceIte], by simp (maxSteps := 2000000) (decide := true) (disch := omega) only [F_X12_game, F_X12_refuse, m1, z_st, wI_wI, Bool.false_eq_true, bindS, wI_row, wI_slot, wI_same, wI_2, nI_p0, false_or, nle_f, nI_cl, n_lad, n_adl, nI_add, if_true, if_false, ite_true, ite_false, ↓reduceIte], r_stv 5 h⟩
theorem cl_fm (hw : 1000 ≤ w) {A : z_Mem} {P : t_P} (hv : VP P) (ha : W_c A P) {k : Nat} (hk : k < 5) (f : Nat → Int) (av : Nat → Bool) (hf : ∀ m, f m = mm P k false (2 ^ m) 0) (hav : ∀ m, av m = true) : ∀ (j m c : Nat) (mv gr : Int32), m + j = 12 → j < c → ((pf f av true m = none ∧ mv = -1 ∧ gr = -1000000 ∧ m = 0) ∨ ∃ y i, pf f av true m = some (y, i) ∧ i < 12 ∧ mv = nI i ∧ gr.toInt = y ∧ -4800 ≤ y ∧ y ≤ 4800) → ∃ y i, pf f av true 12 = some (y, i) ∧ i < 12 ∧ L_X5_firstMove w c A (nI (k + 1)) mv gr (nI m) = some (if mm P k false 0 0 ≤ y then nI i else -1, A) := by
  have k1 : nI (k + 1) - 1 = nI k := pk_sub (b := 1) (by omega)
  intro j
  induction j with
  | zero =>
    intro m c mv gr h1 h2 h3
    obtain ⟨c, rfl⟩ : ∃ x, c = x + 1 := ⟨c - 1, by omega⟩
    obtain rfl : m = 12 := by omega
    rcases h3 with ⟨_, _, _, h⟩ | ⟨y, i, g1, g2, rfl, g4, g5, g6⟩
    · omega
    · obtain ⟨x, x1, x2⟩ := c_play (w := w) hw ha k 10 false 0 0 gr 1000000 (by omega) (by omega) (by omega) (by omega) (by rw [g4, far_t.2]; omega)
      have x1' : F_X5_bestPlay w 10 A 0 0 (nI k) 0 gr 1000000 = _ := x1
      have hr := mm_rng hv k false 0 0
      refine ⟨y, i, g1, g2, ?_⟩
      rw [L_X5_firstMove, if_pos (by decide), k1, x1', bindS]
      rw [g4, far_t.2] at x2
      unfold ce at x2
      by_cases g : mm P k false 0 0 ≤ y
      · rw [if_pos g, if_pos (Int32.le_iff_toInt_le.mpr (by rw [g4]; dsimp only; omega))]
      · rw [if_neg g, if_neg (fun z => by have := Int32.le_iff_toInt_le.mp z; rw [g4] at this; dsimp only at this; omega)]
  | succ j ih =>
    intro m c mv gr h1 h2 h3
    obtain ⟨c, rfl⟩ : ∃ x, c = x + 1 := ⟨c - 1, by omega⟩
    have hgr : -1000000 ≤ gr.toInt ∧ gr.toInt ≤ 4800 := by
      rcases h3 with ⟨_, _, h, _⟩ | ⟨y, i, g1, g2, _, g4, g5, g6⟩
      · rw [h, far_t.1]; omega
      · rw [g4]; omega
    have hp : 2 ^ m < 4096 := show 2 ^ m < 2 ^ 12 from Nat.pow_lt_pow_right (by omega) (by omega)
    obtain ⟨x, x1, x2⟩ := c_play (w := w) hw ha k 10 false (2 ^ m) 0 gr 1000000 (by omega) (by omega) hp (by omega) (by rw [far_t.2]; omega)
    have x1' : F_X5_bestPlay w 10 A (nI (2 ^ m)) 0 (nI k) 0 gr 1000000 = _ := x1
    have hr := mm_rng hv k false (2 ^ m) 0
    rw [far_t.2] at x2
    unfold ce at x2
    rw [L_X5_firstMove, if_neg (ge12 (by omega)), k1, n_pow2 (by omega), x1', bindS, nI_11]
    have pe : pf f av true (m + 1) = p_nx true (pf f av true m) (f m) m := by rw [pf, if_pos (hav m)]
    have upd1 : gr.toInt < f m → (pf f av true m = none ∨ ∃ y i, pf f av true m = some (y, i) ∧ y < f m) → ∃ y i, pf f av true 12 = some (y, i) ∧ i < 12 ∧ (if x ≤ gr then L_X5_firstMove w c A (nI (k + 1)) mv gr (nI (m + 1)) else L_X5_firstMove w c A (nI (k + 1)) (nI m) x (nI (m + 1))) = some (if mm P k false 0 0 ≤ y then nI i else -1, A) := by
      intro g1 g2
      have hxf : x.toInt = f m := by rw [hf m] at g1 ⊢; omega
      rw [if_neg (fun z => by have := Int32.le_iff_toInt_le.mp z; omega)]
      refine ih (m + 1) c (nI m) x (by omega) (by omega) (Or.inr ⟨f m, m, ?_, by omega, rfl, hxf, by rw [hf m]; omega, by rw [hf m]; omega⟩)
      rw [pe]
      rcases g2 with g2 | ⟨y, i, g2, g3⟩
      · rw [g2]; rfl
      · rw [g2]
        unfold p_nx
        dsimp only
        rw [if_neg (by simp; omega)]
    rcases h3 with ⟨e1, e2, e3, e4⟩ | ⟨y, i, g1, g2, g3, g4, g5, g6⟩
    · refine upd1 ?_ (Or.inl e1)
      rw [e3, far_t.1, hf m]
      omega
    · by_cases g : f m ≤ y
      · have hg : x ≤ gr := Int32.le_iff_toInt_le.mpr (by rw [hf m] at g; omega)
        dsimp only
        rw [if_pos hg]
        refine ih (m + 1) c mv gr (by omega) (by omega) (Or.inr ⟨y, i, ?_, g2, g3, g4, g5, g6⟩)
        rw [pe, g1]
        unfold p_nx
        dsimp only
        rw [if_pos (by simp; exact g)]
      · exact upd1 (by omega) (Or.inr ⟨y, i, g1, by omega⟩)
theorem call_moveOf (hw : 10000 ≤ w) (h : r_Rel M) (a : Int32) : r_ok (F_X11_moveOf w M a) (fun M => F_X12_moveOf w M a) := by
  obtain ⟨P, hc, hb, hv⟩ := h.2.2.2.2.2.2.1
  by_cases g : (1 : Int32) ≤ a ∧ a ≤ 4
  · have m1 := fun N => in_t (w := w) (M := N) (a := a) (B := 1) (C := 4) 1 4 rfl rfl g
    have w1 : ∀ N, F_X11_isWithin w N a 1 4 = some (true, N) := fun N => by rw [f_wi, decide_eq_true g]
    obtain ⟨T, hT1, hT, rfl⟩ := (i_rng 1 4 (by omega) (by omega)).mp g
    obtain ⟨k, rfl⟩ : ∃ k, T = k + 1 := ⟨T - 1, by omega⟩
    obtain ⟨A, a1, a2, a3⟩ := f_weigh (w := w) (by omega) hc hv
    let f : Nat → Int := fun m => mm P k (!(0 % 2 == 0)) (if (0 % 2 == 0) = true then 0 ||| 2 ^ m else 0) (if (0 % 2 == 0) = true then 0 else 0 ||| 2 ^ m)
    let av : Nat → Bool := fun m => !(0 ||| 0).testBit m
    have hf : ∀ m, f m = mm P k false (2 ^ m) 0 := fun m => by
      show mm P k false (0 ||| 2 ^ m) 0 = _
      rw [Nat.zero_or]
    have hav : ∀ m, av m = true := fun m => by
      show (!(0 : Nat).testBit m) = true
      rw [Nat.zero_testBit]; rfl
    obtain ⟨y, i, p1, p2, p3⟩ := cl_fm (w := w) (by omega) hv a2 (k := k) (by omega) f av hf hav 12 0 w (-1) (-1000000) (by omega) (by omega) (Or.inl ⟨rfl, rfl, rfl, rfl⟩)
    have p3' : F_X5_firstMove w A (nI (k + 1)) = _ := p3
    have fin2 : (pfin f av true (mm P k false 0 0)).2 = if mm P k false 0 0 ≤ y then i else 12 := by
      unfold pfin
      rw [p1]
      unfold p_nx
      dsimp only
      by_cases q : mm P k false 0 0 ≤ y
      · rw [if_pos (by simp; exact q), if_pos q]; rfl
      · rw [if_neg (by simp; omega), if_neg q]; rfl
    have key : ∀ v : Int32, ∃ N x, F_X12_laysPlans w (z_wI (z_wI (z_wI A 0 11 v) 137 1 0) 137 0 0) (-1) = some ((), N) ∧ (∀ a, a ≠ 145 → a ≠ 146 → N.1 a = (z_wI (z_wI (z_wI A 0 11 v) 137 1 0) 137 0 0).1 a) ∧ N.2 = A.2 ∧ F_X12_plays w 10 N 0 (nI (k + 1)) 0 0 = some (x, z_wI N 137 28 (nI (if mm P k false 0 0 ≤ y then i else 12))) := by
      intro v
      obtain ⟨N, n1, n2, n3, n4⟩ := f_pN (w := w) hw hb hv a3 v
      have h8 : N.1 142 8 = P.1 8 := by rw [N_7 hb a3 n3]; exact hb.1.2.2.2.1
      obtain ⟨x, y1, y2⟩ := m_play (w := w) (by omega) n2 h8 (T := k + 1) (by omega) (k + 1) 10 0 0 0 (by omega) (by omega) (by omega) (by omega)
      rw [if_pos (by omega)] at y1
      refine ⟨N, x, n1, n3, n4, ?_⟩
      rw [← fin2]
      exact y1
    have rel : ∀ (v : Int32) (N : z_Mem) (z : Int32), (∀ a, a ≠ 145 → a ≠ 146 → N.1 a = (z_wI (z_wI (z_wI A 0 11 v) 137 1 0) 137 0 0).1 a) → N.2 = A.2 → r_Rel (z_wI (z_wI N 137 28 z) 137 0 v) := by
      intro v N z n3 n4
      refine r_pl h v a3 (fun a h3 h4 h5 => ?_) ?_ (fun k h3 h4 h5 => ?_) ?_
      · rw [wI_row h5, wI_row h5, n3 a h3 h4]
        simp (maxSteps := 2000000) (decide := true) (disch := omega) only [bindS, wI_row, wI_slot, wI_same, wI_2, nI_p0, false_or, nle_f, nI_cl, n_lad, n_adl, nI_add, if_true, if_false, ite_true, ite_false, ↓reduceIte]
      · exact wI_same
      · rw [wI_slot h3, wI_slot h5, n3 137 (by omega) (by omega)]
        simp (maxSteps := 2000000) (decide := true) (disch := omega) only [bindS, wI_row, wI_slot, wI_same, wI_2, nI_p0, false_or, nle_f, nI_cl, n_lad, n_adl, nI_add, if_true, if_false, ite_true, ite_false, ↓reduceIte]
      · exact n4
    by_cases q : mm P k false 0 0 ≤ y
    · obtain ⟨N, x, n1, n3, n4, y1⟩ := key 0
      rw [if_pos q] at p3' y1
      have x1 := nI_nm1 (n := i) (by omega)
      have x2 : ¬ nI i = (12 : Int32) := fun e => by
        have := (nI_eq (b := 12) (by omega) (by omega)).mp e
        omega
      refine ⟨nI i, z_wI A 0 11 0, z_wI N 137 28 (nI i), ?_, ?_, ?_⟩
      · simp (maxSteps := 2000000) (decide := true) (disch := omega) only [F_X11_moveOf, F_X11_answer, w1, a1, p3', x1, bindS, wI_row, wI_slot, wI_same, wI_2, nI_p0, false_or, nle_f, nI_cl, n_lad, n_adl, nI_add, if_true, if_false, ite_true, ite_false, ↓reduceIte]
      · simp (maxSteps := 2000000) (decide := true) (disch := omega) only [F_X12_moveOf, m1, n1, y1, x2, bindS, wI_row, wI_slot, wI_same, wI_2, nI_p0, false_or, nle_f, nI_cl, n_lad, n_adl, nI_add, if_true, if_false, ite_true, ite_false, ↓reduceIte]
      · have r1 := rel 0 N (nI i) n3 n4
        have e0 : z_wI (z_wI N 137 28 (nI i)) 137 0 0 = z_wI N 137 28 (nI i) := by
          refine Prod.ext ?_ rfl
          funext a k
          rw [wI_rd]
          by_cases e : a = 137 ∧ k = 0
          · obtain ⟨rfl, rfl⟩ := e
            rw [if_pos ⟨rfl, rfl⟩, wI_slot (by omega), n3 137 (by omega) (by omega)]
            simp (maxSteps := 2000000) (decide := true) (disch := omega) only [bindS, wI_row, wI_slot, wI_same, wI_2, nI_p0, false_or, nle_f, nI_cl, n_lad, n_adl, nI_add, if_true, if_false, ite_true, ite_false, ↓reduceIte]
          · rw [if_neg e]
        rw [e0] at r1
        exact r1
    · obtain ⟨N, x, n1, n3, n4, y1⟩ := key 8
      rw [if_neg q] at p3' y1
      have x2 : nI 12 = (12 : Int32) := rfl
      refine ⟨-1, z_wI A 0 11 8, z_wI (z_wI N 137 28 (nI 12)) 137 0 8, ?_, ?_, rel 8 N (nI 12) n3 n4⟩
      · simp (maxSteps := 2000000) (decide := true) (disch := omega) only [F_X11_moveOf, F_X11_refuse, w1, a1, p3', bindS, wI_row, wI_slot, wI_same, wI_2, nI_p0, false_or, nle_f, nI_cl, n_lad, n_adl, nI_add, if_true, if_false, ite_true, ite_false, ↓reduceIte]
      · simp (maxSteps := 2000000) (decide := true) (disch := omega) only [F_X12_moveOf, F_X12_refuse, m1, n1, y1, x2, bindS, wI_row, wI_slot, wI_same, wI_2, nI_p0, false_or, nle_f, nI_cl, n_lad, n_adl, nI_add, if_true, if_false, ite_true, ite_false, ↓reduceIte]
  · have m1 := fun N => in_f (w := w) (M := N) (a := a) (B := 1) (C := 4) 1 4 rfl rfl g
    have w1 : ∀ N, F_X11_isWithin w N a 1 4 = some (false, N) := fun N => by rw [f_wi, decide_eq_false g]
    exact ⟨-1, z_wI M 0 11 5, z_st M 5, by simp (maxSteps := 2000000) (decide := true) (disch := omega) only [F_X11_moveOf, F_X11_refuse, w1, Bool.false_eq_true, bindS, wI_row, wI_slot, wI_same, wI_2, nI_p0, false_or, nle_f, nI_cl, n_lad, n_adl, nI_add, if_true, if_false, ite_true, ite_false, ↓reduceIte], by simp (maxSteps := 2000000) (decide := true) (disch := omega) only [F_X12_moveOf, F_X12_refuse, m1, z_st, wI_wI, Bool.false_eq_true, bindS, wI_row, wI_slot, wI_same, wI_2, nI_p0, false_or, nle_f, nI_cl, n_lad, n_adl, nI_add, if_true, if_false, ite_true, ite_false, ↓reduceIte], r_stv 5 h⟩
end
