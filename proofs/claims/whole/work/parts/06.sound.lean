/-! ===== THE SMALL MACHINE IS THE MACHINE: instructions that go on ===== -/
/-- the contracts of the JDK's two methods of texts -/
def z_Str (l : Launch) : Prop := ∀ (B : Nat × Nat × Nat) (sv : Nat),
  Met l yJ0_length_8abf5 (.code yJ0_length_8abf5 cJ0_length_8abf5 1 (some .int) :: z_T) { frames := 5, cells := 0, slots := 0, locals := 120 } (va_Pc [.ref B.2.1] (fun U => z_X B sv U U.heap)) (vp_Si (fun r => r = 152)) 0 0 (fun _ => False) ∧
  ∀ i : Int32, ¬ (i < 0 ∨ 152 ≤ i.toNatClampNeg) → Met l yJ0_charAt_5068e (.code yJ0_charAt_5068e cJ0_charAt_5068e 2 (some .char) :: z_T) { frames := 5, cells := 0, slots := 0, locals := 120 } (va_Pc [.ref B.2.1, .int i] (fun U => z_X B sv U U.heap)) (vp_Si (fun r => r = z_txt.getD i.toNatClampNeg 0)) 0 0 (fun _ => False)
/-- what holds within a method: the machine, the code, the tables, the start -/
def z_Ctx (X : z_S) (B : Nat × Nat × Nat) (D : va_G) (ca : FieldType → ClassId) (sv : Nat) (m : z_M) (k0 : Nat) (p : Program) (R : Room) (s : State) (m' : MethodId) (args : Array Value) (meth : Method) (c : Code) : Prop :=
  p.tables.exec = Jvm.exec ∧ c.code = z_b m ∧ c.maxLocals = z_x m ∧ meth.sig.returnType = z_r m ∧ meth.locks = false ∧ ((z_y m).name = "<init>" → meth.name = "<init>") ∧ s.vm.findClass (z_R (z_o m)) = some m'.cls ∧ (∀ w ∈ z_T, w.before args s = true) ∧ va_K D z_cl (z_tl ca) s ∧ z_X B sv s s.heap ∧ s.heap.size = B.2.2 + k0 ∧ (∀ q, X = some q → va_X B.1 q.1 q.2 s s.heap ∧ B.1 < B.2.2) ∧ 8 ≤ R.frames ∧ 200 ≤ R.locals
/-- from here the machine comes to Q -/
def z_OK (B : Nat × Nat × Nat) (D : va_G) (ca : FieldType → ClassId) (m : z_M) (k0 s0 : Nat) (p : Program) (l : Launch) (e : Env) (R : Room) (s : State) (m' : MethodId) (args : Array Value) (below : List Frame) (meth : Method) (c : Code) (Q : State → Prop) (pc : Nat) (ls : z_L) (st : List Value) (h : z_H) : Prop :=
  ∀ (H : Heap) (locs : List Loc) (arr : Array Slot), va_P D z_cl (z_ws B ca h) H → va_S (fun q => B.2.2 ≤ q) s.heap H locs → z_lsOK B arr (z_x m) ls →
    W p l e R s m' args below meth c H locs (h.length - k0) (z_sl h - s0) Q (F0 m' pc arr (st.map (z_cv B)))
section ZS
variable {X : z_S} {B : Nat × Nat × Nat} {D : va_G} {ca : FieldType → ClassId} {sv : Nat} {m : z_M} {k0 s0 : Nat} {p : Program} {l : Launch} {e : Env} {R : Room} {s : State} {m' : MethodId} {args : Array Value} {below : List Frame} {meth : Method} {c : Code} {Q : State → Prop}
variable {pc : Nat} {ls : z_L} {st : List Value} {h : z_H} {q : Nat × z_L × List Value × z_H}
theorem z_l1 {len k : Nat} (h : (len == k) = true) : len = k := eq_of_beq h
/-- the heap's size, by the cells that were made -/
theorem z_size {H : Heap} {locs : List Loc} {cells slots N : Nat} {g : JFrame} (hc : s.heap.size + cells = N) (hle : N ≤ H.size) (kk : H.size = N → W p l e R s m' args below meth c H locs cells slots Q g) : W p l e R s m' args below meth c H locs cells slots Q g :=
  fun T hT X => kk (by have h1 := X.heapSize; rw [hT] at h1; omega) T hT X
theorem z_least {H : Heap} {locs : List Loc} (hs : s.heap.size = B.2.2 + k0) (hk : k0 ≤ h.length) (hP : va_P D z_cl (z_ws B ca h) H) (hS : va_S (fun q => B.2.2 ≤ q) s.heap H locs) : B.2.2 + h.length ≤ H.size := by
  by_cases hl : h.length = k0
  · have h1 := hS.1
    omega
  · have hlt : h.length - 1 < h.length := by omega
    have h1 := (hP (h.length - 1) _ (z_ws_at (List.getElem?_eq_getElem hlt))).lt
    dsimp only at h1
    omega
theorem z_bi_inv {f : Int32 → Int32 → Int32} (hz : z_bi f pc ls st h = some (.inr (.inl q))) : ∃ x y r, st = .int y :: .int x :: r ∧ q = (pc + 1, ls, .int (f x y) :: r, h) := by
  unfold z_bi z_go at hz
  split at hz
  · cases hz; exact ⟨_, _, _, rfl, rfl⟩
  · cases hz
theorem z_bl_inv {f : Int64 → Int64 → Int64} (hz : z_bl f pc ls st h = some (.inr (.inl q))) : ∃ x y r, st = .long y :: .long x :: r ∧ q = (pc + 1, ls, .long (f x y) :: r, h) := by
  unfold z_bl z_go at hz
  split at hz
  · cases hz; exact ⟨_, _, _, rfl, rfl⟩
  · cases hz
theorem z_bi0_inv {f : Int32 → Int32 → Int32} (hz : z_bi0 f pc ls st h = some (.inr (.inl q))) : ∃ x y r, st = .int y :: .int x :: r ∧ ¬ y = 0 ∧ q = (pc + 1, ls, .int (f x y) :: r, h) := by
  unfold z_bi0 z_go at hz
  split at hz
  · split at hz
    · cases hz
    · rename_i hy; cases hz; exact ⟨_, _, _, rfl, hy, rfl⟩
  · cases hz
theorem z_bl0_inv {f : Int64 → Int64 → Int64} (hz : z_bl0 f pc ls st h = some (.inr (.inl q))) : ∃ x y r, st = .long y :: .long x :: r ∧ ¬ y = 0 ∧ q = (pc + 1, ls, .long (f x y) :: r, h) := by
  unfold z_bl0 z_go at hz
  split at hz
  · split at hz
    · cases hz
    · rename_i hy; cases hz; exact ⟨_, _, _, rfl, hy, rfl⟩
  · cases hz
theorem z_ldI_inv {k pc' : Nat} (hz : z_ldI pc' ls k st h = some (.inr (.inl q))) : ∃ x, ls[k]? = some (some (.int x)) ∧ q = (pc', ls, .int x :: st, h) := by
  unfold z_ldI z_go at hz
  split at hz
  · rename_i x hx; cases hz; exact ⟨x, hx, rfl⟩
  · cases hz
theorem z_ldL_inv {k pc' : Nat} (hz : z_ldL pc' ls k st h = some (.inr (.inl q))) : ∃ x, ls[k]? = some (some (.long x)) ∧ q = (pc', ls, .long x :: st, h) := by
  unfold z_ldL z_go at hz
  split at hz
  · rename_i x hx; cases hz; exact ⟨x, hx, rfl⟩
  · cases hz
theorem z_ldA_inv {k pc' : Nat} (hz : z_ldA pc' ls k st h = some (.inr (.inl q))) : ∃ x, ls[k]? = some (some (.ref x)) ∧ q = (pc', ls, .ref x :: st, h) := by
  unfold z_ldA z_go at hz
  split at hz
  · rename_i x hx; cases hz; exact ⟨x, hx, rfl⟩
  · cases hz
theorem z_stI_inv {k pc' : Nat} (hz : z_stI pc' ls k st h = some (.inr (.inl q))) : ∃ x r, st = .int x :: r ∧ k < ls.length ∧ q = (pc', z_st1 ls k (.int x), r, h) := by
  unfold z_stI z_go at hz
  split at hz
  · split at hz
    · rename_i hk; cases hz; exact ⟨_, _, rfl, hk, rfl⟩
    · cases hz
  · cases hz
theorem z_stL_inv {k pc' : Nat} (hz : z_stL pc' ls k st h = some (.inr (.inl q))) : ∃ x r, st = .long x :: r ∧ k + 1 < ls.length ∧ q = (pc', z_st2 ls k (.long x), r, h) := by
  unfold z_stL z_go at hz
  split at hz
  · split at hz
    · rename_i hk; cases hz; exact ⟨_, _, rfl, hk, rfl⟩
    · cases hz
  · cases hz
theorem z_stA_inv {k pc' : Nat} (hz : z_stA pc' ls k st h = some (.inr (.inl q))) : ∃ x r, st = .ref x :: r ∧ k < ls.length ∧ q = (pc', z_st1 ls k (.ref x), r, h) := by
  unfold z_stA z_go at hz
  split at hz
  · split at hz
    · rename_i hk; cases hz; exact ⟨_, _, rfl, hk, rfl⟩
    · cases hz
  · cases hz
theorem z_tgt_inv {off : Int} {t : Nat} (h : z_tgt pc off = some t) : (pc : Int) + off = (t : Int) := by
  unfold z_tgt at h
  split at h
  · cases h; omega
  · cases h
theorem z_jmp_inv {off : Int} (hz : z_jmp pc off ls st h = some (.inr (.inl q))) : ∃ t : Nat, (pc : Int) + off = (t : Int) ∧ q = (t, ls, st, h) := by
  unfold z_jmp z_go at hz
  split at hz
  · rename_i t ht; cases hz; exact ⟨t, z_tgt_inv ht, rfl⟩
  · cases hz
theorem z_br_inv {off : Int} {cnd : Prop} [Decidable cnd] (hz : z_br pc off cnd ls st h = some (.inr (.inl q))) : ∃ t : Nat, (pc : Int) + off = (t : Int) ∧ q = (if cnd then t else pc + 3, ls, st, h) := by
  unfold z_br z_go at hz
  split at hz
  · rename_i t ht; cases hz; exact ⟨t, z_tgt_inv ht, rfl⟩
  · cases hz
theorem z_brT {cnd : Prop} [Decidable cnd] {t u : Nat} {st1 : List Value} (k : z_OK B D ca m k0 s0 p l e R s m' args below meth c Q (if cnd then t else u) ls st1 h) (hc : cnd) : z_OK B D ca m k0 s0 p l e R s m' args below meth c Q t ls st1 h := by
  rw [if_pos hc] at k; exact k
theorem z_brF {cnd : Prop} [Decidable cnd] {t u : Nat} {st1 : List Value} (k : z_OK B D ca m k0 s0 p l e R s m' args below meth c Q (if cnd then t else u) ls st1 h) (hc : ¬ cnd) : z_OK B D ca m k0 s0 p l e R s m' args below meth c Q u ls st1 h := by
  rw [if_neg hc] at k; exact k
theorem z_gf_inv {o ix : Nat} (hz : z_gf o pc ix ls st h = some (.inr (.inl q))) : ∃ a r ci k pl fs v, st = .ref (a + 2) :: r ∧ z_fl o ix = some (ci, k, pl) ∧ h[a]? = some (.inr (ci, fs)) ∧ fs[k]? = some v ∧ q = (pc + 3, ls, v :: r, h) := by
  unfold z_gf z_go at hz
  split at hz
  · split at hz
    · rename_i ci k pl hf
      split at hz
      · rename_i cj fs hh
        split at hz
        · rename_i hc
          subst hc
          split at hz
          · rename_i v hv
            cases hz
            exact ⟨_, _, _, _, _, _, _, rfl, hf, hh, hv, rfl⟩
          · cases hz
        · cases hz
      · cases hz
    · cases hz
  · cases hz
theorem z_pf_inv {ix : Nat} (hz : z_pf m pc ix ls st h = some (.inr (.inl q))) : ∃ a r ci k pl fs v, st = v :: .ref (a + 2) :: r ∧ z_fl (z_o m) ix = some (ci, k, pl) ∧ h[a]? = some (.inr (ci, fs)) ∧ k < fs.length ∧ narrow (z_ty ci k) v = v ∧ fits (z_ty ci k) v = true ∧ (z_fin ci k = false ∨ ((z_y m).name = "<init>" ∧ z_decl ci k = z_R (z_o m))) ∧ q = (pc + 3, ls, r, h.set a (.inr (ci, fs.set k v))) := by
  unfold z_pf z_go at hz
  split at hz
  · split at hz
    · rename_i ci k pl hf
      split at hz
      · rename_i cj fs hh
        split at hz
        · rename_i hc
          obtain ⟨h0, h1, h2, h3, h4⟩ := hc
          subst h0
          cases hz
          exact ⟨_, _, _, _, _, _, _, rfl, hf, hh, h1, h2, h3, h4, rfl⟩
        · cases hz
      · cases hz
    · cases hz
  · cases hz
theorem z_s_get {ix : Nat} (C : z_Ctx X B D ca sv m k0 p R s m' args meth c) (hd : decode (z_b m) pc = .ok (.getfield ix, 3)) (hz : z_gf (z_o m) pc ix ls st h = some (.inr (.inl q))) (k : z_OK B D ca m k0 s0 p l e R s m' args below meth c Q q.1 q.2.1 q.2.2.1 q.2.2.2) : z_OK B D ca m k0 s0 p l e R s m' args below meth c Q pc ls st h := by
  obtain ⟨hx, hb, hml, hret, hlk, hnm, hown, hts, hK, hXt, hs, hScr, hfr, hlo⟩ := C
  obtain ⟨a, r, ci, kf, pl, fs, v, rfl, hf, hh, hv, rfl⟩ := z_gf_inv hz
  intro H locs arr hP hS hL
  obtain ⟨⟨Cn, T, N⟩, hc, hk, hlink⟩ := z_fl_ok hf
  obtain ⟨hin, hty, hnm2⟩ := z_cls_ok hc
  exact va_get (v := z_cv B v) hx hb hts hin hown hK hP a (z_ws_at hh) hc kf hk (hts _ hlink) (fun _ g => g) (by rw [List.getElem?_map, hv]; rfl) hd (k H locs arr hP hS hL)
theorem z_s_put {ix : Nat} (C : z_Ctx X B D ca sv m k0 p R s m' args meth c) (hd : decode (z_b m) pc = .ok (.putfield ix, 3)) (hz : z_pf m pc ix ls st h = some (.inr (.inl q))) (k : z_OK B D ca m k0 s0 p l e R s m' args below meth c Q q.1 q.2.1 q.2.2.1 q.2.2.2) : z_OK B D ca m k0 s0 p l e R s m' args below meth c Q pc ls st h := by
  obtain ⟨hx, hb, hml, hret, hlk, hnm, hown, hts, hK, hXt, hs, hScr, hfr, hlo⟩ := C
  obtain ⟨a, r, ci, kf, pl, fs, v, rfl, hf, hh, hkl, hn, hfit, hfin, rfl⟩ := z_pf_inv hz
  intro H locs arr hP hS hL
  obtain ⟨⟨Cn, T, N⟩, hc, hk, hlink⟩ := z_fl_ok hf
  obtain ⟨hin, hty, hnm2⟩ := z_cls_ok hc
  have e1 : (h.set a (.inr (ci, fs.set kf v))).length = h.length := List.length_set
  have e2 : z_sl (h.set a (.inr (ci, fs.set kf v))) = z_sl h := z_sl_set hh (by simp [z_sz])
  have e3 : z_ws B ca (h.set a (.inr (ci, fs.set kf v))) = (z_ws B ca h).set a (B.2.2 + a, .inr (ci, (fs.map (z_cv B)).set kf (z_cv B v))) := by
    rw [z_ws_set, ← List.map_set]; rfl
  have kk : ∀ (H1 : Heap) (locs1 : List Loc), va_P D z_cl ((z_ws B ca h).set a (B.2.2 + a, .inr (ci, (fs.map (z_cv B)).set kf (z_cv B v)))) H1 → va_D (fun q => B.2.2 ≤ q) ((z_ws B ca h).set a (B.2.2 + a, .inr (ci, (fs.map (z_cv B)).set kf (z_cv B v)))) → va_S (fun q => B.2.2 ≤ q) s.heap H1 locs1 → W p l e R s m' args below meth c H1 locs1 (h.length - k0) (z_sl h - s0) Q (F0 m' (pc + 3) arr (r.map (z_cv B))) := by
    intro H1 locs1 hP1 _ hS1
    have := k H1 locs1 arr (by rw [e3]; exact hP1) hS1 hL
    dsimp only at this
    rw [e1, e2] at this
    exact this
  by_cases hf2 : (T kf).2.2.2 = false
  · exact va_put hx hb hts hin (z_ty ci) hty hnm2 hown hK hP (z_ws_D B ca h) hS a (z_ws_at hh) hc kf hk (hts _ hlink) (fun _ g => g) hf2 (hty kf hk) (z_nar B hn) (z_fit B hfit) (by simpa using hkl) hd kk
  · have hz1 : z_fin ci kf = (T kf).2.2.2 := by unfold z_fin; rw [hc]
    have hz2 : z_decl ci kf = (T kf).1 := by unfold z_decl; rw [hc]
    rcases hfin with hfin | ⟨hfin, hdec⟩
    · rw [hz1] at hfin; exact absurd hfin hf2
    · exact va_putF hx hb hts hin (z_ty ci) hty hnm2 hown hK hP (z_ws_D B ca h) hS a (z_ws_at hh) hc kf hk (hts _ hlink) (fun _ g => g) (by simpa using hf2) (hnm hfin) (by rw [← hz2]; exact hdec) (hty kf hk) (z_nar B hn) (z_fit B hfit) (by simpa using hkl) hd kk
end ZS
