/-! ===== arrays, makings, what the machine does itself ===== -/
section ZS
variable {X : z_S} {B : Nat × Nat × Nat} {D : va_G} {ca : FieldType → ClassId} {sv : Nat} {m : z_M} {k0 s0 : Nat} {p : Program} {l : Launch} {e : Env} {R : Room} {s : State} {m' : MethodId} {args : Array Value} {below : List Frame} {meth : Method} {c : Code} {Q : State → Prop}
variable {pc : Nat} {ls : z_L} {st : List Value} {h : z_H} {q : Nat × z_L × List Value × z_H}
theorem z_s_ia (C : z_Ctx X B D ca sv m k0 p R s m' args meth c) (hd : decode (z_b m) pc = .ok (.iaload, 1)) (hz : z_ia X pc ls st h = some (.inr (.inl q))) (k : z_OK B D ca m k0 s0 p l e R s m' args below meth c Q q.1 q.2.1 q.2.2.1 q.2.2.2) : z_OK B D ca m k0 s0 p l e R s m' args below meth c Q pc ls st h := by
  obtain ⟨hx, hb, hml, hret, hlk, hnm, hown, hts, hK, hXt, hs, hScr, hfr, hlo⟩ := C
  unfold z_ia z_go at hz
  split at hz
  · rename_i i r
    split at hz
    · rename_i L xs
      split at hz
      · cases hz
      · rename_i hi
        cases hz
        intro H locs arr hP hS hL
        obtain ⟨hX, hB⟩ := hScr _ rfl
        exact va_sld (A := fun q => B.2.2 ≤ q) hx hb hX (by rw [hs]; omega) (Nat.not_le.mpr hB) hS hi hd (k H locs arr hP hS hL)
    · cases hz
  · rename_i i a r
    split at hz
    · rename_i n f hh
      split at hz
      · cases hz
      · rename_i hi
        cases hz
        intro H locs arr hP hS hL
        exact va_iald hx hb hK hP a 0 (z_ws_at hh) rfl hi hd (k H locs arr hP hS hL)
    · cases hz
  · cases hz
theorem z_s_ba (C : z_Ctx X B D ca sv m k0 p R s m' args meth c) (hd : decode (z_b m) pc = .ok (.baload, 1)) (hz : z_ba pc ls st h = some (.inr (.inl q))) (k : z_OK B D ca m k0 s0 p l e R s m' args below meth c Q q.1 q.2.1 q.2.2.1 q.2.2.2) : z_OK B D ca m k0 s0 p l e R s m' args below meth c Q pc ls st h := by
  obtain ⟨hx, hb, hml, hret, hlk, hnm, hown, hts, hK, hXt, hs, hScr, hfr, hlo⟩ := C
  unfold z_ba z_go at hz
  split at hz
  · rename_i i a r
    split at hz
    · rename_i n f hh
      split at hz
      · cases hz
      · rename_i hi
        cases hz
        intro H locs arr hP hS hL
        exact va_bald hx hb hK hP a 2 (z_ws_at hh) rfl hi hd (k H locs arr hP hS hL)
    · cases hz
  · cases hz
theorem z_s_la (C : z_Ctx X B D ca sv m k0 p R s m' args meth c) (hd : decode (z_b m) pc = .ok (.laload, 1)) (hz : z_la pc ls st h = some (.inr (.inl q))) (k : z_OK B D ca m k0 s0 p l e R s m' args below meth c Q q.1 q.2.1 q.2.2.1 q.2.2.2) : z_OK B D ca m k0 s0 p l e R s m' args below meth c Q pc ls st h := by
  obtain ⟨hx, hb, hml, hret, hlk, hnm, hown, hts, hK, hXt, hs, hScr, hfr, hlo⟩ := C
  unfold z_la z_go at hz
  split at hz
  · rename_i i a r
    split at hz
    · rename_i n f hh
      split at hz
      · cases hz
      · rename_i hi
        cases hz
        intro H locs arr hP hS hL
        exact va_lald hx hb hK hP a 1 (z_ws_at hh) rfl hi hd (k H locs arr hP hS hL)
    · cases hz
  · cases hz
theorem z_s_aa (C : z_Ctx X B D ca sv m k0 p R s m' args meth c) (hd : decode (z_b m) pc = .ok (.aaload, 1)) (hz : z_aa pc ls st h = some (.inr (.inl q))) (k : z_OK B D ca m k0 s0 p l e R s m' args below meth c Q q.1 q.2.1 q.2.2.1 q.2.2.2) : z_OK B D ca m k0 s0 p l e R s m' args below meth c Q pc ls st h := by
  obtain ⟨hx, hb, hml, hret, hlk, hnm, hown, hts, hK, hXt, hs, hScr, hfr, hlo⟩ := C
  unfold z_aa z_go at hz
  split at hz
  · rename_i i a r
    split at hz
    · rename_i n f hh
      split at hz
      · cases hz
      · rename_i hi
        split at hz
        · rename_i b hbb
          cases hz
          intro H locs arr hP hS hL
          refine va_aldq hx hb hK hP a 3 (z_ws_at hh) rfl hi hd ?_
          rw [hbb]
          exact k H locs arr hP hS hL
        · cases hz
    · cases hz
  · cases hz
theorem z_s_is (C : z_Ctx X B D ca sv m k0 p R s m' args meth c) (hd : decode (z_b m) pc = .ok (.iastore, 1)) (hz : z_is pc ls st h = some (.inr (.inl q))) (k : z_OK B D ca m k0 s0 p l e R s m' args below meth c Q q.1 q.2.1 q.2.2.1 q.2.2.2) : z_OK B D ca m k0 s0 p l e R s m' args below meth c Q pc ls st h := by
  obtain ⟨hx, hb, hml, hret, hlk, hnm, hown, hts, hK, hXt, hs, hScr, hfr, hlo⟩ := C
  unfold z_is z_go at hz
  split at hz
  · rename_i x i a r
    split at hz
    · rename_i n f hh
      split at hz
      · cases hz
      · rename_i hi
        cases hz
        intro H locs arr hP hS hL
        refine va_iast hx hb hK hP (z_ws_D B ca h) hS a 0 (z_ws_at hh) rfl hi hd fun H1 locs1 hP1 _ hS1 => ?_
        have := k H1 locs1 arr (by dsimp only; rw [z_ws_set]; exact hP1) hS1 hL
        dsimp only at this
        rw [List.length_set, z_sl_set hh] at this
        · exact this
        · rfl
    · cases hz
  · cases hz
theorem z_s_bs (C : z_Ctx X B D ca sv m k0 p R s m' args meth c) (hd : decode (z_b m) pc = .ok (.bastore, 1)) (hz : z_bs pc ls st h = some (.inr (.inl q))) (k : z_OK B D ca m k0 s0 p l e R s m' args below meth c Q q.1 q.2.1 q.2.2.1 q.2.2.2) : z_OK B D ca m k0 s0 p l e R s m' args below meth c Q pc ls st h := by
  obtain ⟨hx, hb, hml, hret, hlk, hnm, hown, hts, hK, hXt, hs, hScr, hfr, hlo⟩ := C
  unfold z_bs z_go at hz
  split at hz
  · rename_i x i a r
    split at hz
    · rename_i n f hh
      split at hz
      · cases hz
      · rename_i hi
        cases hz
        intro H locs arr hP hS hL
        refine va_bast hx hb hK hP (z_ws_D B ca h) hS a 2 (z_ws_at hh) rfl hi hd fun H1 locs1 hP1 _ hS1 => ?_
        have := k H1 locs1 arr (by dsimp only; rw [z_ws_set]; exact hP1) hS1 hL
        dsimp only at this
        rw [List.length_set, z_sl_set hh] at this
        · exact this
        · rfl
    · cases hz
  · cases hz
theorem z_s_ls (C : z_Ctx X B D ca sv m k0 p R s m' args meth c) (hd : decode (z_b m) pc = .ok (.lastore, 1)) (hz : z_ls pc ls st h = some (.inr (.inl q))) (k : z_OK B D ca m k0 s0 p l e R s m' args below meth c Q q.1 q.2.1 q.2.2.1 q.2.2.2) : z_OK B D ca m k0 s0 p l e R s m' args below meth c Q pc ls st h := by
  obtain ⟨hx, hb, hml, hret, hlk, hnm, hown, hts, hK, hXt, hs, hScr, hfr, hlo⟩ := C
  unfold z_ls z_go at hz
  split at hz
  · rename_i x i a r
    split at hz
    · rename_i n f hh
      split at hz
      · cases hz
      · rename_i hi
        cases hz
        intro H locs arr hP hS hL
        refine va_last hx hb hK hP (z_ws_D B ca h) hS a 1 (z_ws_at hh) rfl hi hd fun H1 locs1 hP1 _ hS1 => ?_
        have := k H1 locs1 arr (by dsimp only; rw [z_ws_set]; exact hP1) hS1 hL
        dsimp only at this
        rw [List.length_set, z_sl_set hh] at this
        · exact this
        · rfl
    · cases hz
  · cases hz
theorem z_up_map {α β : Type} (g : α → β) (f : Nat → Option α) (i : Nat) (b : α) : (fun j => (va_up f i (some b) j).map g) = va_up (fun j => (f j).map g) i (some (g b)) := by
  funext j
  by_cases hj : j = i
  · subst hj; simp [va_up]
  · simp [va_up, hj]
theorem z_s_as (C : z_Ctx X B D ca sv m k0 p R s m' args meth c) (hd : decode (z_b m) pc = .ok (.aastore, 1)) (hz : z_as pc ls st h = some (.inr (.inl q))) (k : z_OK B D ca m k0 s0 p l e R s m' args below meth c Q q.1 q.2.1 q.2.2.1 q.2.2.2) : z_OK B D ca m k0 s0 p l e R s m' args below meth c Q pc ls st h := by
  obtain ⟨hx, hb, hml, hret, hlk, hnm, hown, hts, hK, hXt, hs, hScr, hfr, hlo⟩ := C
  unfold z_as z_go at hz
  split at hz
  · rename_i b i a r
    split at hz
    · rename_i n f hh
      split at hz
      · rename_i fs hhb
        split at hz
        · cases hz
        · rename_i hi
          cases hz
          intro H locs arr hP hS hL
          refine va_astq (r := (RX3, TX3, 12)) (v := B.2.2 + b) hx hb hK hP (z_ws_D B ca h) hS a 3 b 3 (z_ws_at hh) rfl (z_ws_at hhb) rfl hi hd fun H1 locs1 hP1 _ hS1 => ?_
          have := k H1 locs1 arr (by dsimp only; rw [z_ws_set]; dsimp only [z_ce]; rw [z_up_map]; exact hP1) hS1 hL
          dsimp only at this
          rw [List.length_set, z_sl_set hh] at this
          · exact this
          · rfl
      · cases hz
    · cases hz
  · cases hz
theorem z_s_al (C : z_Ctx X B D ca sv m k0 p R s m' args meth c) (hd : decode (z_b m) pc = .ok (.arraylength, 1)) (hz : z_al X pc ls st h = some (.inr (.inl q))) (k : z_OK B D ca m k0 s0 p l e R s m' args below meth c Q q.1 q.2.1 q.2.2.1 q.2.2.2) : z_OK B D ca m k0 s0 p l e R s m' args below meth c Q pc ls st h := by
  obtain ⟨hx, hb, hml, hret, hlk, hnm, hown, hts, hK, hXt, hs, hScr, hfr, hlo⟩ := C
  unfold z_al z_go at hz
  split at hz
  · rename_i r
    split at hz
    · rename_i L xs
      cases hz
      intro H locs arr hP hS hL
      obtain ⟨hX, hB⟩ := hScr _ rfl
      exact va_slen (A := fun q => B.2.2 ≤ q) (b := B.1) hx hb hX (by rw [hs]; omega) (Nat.not_le.mpr hB) hS hd (k H locs arr hP hS hL)
    · cases hz
  · rename_i a r
    split at hz
    · rename_i n f hh
      cases hz
      intro H locs arr hP hS hL
      exact va_alen hx hb hK hP a 0 (z_ws_at hh) rfl rfl hd (k H locs arr hP hS hL)
    · cases hz
  · cases hz
theorem z_s_new {ix : Nat} (C : z_Ctx X B D ca sv m k0 p R s m' args meth c) (hk0 : k0 ≤ h.length) (hs0 : s0 ≤ z_sl h) (hr1 : q.2.2.2.length - k0 ≤ R.cells) (hr2 : z_sl q.2.2.2 - s0 ≤ R.slots) (hd : decode (z_b m) pc = .ok (.new ix, 3)) (hz : z_new (z_o m) pc ix ls st h = some (.inr (.inl q))) (k : z_OK B D ca m k0 s0 p l e R s m' args below meth c Q q.1 q.2.1 q.2.2.1 q.2.2.2) : z_OK B D ca m k0 s0 p l e R s m' args below meth c Q pc ls st h := by
  obtain ⟨hx, hb, hml, hret, hlk, hnm, hown, hts, hK, hXt, hs, hScr, hfr, hlo⟩ := C
  unfold z_new z_go at hz
  split at hz
  · rename_i ci pls hn
    split at hz
    · rename_i qc hc
      cases hz
      obtain ⟨qc2, hc2, w1, w2, w3⟩ := z_nw_ok hn
      cases hc.symm.trans hc2
      obtain ⟨Cn, T, N⟩ := qc
      obtain ⟨hin, hty, hnm2⟩ := z_cls_ok hc
      dsimp only at hr1 hr2
      rw [List.length_append] at hr1
      rw [z_sl_push] at hr2
      have e1 : z_sz (.inr (ci, (List.range N).map (fun k => z_def (z_ty ci k)))) = N := by simp [z_sz]
      rw [e1] at hr2
      intro H locs arr hP hS hL
      refine z_size (N := B.2.2 + h.length) (by omega) (z_least hs hk0 hP hS) fun hsz => ?_
      have hKn := hK.1 ci _ hc
      refine W.newcK hx hb hown (hts _ w1) (hts _ w2) (hts _ w3) rfl hd (by simp at hr1; omega) (show z_sl h - s0 + N ≤ R.slots by omega) hKn.2.1 rfl fun H1 kC hkC g1 z1 o1 => ?_
      have hkk : ∀ (k : Nat) (x : Nat × va_E), (z_ws B ca h)[k]? = some x → H1[x.1]? = H[x.1]? := fun k x hx => o1 x.1 ((hP k x hx).lt)
      have hS1 : va_S (fun q => B.2.2 ≤ q) s.heap H1 locs := ⟨Nat.le_trans hS.1 (by omega), fun x h1 h2 => (o1 x (Nat.lt_of_lt_of_le h1 hS.1)).trans (hS.2.1 x h1 h2), hS.2.2⟩
      have hP1 : va_P D z_cl (z_ws B ca (h ++ [.inr (ci, (List.range N).map (fun k => z_def (z_ty ci k)))])) H1 := by
        rw [z_ws_push, ← hsz]
        refine (hP.kept hkk).app (fun k x hx => ?_)
        have hz : k < 1 := (List.getElem?_eq_some_iff.mp hx).1
        rw [show k = 0 by omega] at hx
        cases hx
        refine ⟨_, hc, (u_born (z_ty ci) hts hin hKn hkC g1 hty).to fun j hj => ?_⟩
        dsimp only at hj
        simp only [vp_V]
        rw [List.getD_eq_getElem?_getD, List.getElem?_map, List.getElem?_map, List.getElem?_range hj]
        simp only [Option.map_some, Option.getD_some]
        rw [z_defv]
        cases z_ty ci j <;> rfl
      have := k H1 locs arr hP1 hS1 hL
      dsimp only at this
      rw [List.length_append, z_sl_push, e1] at this
      have e2 : h.length + [(Sum.inr (ci, (List.range N).map (fun k => z_def (z_ty ci k))) : z_C)].length - k0 = h.length - k0 + 1 := by simp; omega
      have e3 : z_sl h + N - s0 = z_sl h - s0 + N := by omega
      rw [e2, e3] at this
      rw [hsz]
      exact this
    · cases hz
  · cases hz
theorem z_s_nar {at' : ArrayType} {ty : FieldType} {a0 : Nat → vp_A} {cl1 : Nat → z_C} {n : Int32} {r : List Value} (C : z_Ctx X B D ca sv m k0 p R s m' args meth c) (hty : newarray.typeOf at' = ty) (hw : Cond.arrayClass ty ∈ z_T) (hca : ∀ cA, s.vm.findClass ("[" ++ ty.toString) = some cA → cA = ca ty) (ha : ∀ N (cA : ClassId), vp_cell cA (a0 N) = arrV cA N (fun _ => defaultValue ty)) (hce : ∀ N, z_ce B ca (cl1 N) = .inl (ca ty, a0 N)) (hsz : ∀ N, z_sz (cl1 N) = N) (hcb : componentBytes ty ≤ 8)
    (hk0 : k0 ≤ h.length) (hs0 : s0 ≤ z_sl h) (hn : ¬ (n < 0 ∨ 10000 < n.toNatClampNeg)) (hr1 : (h ++ [cl1 n.toNatClampNeg]).length - k0 ≤ R.cells) (hr2 : z_sl (h ++ [cl1 n.toNatClampNeg]) - s0 ≤ R.slots) (hd : decode (z_b m) pc = .ok (.newarray at', 2)) (k : z_OK B D ca m k0 s0 p l e R s m' args below meth c Q (pc + 2) ls (.ref (h.length + 2) :: r) (h ++ [cl1 n.toNatClampNeg])) : z_OK B D ca m k0 s0 p l e R s m' args below meth c Q pc ls (.int n :: r) h := by
  obtain ⟨hx, hb, hml, hret, hlk, hnm, hown, hts, hK, hXt, hs, hScr, hfr, hlo⟩ := C
  subst hty
  rw [List.length_append] at hr1
  rw [z_sl_push, hsz] at hr2
  have hn0 : ¬ n < 0 := fun g => hn (Or.inl g)
  have hn1 : n.toNatClampNeg ≤ 10000 := Nat.not_lt.mp fun g => hn (Or.inr g)
  intro H locs arr hP hS hL
  refine z_size (N := B.2.2 + h.length) (by omega) (z_least hs hk0 hP hS) fun hz => ?_
  refine va_newaK hx hb (hts _ hw) rfl hd rfl hn0 rfl ?_ (by simp at hr1; omega) (by omega) rfl fun H1 cA e1 z1 o1 hAr hNm => ?_
  · have h1 : n.toNatClampNeg * componentBytes (newarray.typeOf at') ≤ 10000 * 8 := Nat.mul_le_mul hn1 hcb
    omega
  have hcA := hca cA hNm
  subst hcA
  have hkk : ∀ (k : Nat) (x : Nat × va_E), (z_ws B ca h)[k]? = some x → H1[x.1]? = H[x.1]? := fun k x hx => o1 x.1 ((hP k x hx).lt)
  have hS1 : va_S (fun q => B.2.2 ≤ q) s.heap H1 locs := ⟨Nat.le_trans hS.1 (by omega), fun x h1 h2 => (o1 x (Nat.lt_of_lt_of_le h1 hS.1)).trans (hS.2.1 x h1 h2), hS.2.2⟩
  have hP1 : va_P D z_cl (z_ws B ca (h ++ [cl1 n.toNatClampNeg])) H1 := by
    rw [z_ws_push, ← hz, hce]
    refine (hP.kept hkk).app (fun k x hx => ?_)
    have hz : k < 1 := (List.getElem?_eq_some_iff.mp hx).1
    rw [show k = 0 by omega] at hx
    cases hx
    show H1[H.size]? = some (vp_cell _ _)
    rw [ha]
    exact e1
  have := k H1 locs arr hP1 hS1 hL
  rw [List.length_append, z_sl_push, hsz] at this
  have e2 : h.length + [cl1 n.toNatClampNeg].length - k0 = h.length - k0 + 1 := by simp; omega
  have e3 : z_sl h + n.toNatClampNeg - s0 = z_sl h - s0 + n.toNatClampNeg := by omega
  rw [e2, e3] at this
  rw [hz]
  exact this
theorem z_ca {ty : FieldType} {t0 : Nat} (hK : va_K D z_cl (z_tl ca) s) (ht : (z_tl ca)[t0]? = some (ca ty, ty)) (hn : ∀ C, ty ≠ .object C) : ∀ cA, s.vm.findClass ("[" ++ ty.toString) = some cA → cA = ca ty := by
  intro cA h
  have h1 := (hK.2 t0 _ ht).2
  have h2 : s.vm.findClass ("[" ++ ty.toString) = some (ca ty) := by
    cases ty <;> first | exact h1 | exact absurd rfl (hn _)
  exact Option.some.inj (h.symm.trans h2)
theorem z_s_na {at' : ArrayType} (C : z_Ctx X B D ca sv m k0 p R s m' args meth c) (hk0 : k0 ≤ h.length) (hs0 : s0 ≤ z_sl h) (hr1 : q.2.2.2.length - k0 ≤ R.cells) (hr2 : z_sl q.2.2.2 - s0 ≤ R.slots) (hd : decode (z_b m) pc = .ok (.newarray at', 2)) (hz : z_na at' pc ls st h = some (.inr (.inl q))) (k : z_OK B D ca m k0 s0 p l e R s m' args below meth c Q q.1 q.2.1 q.2.2.1 q.2.2.2) : z_OK B D ca m k0 s0 p l e R s m' args below meth c Q pc ls st h := by
  have hK : va_K D z_cl (z_tl ca) s := by
    obtain ⟨hx, hb, hml, hret, hlk, hnm, hown, hts, hK, hXt, hs, hScr, hfr, hlo⟩ := C
    exact hK
  unfold z_na z_go at hz
  split at hz
  · split at hz
    · cases hz
    · rename_i n r hn
      cases at' with
      | int =>
        cases hz
        exact z_s_nar (ty := .int) (a0 := fun N => (N, .inl (fun _ => 0))) (cl1 := fun N => .inl (.int, N, .inl (fun _ => 0))) C rfl (z_T_in z_arr_int rfl) (z_ca (t0 := 0) hK rfl (fun _ g => by cases g)) (fun _ _ => rfl) (fun _ => rfl) (fun _ => rfl) (by decide) hk0 hs0 hn hr1 hr2 hd k
      | byte =>
        cases hz
        exact z_s_nar (ty := .byte) (a0 := fun N => (N, .inl (fun _ => 0))) (cl1 := fun N => .inl (.byte, N, .inl (fun _ => 0))) C rfl (z_T_in z_arr_byte rfl) (z_ca (t0 := 2) hK rfl (fun _ g => by cases g)) (fun _ _ => rfl) (fun _ => rfl) (fun _ => rfl) (by decide) hk0 hs0 hn hr1 hr2 hd k
      | long =>
        cases hz
        exact z_s_nar (ty := .long) (a0 := fun N => (N, .inr (.inl (fun _ => 0)))) (cl1 := fun N => .inl (.long, N, .inr (.inl (fun _ => 0)))) C rfl (z_T_in z_arr_long rfl) (z_ca (t0 := 1) hK rfl (fun _ g => by cases g)) (fun _ _ => rfl) (fun _ => rfl) (fun _ => rfl) (by decide) hk0 hs0 hn hr1 hr2 hd k
      | _ => cases hz
  · cases hz
theorem z_s_aw {ix : Nat} (C : z_Ctx X B D ca sv m k0 p R s m' args meth c) (hk0 : k0 ≤ h.length) (hs0 : s0 ≤ z_sl h) (hr1 : q.2.2.2.length - k0 ≤ R.cells) (hr2 : z_sl q.2.2.2 - s0 ≤ R.slots) (hd : decode (z_b m) pc = .ok (.anewarray ix, 3)) (hz : z_aw (z_o m) pc ix ls st h = some (.inr (.inl q))) (k : z_OK B D ca m k0 s0 p l e R s m' args below meth c Q q.1 q.2.1 q.2.2.1 q.2.2.2) : z_OK B D ca m k0 s0 p l e R s m' args below meth c Q pc ls st h := by
  obtain ⟨hx, hb, hml, hret, hlk, hnm, hown, hts, hK, hXt, hs, hScr, hfr, hlo⟩ := C
  unfold z_aw z_go at hz
  split at hz
  · split at hz
    · cases hz
    · rename_i n r hn
      split at hz
      · rename_i pls hw
        cases hz
        obtain ⟨qc, hc, w1, w2, w3⟩ := z_nw_ok hw
        have hq : qc = (RX3, TX3, 12) := Option.some.inj (hc.symm.trans rfl)
        subst hq
        dsimp only at hr1 hr2
        rw [List.length_append] at hr1
        rw [z_sl_push] at hr2
        dsimp only [z_sz] at hr2
        have hn0 : ¬ n < 0 := fun g => hn (Or.inl g)
        have hn1 : n.toNatClampNeg ≤ 10000 := Nat.not_lt.mp fun g => hn (Or.inr g)
        intro H locs arr hP hS hL
        refine z_size (N := B.2.2 + h.length) (by omega) (z_least hs hk0 hP hS) fun hz => ?_
        refine W.anew hx hb hown (hts _ w1) (va_AO.use hXt.2.1) rfl hd rfl hn0 (by omega) (by simp at hr1; omega) (by omega) fun cA kA comp f1 f2 f3 f4 => ?_
        have hcA : cA = ca (.object "DitchSaint$Parish") := by
          obtain ⟨-, -, -, -, -, h4⟩ := (hK.2 3 _ rfl).2
          exact Option.some.inj (f1.symm.trans h4)
        subst hcA
        generalize hH1 : H.push ({ cls := ca (.object "DitchSaint$Parish"), slots := Array.replicate n.toNatClampNeg .null, vm := .none } : Cell) = H1
        have z1 : H1.size = H.size + 1 := by rw [← hH1, Array.size_push]
        have e1 : H1[H.size]? = some (arrV (ca (.object "DitchSaint$Parish")) n.toNatClampNeg (fun _ => .null)) := by rw [← hH1, Array.getElem?_push_size, ← arrV_new]
        have o1 : ∀ q : Nat, q < H.size → H1[q]? = H[q]? := fun q hq => by rw [← hH1, Array.getElem?_push, if_neg (Nat.ne_of_lt hq)]
        have hkk : ∀ (k : Nat) (x : Nat × va_E), (z_ws B ca h)[k]? = some x → H1[x.1]? = H[x.1]? := fun k x hx => o1 x.1 ((hP k x hx).lt)
        have hS1 : va_S (fun q => B.2.2 ≤ q) s.heap H1 locs := ⟨Nat.le_trans hS.1 (by omega), fun x h1 h2 => (o1 x (Nat.lt_of_lt_of_le h1 hS.1)).trans (hS.2.1 x h1 h2), hS.2.2⟩
        have hP1 : va_P D z_cl (z_ws B ca (h ++ [.inl (.object "DitchSaint$Parish", n.toNatClampNeg, .inr (.inr (fun _ => none)))])) H1 := by
          rw [z_ws_push, ← hz]
          refine (hP.kept hkk).app (fun k x hx => ?_)
          have hz : k < 1 := (List.getElem?_eq_some_iff.mp hx).1
          rw [show k = 0 by omega] at hx
          cases hx
          show H1[H.size]? = some (vp_cell _ _)
          rw [e1]
          rfl
        have := k H1 locs arr hP1 hS1 hL
        dsimp only at this
        rw [List.length_append, z_sl_push] at this
        have e2 : h.length + [(Sum.inl (.object "DitchSaint$Parish", n.toNatClampNeg, .inr (.inr (fun _ => none))) : z_C)].length - k0 = h.length - k0 + 1 := by simp; omega
        have e3 : z_sl h + n.toNatClampNeg - s0 = z_sl h - s0 + n.toNatClampNeg := by omega
        dsimp only [z_sz] at this
        rw [e2, e3] at this
        rw [hz]
        exact this
      · cases hz
  · cases hz
end ZS
