/-! ===== what the machine does itself; all instructions that go on ===== -/
theorem z_len_inst : Cond.instanceMethod yJ0_length_8abf5 ∈ lw_tbl := z_at_mem (p := 2144) (by decide +kernel)
theorem z_len_sel : Cond.selects "java/lang/String" yJ0_length_8abf5 yJ0_length_8abf5 ∈ lw_tbl := z_at_mem (p := 2145) (by decide +kernel)
theorem z_len_code : Cond.code yJ0_length_8abf5 cJ0_length_8abf5 1 (some .int) ∈ lw_tbl := z_tb_mem (c := 2) (i := 146) rfl
theorem z_cha_inst : Cond.instanceMethod yJ0_charAt_5068e ∈ lw_tbl := z_at_mem (p := 2154) (by decide +kernel)
theorem z_cha_sel : Cond.selects "java/lang/String" yJ0_charAt_5068e yJ0_charAt_5068e ∈ lw_tbl := z_at_mem (p := 2155) (by decide +kernel)
theorem z_cha_code : Cond.code yJ0_charAt_5068e cJ0_charAt_5068e 2 (some .char) ∈ lw_tbl := z_tb_mem (c := 2) (i := 156) rfl
theorem z_str_in : Cond.initialized "java/lang/String" ∈ lw_tbl := z_at_mem (p := 15) (by decide +kernel)
section ZS
variable {X : z_S} {B : Nat × Nat × Nat} {D : va_G} {ca : FieldType → ClassId} {sv : Nat} {m : z_M} {k0 s0 : Nat} {p : Program} {l : Launch} {e : Env} {R : Room} {s : State} {m' : MethodId} {args : Array Value} {below : List Frame} {meth : Method} {c : Code} {Q : State → Prop}
variable {pc : Nat} {ls : z_L} {st : List Value} {h : z_H} {q : Nat × z_L × List Value × z_H}
theorem z_callSi {H : Heap} {locs : List Loc} {cells slots : Nat} {post : Int32 → Prop} {rest st0 : List Value} {arr : Array Slot} {a : Array Value} (hr : va_Run p l e R s m' args below meth c H locs cells slots 0 0 (F0 m' pc arr st0) rest (vp_Si post a) (fun _ => False)) (kk : ∀ r, post r → W p l e R s m' args below meth c H locs cells slots Q (F0 m' (pc + 3) arr (.int r :: rest))) : W p l e R s m' args below meth c H locs cells slots Q (F0 m' pc arr st0) := by
  intro T hT X
  obtain ⟨v, st₀, t, T', L, h0, X', hL, e1, e2, ⟨r, hv, hp, hh⟩, st⟩ := hr T hT X
  cases hv
  obtain ⟨t2, a1, b1⟩ := kk r hp T' (by rw [e1, hh, h0]) (Stand.forget X' (fun q h => (hL q h).elim))
  exact ⟨t2, st t2 a1, b1⟩
theorem z_good_ws {y : MethodName} {bytes : ByteArray} {n : Nat} {r : Option FieldType} (h : Cond.code y bytes n r ∈ lw_tbl) : GoodIn z_T (Cond.code y bytes n r :: z_T) := fun w hw => by
  rcases List.mem_cons.mp hw with rfl | hw
  · exact z_T_good _ (z_T_in h rfl)
  · exact z_T_good w hw
theorem z_b0_inv (hz : z_blt 0 pc ls st h = some (.inr (.inl q))) : ∃ a r, st = .ref a :: r ∧ (r.map fun v => v.category).sum ≤ 8 ∧ q = (pc + 3, ls, r, h) := by
  simp only [z_blt, z_go] at hz
  split at hz
  · split at hz
    · rename_i hw; cases hz; exact ⟨_, _, rfl, hw, rfl⟩
    · cases hz
  · cases hz
theorem z_b1_inv (hz : z_blt 1 pc ls st h = some (.inr (.inl q))) : ∃ (n dp : Int32) (a : Nat) (sp : Int32) (b : Nat) (r : List Value) (n0 n1 : Nat) (f g : Nat → Int64), st = .int n :: .int dp :: .ref (a + 2) :: .int sp :: .ref (b + 2) :: r ∧ h[b]? = some (.inl (.long, n0, .inr (.inl f))) ∧ h[a]? = some (.inl (.long, n1, .inr (.inl g))) ∧ (¬ sp < 0 ∧ ¬ dp < 0 ∧ ¬ n < 0 ∧ sp.toNatClampNeg + n.toNatClampNeg ≤ n0 ∧ dp.toNatClampNeg + n.toNatClampNeg ≤ n1 ∧ (r.map fun v => v.category).sum ≤ 8) ∧ q = (pc + 3, ls, r, h.set a (.inl (.long, n1, .inr (.inl (va_cpy f g sp.toNatClampNeg dp.toNatClampNeg n.toNatClampNeg))))) := by
  have hz : z_acp pc ls st h = some (.inr (.inl q)) := hz
  unfold z_acp z_go at hz
  split at hz
  · split at hz
    · rename_i hhb hha
      split at hz
      · rename_i hc; cases hz; exact ⟨_, _, _, _, _, _, _, _, _, _, rfl, hhb, hha, hc, rfl⟩
      · cases hz
    · cases hz
  · cases hz
theorem z_b2_inv (hz : z_blt 2 pc ls st h = some (.inr (.inl q))) : ∃ r, st = .ref 1 :: r ∧ (r.map fun v => v.category).sum ≤ 8 ∧ q = (pc + 3, ls, .int 152 :: r, h) := by
  simp only [z_blt, z_go] at hz
  split at hz
  · split at hz
    · rename_i hw; cases hz; exact ⟨_, rfl, hw, rfl⟩
    · cases hz
  · cases hz
theorem z_b3_inv (hz : z_blt 3 pc ls st h = some (.inr (.inl q))) : ∃ (i : Int32) (r : List Value), st = .int i :: .ref 1 :: r ∧ (¬ (i < 0 ∨ 152 ≤ i.toNatClampNeg) ∧ (r.map fun v => v.category).sum ≤ 8) ∧ q = (pc + 3, ls, .int (z_txt.getD i.toNatClampNeg 0) :: r, h) := by
  simp only [z_blt, z_go] at hz
  split at hz
  · split at hz
    · rename_i hw; cases hz; exact ⟨_, _, rfl, hw, rfl⟩
    · cases hz
  · cases hz
theorem z_b4_inv (hz : z_blt 4 pc ls st h = some (.inr (.inl q))) : ∃ (x y : Int32) (r : List Value), st = .int y :: .int x :: r ∧ (r.map fun v => v.category).sum ≤ 8 ∧ q = (pc + 3, ls, .int (if x < y then y else x) :: r, h) := by
  simp only [z_blt, z_go] at hz
  split at hz
  · split at hz
    · rename_i hw; cases hz; exact ⟨_, _, _, rfl, hw, rfl⟩
    · cases hz
  · cases hz
theorem z_b5_inv (hz : z_blt 5 pc ls st h = some (.inr (.inl q))) : ∃ (x y : Int32) (r : List Value), st = .int y :: .int x :: r ∧ (r.map fun v => v.category).sum ≤ 8 ∧ q = (pc + 3, ls, .int (if y < x then y else x) :: r, h) := by
  simp only [z_blt, z_go] at hz
  split at hz
  · split at hz
    · rename_i hw; cases hz; exact ⟨_, _, _, rfl, hw, rfl⟩
    · cases hz
  · cases hz
theorem z_b6_inv (hz : z_blt 6 pc ls st h = some (.inr (.inl q))) : ∃ (x : Int64) (r : List Value), st = .long x :: r ∧ (r.map fun v => v.category).sum ≤ 8 ∧ q = (pc + 3, ls, .long (if 0 < x then x else -x) :: r, h) := by
  simp only [z_blt, z_go] at hz
  split at hz
  · split at hz
    · rename_i hw; cases hz; exact ⟨_, _, rfl, hw, rfl⟩
    · cases hz
  · cases hz
theorem z_s_spec {ix : Nat} (C : z_Ctx X B D ca sv m k0 p R s m' args meth c) (hd : decode (z_b m) pc = .ok (.invokespecial ix, 3)) (hz : z_ivk (fun k => k == 1 || k == 2) (fun b => b == 0) (z_o m) pc ix ls st h = some (.inr (.inl q))) (k : z_OK B D ca m k0 s0 p l e R s m' args below meth c Q q.1 q.2.1 q.2.2.1 q.2.2.2) : z_OK B D ca m k0 s0 p l e R s m' args below meth c Q pc ls st h := by
  obtain ⟨hx, hb, hml, hret, hlk, hnm, hown, hts, hK, hXt, hs, hScr, hfr, hlo⟩ := C
  unfold z_ivk at hz
  split at hz
  · rename_i b pl hbk
    split at hz
    · rename_i hb0
      have hb1 : b = 0 := eq_of_beq hb0
      subst hb1
      have hlink := z_bk_ok hbk
      obtain ⟨a, r, rfl, hw, rfl⟩ := z_b0_inv hz
      intro H locs arr hP hS hL
      exact W.objInit hx hb hown (hts _ hlink) (hts _ (z_T_in z_oi_inst rfl)) (hts _ (z_T_in z_oi_code rfl)) rfl (by rw [hml]; exact hL.2.1) rfl hd (by omega) (by rw [z_cv_cats]; show 2 * 0 + _ + 12 ≤ _; omega) (k H locs arr hP hS hL)
    · cases hz
  · exact (z_inv_go hz).elim
theorem z_s_stat {ix : Nat} (C : z_Ctx X B D ca sv m k0 p R s m' args meth c) (hr1 : q.2.2.2.length - k0 ≤ R.cells) (hr2 : z_sl q.2.2.2 - s0 ≤ R.slots) (hd : decode (z_b m) pc = .ok (.invokestatic ix, 3)) (hz : z_ivk (fun k => k == 3) (fun b => b == 1 || b == 4 || b == 5 || b == 6) (z_o m) pc ix ls st h = some (.inr (.inl q))) (k : z_OK B D ca m k0 s0 p l e R s m' args below meth c Q q.1 q.2.1 q.2.2.1 q.2.2.2) : z_OK B D ca m k0 s0 p l e R s m' args below meth c Q pc ls st h := by
  obtain ⟨hx, hb, hml, hret, hlk, hnm, hown, hts, hK, hXt, hs, hScr, hfr, hlo⟩ := C
  unfold z_ivk at hz
  split at hz
  · rename_i b pl hbk
    split at hz
    · rename_i hb0
      have hb1 : b = 1 ∨ b = 4 ∨ b = 5 ∨ b = 6 := by
        simp only [Bool.or_eq_true, beq_iff_eq] at hb0
        omega
      have hlink := z_bk_ok hbk
      rcases hb1 with rfl | rfl | rfl | rfl
      · obtain ⟨n, dp, a, sp, b, r, n0, n1, f, g, rfl, hhb, hha, ⟨c1, c2, c3, c4, c5, c6⟩, rfl⟩ := z_b1_inv hz
        intro H locs arr hP hS hL
        refine va_copyl (ty := .long) hx hb (hml.trans hL.2.1.symm) hown (hts _ hlink) (hts _ (z_T_in z_ac_nat rfl)) (hts _ (z_T_in z_ac_st rfl)) (hts _ (z_T_in z_ac_in rfl)) hK hP (z_ws_D B ca h) hS b a 1 1 (z_ws_at hhb) (z_ws_at hha) rfl rfl rfl c1 c2 c3 c4 c5 (fun _ _ => rfl) (by omega) (by rw [z_cv_cats, show nativeFrameWords "java/lang/System" "arraycopy" 5 = 7 by decide]; omega) hd fun H1 locs1 hP1 _ hS1 => ?_
        have := k H1 locs1 arr (by dsimp only; rw [z_ws_set]; exact hP1) hS1 hL
        dsimp only at this
        rw [List.length_set, z_sl_set hha] at this
        · exact this
        · rfl
      · obtain ⟨x, y, r, rfl, hw, rfl⟩ := z_b4_inv hz
        intro H locs arr hP hS hL
        exact va_mmax hx hb (hml.trans hL.2.1.symm) hown (hts _ hlink) (hts _ (z_T_in z_mmax_st rfl)) (hts _ (z_T_in z_ma_in rfl)) (hts _ (z_T_in z_mmax_code rfl)) (by omega) (by rw [z_cv_cats]; omega) hr1 hr2 hd (k H locs arr hP hS hL)
      · obtain ⟨x, y, r, rfl, hw, rfl⟩ := z_b5_inv hz
        intro H locs arr hP hS hL
        exact va_mmin hx hb (hml.trans hL.2.1.symm) hown (hts _ hlink) (hts _ (z_T_in z_mmin_st rfl)) (hts _ (z_T_in z_ma_in rfl)) (hts _ (z_T_in z_mmin_code rfl)) (by omega) (by rw [z_cv_cats]; omega) hr1 hr2 hd (k H locs arr hP hS hL)
      · obtain ⟨x, r, rfl, hw, rfl⟩ := z_b6_inv hz
        intro H locs arr hP hS hL
        exact va_mabs_long hx hb (hml.trans hL.2.1.symm) hown (hts _ hlink) (hts _ (z_T_in z_mabs_st rfl)) (hts _ (z_T_in z_ma_in rfl)) (hts _ (z_T_in z_mabs_code rfl)) (by omega) (by rw [z_cv_cats]; omega) hr1 hr2 hd (k H locs arr hP hS hL)
    · cases hz
  · exact (z_inv_go hz).elim
theorem z_s_virt {ix : Nat} (hStr : z_Str l) (C : z_Ctx X B D ca sv m k0 p R s m' args meth c) (hr1 : q.2.2.2.length - k0 ≤ R.cells) (hr2 : z_sl q.2.2.2 - s0 ≤ R.slots) (hd : decode (z_b m) pc = .ok (.invokevirtual ix, 3)) (hz : z_ivk (fun k => k == 0) (fun b => b == 2 || b == 3) (z_o m) pc ix ls st h = some (.inr (.inl q))) (k : z_OK B D ca m k0 s0 p l e R s m' args below meth c Q q.1 q.2.1 q.2.2.1 q.2.2.2) : z_OK B D ca m k0 s0 p l e R s m' args below meth c Q pc ls st h := by
  obtain ⟨hx, hb, hml, hret, hlk, hnm, hown, hts, hK, hXt, hs, hScr, hfr, hlo⟩ := C
  unfold z_ivk at hz
  split at hz
  · rename_i b pl hbk
    split at hz
    · rename_i hb0
      have hb1 : b = 2 ∨ b = 3 := by
        simp only [Bool.or_eq_true, beq_iff_eq] at hb0
        omega
      have hlink := z_bk_ok hbk
      have hblind : ∀ av : List Value, FrameBlind (va_Pc av (fun U => z_X B sv U U.heap)) := fun av a U g mk hq => ⟨hq.1, z_X.same (u := U) (U := U.calling g mk a) (H := U.heap) rfl hq.2⟩
      rcases hb1 with rfl | rfl
      · obtain ⟨r, rfl, hw0, rfl⟩ := z_b2_inv hz
        intro H locs arr hP hS hL
        have hpre : ∀ U : State, U.heap = H → s.WarmedH U.vm → z_X B sv U U.heap := fun U hU hW => by rw [hU]; exact (hXt.kept hS.2.1).warm hW
        refine z_callSi (post := fun r => r = 152) (va_runV (As := []) (b := B.2.1) (n := 0) (rest := r.map (z_cv B)) (C := "java/lang/String") ⟨hx, hb, hml, hown, hts⟩ ((hStr B sv).1) (cwV 0 hts (ws' := z_T) (fun w hw => ?_) rfl rfl rfl (by decide +kernel) ⟨by show 5 + 1 ≤ _; omega, by show 8 + (1 + 11) + 120 ≤ _; omega⟩) ⟨hblind _, vk_recv hXt.2.2.2.1 (i := 0) (by omega) hS, fun U hU hW => ⟨rfl, hpre U hU hW⟩⟩ rfl rfl hL.2.1 rfl (lv_room (by rw [z_cv_cats]; exact hw0)) hd ⟨hr1, hr2⟩) fun rr hrr => ?_
        · simp only [wsV, List.mem_append, List.mem_cons, List.not_mem_nil, or_false] at hw
          rcases hw with (rfl | rfl | rfl | rfl) | rfl | hw
          · exact z_T_good _ hlink
          · exact z_T_good _ (z_T_in z_len_inst rfl)
          · exact z_T_good _ (z_T_in z_len_sel rfl)
          · exact z_T_good _ (z_T_in z_str_in rfl)
          · exact z_T_good _ (z_T_in z_len_code rfl)
          · exact z_T_good _ hw
        · rw [hrr]
          exact k H locs arr hP hS hL
      · obtain ⟨i, r, rfl, hw0, rfl⟩ := z_b3_inv hz
        intro H locs arr hP hS hL
        have hpre : ∀ U : State, U.heap = H → s.WarmedH U.vm → z_X B sv U U.heap := fun U hU hW => by rw [hU]; exact (hXt.kept hS.2.1).warm hW
        refine z_callSi (post := fun r => r = z_txt.getD i.toNatClampNeg 0) (va_runV (As := [.int i]) (b := B.2.1) (n := 1) (rest := r.map (z_cv B)) (C := "java/lang/String") ⟨hx, hb, hml, hown, hts⟩ ((hStr B sv).2 i hw0.1) (cwV 1 hts (ws' := z_T) (fun w hw => ?_) rfl rfl rfl (by decide +kernel) ⟨by show 5 + 1 ≤ _; omega, by show 8 + (2 + 11) + 120 ≤ _; omega⟩) ⟨hblind _, vk_recv hXt.2.2.2.1 (i := 0) (by omega) hS, fun U hU hW => ⟨rfl, hpre U hU hW⟩⟩ rfl rfl hL.2.1 rfl (lv_room (by rw [z_cv_cats]; exact hw0.2)) hd ⟨hr1, hr2⟩) fun rr hrr => ?_
        · simp only [wsV, List.mem_append, List.mem_cons, List.not_mem_nil, or_false] at hw
          rcases hw with (rfl | rfl | rfl | rfl) | rfl | hw
          · exact z_T_good _ hlink
          · exact z_T_good _ (z_T_in z_cha_inst rfl)
          · exact z_T_good _ (z_T_in z_cha_sel rfl)
          · exact z_T_good _ (z_T_in z_str_in rfl)
          · exact z_T_good _ (z_T_in z_cha_code rfl)
          · exact z_T_good _ hw
        · rw [hrr]
          exact k H locs arr hP hS hL
    · cases hz
  · exact (z_inv_go hz).elim
end ZS
