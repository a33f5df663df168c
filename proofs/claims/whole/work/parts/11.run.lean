/-! ===== a run of the small machine is a run of the machine ===== -/
def z_Q (B : Nat × Nat × Nat) (D : va_G) (ca : FieldType → ClassId) (r : Option Value) (h1 : z_H) : Array Value → State → Outcome → State → Prop := fun _ st o t => o = .returned (r.map (z_cv B)) ∧ va_P D z_cl (z_ws B ca h1) t.heap ∧ va_F (fun q => B.2.2 ≤ q) st t
def z_Pre (B : Nat × Nat × Nat) (D : va_G) (ca : FieldType → ClassId) (sv : Nat) (h : z_H) (U : State) : Prop := U.heap.size = B.2.2 + h.length ∧ va_P D z_cl (z_ws B ca h) U.heap ∧ va_K D z_cl (z_tl ca) U ∧ z_X B sv U U.heap
def z_rm (d mc ms : Nat) : Room := { frames := d + 8, cells := mc, slots := ms, locals := 64 * d + 200 }
section ZR
variable {X : z_S} {B : Nat × Nat × Nat} {D : va_G} {ca : FieldType → ClassId} {sv : Nat} {m : z_M} {k0 s0 : Nat} {p : Program} {l : Launch} {e : Env} {R : Room} {s : State} {m' : MethodId} {args : Array Value} {below : List Frame} {meth : Method} {c : Code} {Q : State → Prop}
variable {pc : Nat} {ls : z_L} {st : List Value} {h : z_H}
/-- a method's own end -/
theorem z_ret_sound {r : Option Value} {h1 : z_H} (C : z_Ctx X B D ca sv m k0 p R s m' args meth c) (hz : z_step X m pc ls st h = some (.inl (r, h1))) : z_OK B D ca m k0 s0 p l e R s m' args below meth c (MQ below (z_Q B D ca r h1) args s (h1.length - k0) (z_sl h1 - s0) (fun q => B.2.2 ≤ q)) pc ls st h := by
  obtain ⟨hx, hb, hml, hret, hlk, hnm, hown, hts, hK, hXt, hs, hScr, hfr, hlo⟩ := C
  unfold z_step at hz
  split at hz
  · rename_i i len hd
    split at hz
    · rename_i hl
      have he := z_ins_ret hz
      subst he
      intro H locs arr hP hS hL
      have hq : ∀ t : State, t.heap = H → s.WarmedH t.vm → z_Q B D ca r h1 args s (.returned (r.map (z_cv B))) t := fun t ht hW => ⟨rfl, by rw [ht]; exact hP, hS.F ht⟩
      cases i
      case ireturn =>
        obtain rfl := z_l1 hl
        simp only [z_ins] at hz
        split at hz
        · split at hz
          · rename_i ty hty
            split at hz
            · rename_i hn
              cases hz
              exact W.zret (ty := ty) hx hb (hret.trans hty) hn hq hS.2.2 hd hlk
            · cases hz
          · cases hz
        · cases hz
      case lreturn =>
        obtain rfl := z_l1 hl
        simp only [z_ins] at hz
        split at hz
        · split at hz
          · rename_i hn
            cases hz
            exact W.lret hx hb (hret.trans hn) hq hS.2.2 hd hlk
          · cases hz
        · cases hz
      case return_ =>
        obtain rfl := z_l1 hl
        simp only [z_ins] at hz
        split at hz
        · split at hz
          · rename_i hn
            cases hz
            exact W.vret hx hb (hret.trans hn) hq hS.2.2 hd hlk
          · cases hz
        · cases hz
      case iload_n => exact (n_z_ldI hz).elim
      case iload => exact (n_z_ldI hz).elim
      case lload_n => exact (n_z_ldL hz).elim
      case lload => exact (n_z_ldL hz).elim
      case aload_n => exact (n_z_ldA hz).elim
      case aload => exact (n_z_ldA hz).elim
      case istore_n => exact (n_z_stI hz).elim
      case istore => exact (n_z_stI hz).elim
      case lstore_n => exact (n_z_stL hz).elim
      case lstore => exact (n_z_stL hz).elim
      case astore_n => exact (n_z_stA hz).elim
      case astore => exact (n_z_stA hz).elim
      case iadd => exact (n_z_bi hz).elim
      case isub => exact (n_z_bi hz).elim
      case imul => exact (n_z_bi hz).elim
      case iand => exact (n_z_bi hz).elim
      case ior => exact (n_z_bi hz).elim
      case ixor => exact (n_z_bi hz).elim
      case ishl => exact (n_z_bi hz).elim
      case ishr => exact (n_z_bi hz).elim
      case iushr => exact (n_z_bi hz).elim
      case idiv => exact (n_z_bi0 hz).elim
      case irem => exact (n_z_bi0 hz).elim
      case ladd => exact (n_z_bl hz).elim
      case lsub => exact (n_z_bl hz).elim
      case lmul => exact (n_z_bl hz).elim
      case land => exact (n_z_bl hz).elim
      case lor => exact (n_z_bl hz).elim
      case ldiv => exact (n_z_bl0 hz).elim
      case lrem => exact (n_z_bl0 hz).elim
      case ifCond => exact (n_z_c1 hz).elim
      case if_icmp => exact (n_z_c2 hz).elim
      case goto => exact (n_z_jmp hz).elim
      case tableswitch => exact (n_z_tsw hz).elim
      case lookupswitch => exact (n_z_lsw hz).elim
      case getfield => exact (n_z_gf hz).elim
      case putfield => exact (n_z_pf hz).elim
      case new => exact (n_z_new hz).elim
      case newarray => exact (n_z_na hz).elim
      case anewarray => exact (n_z_aw hz).elim
      case iaload => exact (n_z_ia hz).elim
      case baload => exact (n_z_ba hz).elim
      case laload => exact (n_z_la hz).elim
      case aaload => exact (n_z_aa hz).elim
      case iastore => exact (n_z_is hz).elim
      case bastore => exact (n_z_bs hz).elim
      case lastore => exact (n_z_ls hz).elim
      case aastore => exact (n_z_as hz).elim
      case arraylength => exact (n_z_al hz).elim
      case invokevirtual => exact (n_z_ivk hz).elim
      case invokespecial => exact (n_z_ivk hz).elim
      case invokestatic => exact (n_z_ivk hz).elim
      all_goals exfalso
      all_goals first
        | cases hz; done
        | (simp only [z_ins] at hz; split at hz <;> first | cases hz | exact n_z_go _ _ _ _ hz | (split at hz <;> first | cases hz | exact n_z_go _ _ _ _ hz))
    · cases hz
  · cases hz
/-- behind a call -/
theorem z_callC {H : Heap} {locs : List Loc} {cells slots mc ms : Nat} {rest st0 : List Value} {arr : Array Slot} {a : Array Value} {r : Option Value} {h1 : z_H} (hr : va_Run p l e R s m' args below meth c H locs cells slots mc ms (F0 m' pc arr st0) rest (z_Q B D ca r h1 a) (fun q => B.2.2 ≤ q)) (hS : va_S (fun q => B.2.2 ≤ q) s.heap H locs)
    (kk : ∀ (H1 : Heap) (locs1 : List Loc), va_P D z_cl (z_ws B ca h1) H1 → va_S (fun q => B.2.2 ≤ q) s.heap H1 locs1 → W p l e R s m' args below meth c H1 locs1 (cells + mc) (slots + ms) Q (F0 m' (pc + 3) arr ((r.map (z_cv B)).toList ++ rest))) : W p l e R s m' args below meth c H locs cells slots Q (F0 m' pc arr st0) := by
  intro T hT X
  obtain ⟨v, st₀, t, T', L, h0, X', hL, e1, e2, ⟨hv, hp, hz, hk⟩, st⟩ := hr T hT X
  cases hv
  rw [h0] at hz hk
  obtain ⟨t2, a1, b1⟩ := kk T'.heap (locs ++ L) (by rw [e1]; exact hp)
    ⟨Nat.le_trans hS.1 (by rw [e1]; exact hz), fun q h1 h2 => by rw [e1, hk q (Nat.lt_of_lt_of_le h1 hS.1) h2]; exact hS.2.1 q h1 h2, fun q hq => by
      rcases List.mem_append.mp hq with h | h
      · exact hS.2.2 q h
      · exact hL q h⟩ T' rfl X'
  exact ⟨t2, st t2 a1, b1⟩
theorem z_inv_inv {kd : Nat → Bool} {o ix j : Nat} {as rest : List Value} (hz : z_inv kd o pc ix ls st h = some (.inr (.inr (j, as, rest)))) : ∃ k pl, z_lk o ix = some (k, j, pl) ∧ kd k = true ∧ z_n (z_ms j) ≤ st.length ∧ (rest.map fun v => v.category).sum ≤ 8 ∧ (as.map fun v => v.category).sum ≤ z_x (z_ms j) ∧
    ((k = 3 ∧ as = (st.take (z_n (z_ms j))).reverse ∧ rest = st.drop (z_n (z_ms j))) ∨ (¬ k = 3 ∧ ∃ a, st.drop (z_n (z_ms j)) = .ref (a + 2) :: rest ∧ as = .ref (a + 2) :: (st.take (z_n (z_ms j))).reverse ∧ (¬ k = 0 ∨ z_isC h a (z_o (z_ms j)) = true))) := by
  unfold z_inv at hz
  split at hz
  · rename_i k j' pl hlk
    split at hz
    · rename_i hc
      split at hz
      · rename_i hk3
        split at hz
        · rename_i hw
          cases hz
          exact ⟨k, pl, hlk, hc.1, hc.2, hw.1, hw.2, Or.inl ⟨hk3, rfl, rfl⟩⟩
        · cases hz
      · rename_i hk3
        split at hz
        · rename_i a r hdr
          split at hz
          · rename_i hw
            cases hz
            exact ⟨k, pl, hlk, hc.1, hc.2, hw.1, hw.2.1, Or.inr ⟨hk3, a, hdr, rfl, hw.2.2⟩⟩
          · cases hz
        · cases hz
    · cases hz
  · cases hz
theorem z_isC_inv {a ci : Nat} (hz : z_isC h a ci = true) : ∃ fs, h[a]? = some (.inr (ci, fs)) := by
  unfold z_isC at hz
  split at hz
  · rename_i ci' fs hh
    have := eq_of_beq hz
    subst this
    exact ⟨fs, hh⟩
  · cases hz
/-- the call itself, by the callee's contract -/
theorem z_call_run {i : Instr} {len j : Nat} {as rest : List Value} {d mc ms : Nat} {r : Option Value} {h1 : z_H} {H : Heap} {locs : List Loc} {arr : Array Slot} (C : z_Ctx X B D ca sv m k0 p R s m' args meth c) (hfr : d + 1 + 8 ≤ R.frames) (hlo : 64 * (d + 1) + 200 ≤ R.locals) (hk0 : k0 ≤ h.length) (hcell : h.length - k0 + mc ≤ R.cells) (hslot : z_sl h - s0 + ms ≤ R.slots) (hsz : H.size = B.2.2 + h.length)
    (hd : decode (z_b m) pc = .ok (i, len)) (hl : z_len i len = true) (hz : z_ins X m pc i ls st h = some (.inr (.inr (j, as, rest)))) (hP : va_P D z_cl (z_ws B ca h) H) (hS : va_S (fun q => B.2.2 ≤ q) s.heap H locs) (hL : z_lsOK B arr (z_x m) ls)
    (hM : z_ms j ∈ z_all → (as.map fun v => v.category).sum ≤ z_x (z_ms j) → Met l (z_y (z_ms j)) (z_code (z_ms j) :: z_T) (z_rm d mc ms) (va_Pc (as.map (z_cv B)) (z_Pre B D ca sv h)) (z_Q B D ca r h1) mc ms (fun q => B.2.2 ≤ q)) :
    va_Run p l e R s m' args below meth c H locs (h.length - k0) (z_sl h - s0) mc ms (F0 m' pc arr (st.map (z_cv B))) (rest.map (z_cv B)) (z_Q B D ca r h1 (as.map (z_cv B)).toArray) (fun q => B.2.2 ≤ q) := by
  obtain ⟨hx, hb, hml, hret, hlk, hnm, hown, hts, hK, hXt, hs, hScr, -, -⟩ := C
  have hblind : FrameBlind (va_Pc (as.map (z_cv B)) (z_Pre B D ca sv h)) := fun a U g mk hq => ⟨hq.1, hq.2.1, hq.2.2.1, va_K.moved (u := U) (U := U.calling g mk a) (Vm.Alike.refl U.vm) hq.2.2.2.1, z_X.same (u := U) (U := U.calling g mk a) (H := U.heap) rfl hq.2.2.2.2⟩
  have hpre : ∀ U : State, U.heap = H → s.WarmedH U.vm → z_Pre B D ca sv h U := fun U hU hW => ⟨by rw [hU]; exact hsz, by rw [hU]; exact hP, va_K.moved hW.alike hK, by rw [hU]; exact (hXt.kept hS.2.1).warm hW⟩
  have main : ∀ (kd : Nat → Bool) (ix : Nat), z_inv kd (z_o m) pc ix ls st h = some (.inr (.inr (j, as, rest))) → ((decode (z_b m) pc = .ok (.invokevirtual ix, 3) ∧ ∀ k, kd k = true → k = 0) ∨ (decode (z_b m) pc = .ok (.invokespecial ix, 3) ∧ ∀ k, kd k = true → k = 1 ∨ k = 2) ∨ (decode (z_b m) pc = .ok (.invokestatic ix, 3) ∧ ∀ k, kd k = true → k = 3)) →
      va_Run p l e R s m' args below meth c H locs (h.length - k0) (z_sl h - s0) mc ms (F0 m' pc arr (st.map (z_cv B))) (rest.map (z_cv B)) (z_Q B D ca r h1 (as.map (z_cv B)).toArray) (fun q => B.2.2 ≤ q) := by
    intro kd ix hz hdc
    obtain ⟨k, pl, hlk2, hkd, hn, hw8, hent, hcase⟩ := z_inv_inv hz
    obtain ⟨hmem, hkind⟩ := z_lk_ok hlk2
    obtain ⟨wcode, winit, hplain, hnm1, hnm2, hdesc, hown2, hx40⟩ := z_ms_ok hmem
    have hMet := hM hmem hent
    have hG : GoodIn z_T (z_code (z_ms j) :: z_T) := z_good_ws (z_T_tbl wcode)
    have hR : (z_rm d mc ms).frames + 1 ≤ R.frames ∧ 8 + (z_x (z_ms j) + 11) + (z_rm d mc ms).locals ≤ R.locals := ⟨by show d + 8 + 1 ≤ _; omega, by show 8 + (z_x (z_ms j) + 11) + (64 * d + 200) ≤ _; omega⟩
    have htake : (((st.take (z_n (z_ms j))).reverse).map (z_cv B)).length = z_n (z_ms j) := by
      rw [List.length_map, List.length_reverse, List.length_take]; omega
    have hstk : ∀ tl : List Value, st.drop (z_n (z_ms j)) = tl → st.map (z_cv B) = (((st.take (z_n (z_ms j))).reverse).map (z_cv B)).reverse ++ tl.map (z_cv B) := by
      intro tl htl
      rw [← List.map_reverse, List.reverse_reverse, ← htl, ← List.map_append, List.take_append_drop]
    have hroom : 2 * (F0 m' pc arr (st.map (z_cv B))).monitorRoom + ((rest.map (z_cv B)).map fun v => v.category).sum ≤ 8 := by
      rw [z_cv_cats]; show 2 * 0 + _ ≤ 8; omega
    rcases hcase with ⟨hk3, has, hrest⟩ | ⟨hk3, a, hdr, has, hrecv⟩
    · -- static
      subst hk3
      have hst : decode (z_b m) pc = .ok (.invokestatic ix, 3) := by
        rcases hdc with ⟨-, h2⟩ | ⟨-, h2⟩ | ⟨h1, -⟩
        · have := h2 3 hkd; omega
        · have := h2 3 hkd; omega
        · exact h1
      rcases hkind with ⟨g, -⟩ | ⟨g, -⟩ | ⟨g, -⟩ | ⟨-, w1, w2⟩
      · omega
      · omega
      · omega
      · subst has
        refine va_runS ⟨hx, hb, hml, hown, hts⟩ hMet ⟨callB_of (z_n (z_ms j)) hts hG rfl rfl rfl (hts _ winit) (hts _ w1) ⟨hnm1, hnm2, hdesc⟩ hR, hts _ w2⟩ ⟨hblind, fun U hU hW => ⟨rfl, hpre U hU hW⟩⟩ rfl htake hL.2.1 (hstk _ hrest.symm) hroom hst ⟨hcell, hslot⟩
    · subst has
      have hstk2 : st.map (z_cv B) = (((st.take (z_n (z_ms j))).reverse).map (z_cv B)).reverse ++ .ref (B.2.2 + a) :: rest.map (z_cv B) := hstk _ hdr
      rcases hkind with ⟨rfl, w1, w2, w3, ho⟩ | ⟨rfl, w1, w2, hin, hrn⟩ | ⟨rfl, w1, w2, hin, hrn⟩ | ⟨g, -⟩
      · have hst : decode (z_b m) pc = .ok (.invokevirtual ix, 3) := by
          rcases hdc with ⟨h1, -⟩ | ⟨-, h2⟩ | ⟨-, h2⟩
          · exact h1
          · have := h2 0 hkd; omega
          · have := h2 0 hkd; omega
        have hrc : z_isC h a (z_o (z_ms j)) = true := by
          rcases hrecv with g | g
          · exact absurd rfl g
          · exact g
        obtain ⟨fs, hfs⟩ := z_isC_inv hrc
        have hcl : ∃ qc : vw_C, z_cl[z_o (z_ms j)]? = some qc ∧ qc.1 = (z_y (z_ms j)).cls := by
          have : ∀ o, o < 13 → ∃ qc : vw_C, z_cl[o]? = some qc ∧ qc.1 = z_R o := by
            intro o ho
            match o, ho with
            | 0, _ => exact ⟨_, rfl, rfl⟩
            | 1, _ => exact ⟨_, rfl, rfl⟩
            | 2, _ => exact ⟨_, rfl, rfl⟩
            | 3, _ => exact ⟨_, rfl, rfl⟩
            | 4, _ => exact ⟨_, rfl, rfl⟩
            | 5, _ => exact ⟨_, rfl, rfl⟩
            | 6, _ => exact ⟨_, rfl, rfl⟩
            | 7, _ => exact ⟨_, rfl, rfl⟩
            | 8, _ => exact ⟨_, rfl, rfl⟩
            | 9, _ => exact ⟨_, rfl, rfl⟩
            | 10, _ => exact ⟨_, rfl, rfl⟩
            | 11, _ => exact ⟨_, rfl, rfl⟩
            | 12, _ => exact ⟨_, rfl, rfl⟩
            | _ + 13, h => omega
          rw [← hown2]
          exact this _ ho
        obtain ⟨qc, hqc, hqn⟩ := hcl
        have hrv := va_recv hK hP hqc (z_ws_at hfs)
        rw [hqn] at hrv
        have hcw : CallW R s args (z_R (z_o m)) (z_y (z_ms j)).cls ix (z_y (z_ms j)) (z_b (z_ms j)) (z_x (z_ms j)) (z_r (z_ms j)) (z_code (z_ms j) :: z_T) (z_rm d mc ms) mc ms (z_n (z_ms j)) := ⟨callB_of (z_n (z_ms j)) hts hG rfl rfl rfl (hts _ winit) (hts _ w1) ⟨hnm1, hnm2, hdesc⟩ hR, hts _ w2, hts _ w3⟩
        exact va_runV (b := B.2.2 + a) (As := ((st.take (z_n (z_ms j))).reverse).map (z_cv B)) (C := (z_y (z_ms j)).cls) ⟨hx, hb, hml, hown, hts⟩ hMet hcw ⟨hblind, hrv, fun U hU hW => ⟨rfl, hpre U hU hW⟩⟩ rfl htake hL.2.1 hstk2 hroom hst ⟨hcell, hslot⟩
      · have hst : decode (z_b m) pc = .ok (.invokespecial ix, 3) := by
          rcases hdc with ⟨-, h2⟩ | ⟨h1, -⟩ | ⟨-, h2⟩
          · have := h2 1 hkd; omega
          · exact h1
          · have := h2 1 hkd; omega
        refine va_runI (bytes := z_b (z_ms j)) (maxL := z_x (z_ms j)) (b := B.2.2 + a) (As := ((st.take (z_n (z_ms j))).reverse).map (z_cv B)) ⟨hx, hb, hml, hown, hts⟩ hMet ⟨?_, hin, hts _ w2⟩ ⟨hblind, fun U hU hW => ⟨rfl, hpre U hU hW⟩⟩ rfl htake hL.2.1 hstk2 hroom hst ⟨hcell, hslot⟩
        have := callB_of (R := R) (s := s) (args := args) (own := z_R (z_o m)) (index := ix) (y := z_y (z_ms j)) (bytes := z_b (z_ms j)) (maxL := z_x (z_ms j)) (ret := z_r (z_ms j)) (rm := z_rm d mc ms) (mc := mc) (ms := ms) (z_n (z_ms j)) hts hG rfl rfl rfl (hts _ winit) (hts _ w1) ⟨hnm1, hnm2, hdesc⟩ hR
        rw [hrn] at this
        have e : z_code (z_ms j) = Cond.code (z_y (z_ms j)) (z_b (z_ms j)) (z_x (z_ms j)) none := by rw [← hrn]
        rw [e]
        rw [e] at this
        exact this
      · have hst : decode (z_b m) pc = .ok (.invokespecial ix, 3) := by
          rcases hdc with ⟨-, h2⟩ | ⟨h1, -⟩ | ⟨-, h2⟩
          · have := h2 2 hkd; omega
          · exact h1
          · have := h2 2 hkd; omega
        have hnw : va_Nw (.methodLinkNest (z_R (z_o m)) ix (z_y (z_ms j)) "DitchSaint") s := hXt.1 _ w1
        refine va_runIN (host := "DitchSaint") (bytes := z_b (z_ms j)) (maxL := z_x (z_ms j)) (b := B.2.2 + a) (As := ((st.take (z_n (z_ms j))).reverse).map (z_cv B)) ⟨hx, hb, hml, hown, hts⟩ hMet ⟨?_, hin, hts _ w2⟩ ⟨hblind, fun U hU hW => ⟨rfl, hpre U hU hW⟩⟩ rfl htake hL.2.1 hstk2 hroom hst ⟨hcell, hslot⟩
        have := va_cnB (R := R) (s := s) (args := args) (own := z_R (z_o m)) (host := "DitchSaint") (index := ix) (y := z_y (z_ms j)) (bytes := z_b (z_ms j)) (maxL := z_x (z_ms j)) (ret := z_r (z_ms j)) (rm := z_rm d mc ms) (mc := mc) (ms := ms) (z_n (z_ms j)) hts hG rfl rfl rfl hnw (hts _ winit) ⟨hnm1, hnm2, hdesc⟩ hR
        have e : z_code (z_ms j) = Cond.code (z_y (z_ms j)) (z_b (z_ms j)) (z_x (z_ms j)) none := by rw [← hrn]
        rw [e]
        rw [e, hrn] at this
        exact this
      · exact absurd g hk3
  obtain ⟨kd, ix, hiv, hi⟩ := z_ins_call hz
  refine main kd ix hiv ?_
  rcases hi with ⟨rfl, g⟩ | ⟨rfl, g⟩ | ⟨rfl, g⟩
  · obtain rfl := z_l1 hl; exact Or.inl ⟨hd, g⟩
  · obtain rfl := z_l1 hl; exact Or.inr (Or.inl ⟨hd, g⟩)
  · obtain rfl := z_l1 hl; exact Or.inr (Or.inr ⟨hd, g⟩)
/-- WHAT A RUN OF THE SMALL MACHINE SAYS OF THE MACHINE -/
theorem z_sound (l : Launch) (hStr : z_Str l) : ∀ (n : Nat) (X : z_S) (d : Nat) (m : z_M) (pc : Nat) (ls : z_L) (st : List Value) (h : z_H) (r : Option Value) (h1 : z_H), z_ev n X d m pc ls st h = some (r, h1) →
    ∀ (B : Nat × Nat × Nat) (D : va_G) (ca : FieldType → ClassId) (sv k0 s0 : Nat) (p : Program) (e : Env) (R : Room) (s : State) (m' : MethodId) (args : Array Value) (below : List Frame) (meth : Method) (c : Code) (Q : State → Prop), z_Ctx X B D ca sv m k0 p R s m' args meth c → d + 8 ≤ R.frames → 64 * d + 200 ≤ R.locals → k0 ≤ h.length → s0 ≤ z_sl h → h1.length - k0 ≤ R.cells → z_sl h1 - s0 ≤ R.slots →
      (∀ (pc1 : Nat) (ls1 : z_L) (st1 : List Value), z_step X m pc1 ls1 st1 h1 = some (.inl (r, h1)) → z_OK B D ca m k0 s0 p l e R s m' args below meth c Q pc1 ls1 st1 h1) → z_OK B D ca m k0 s0 p l e R s m' args below meth c Q pc ls st h := by
  intro n
  induction n with
  | zero => intro X d m pc ls st h r h1 hr; cases hr
  | succ n ih =>
    intro X d m pc ls st h r h1 hr B D ca sv k0 s0 p e R s m' args below meth c Q C hfr hlo hk0 hs0 hr1 hr2 hR
    have hr0 := hr
    rw [z_ev] at hr
    cases hs : z_step X m pc ls st h with
    | none => rw [hs] at hr; cases hr
    | some a =>
      rw [hs] at hr
      rcases a with a | a | a
      · cases hr
        have he : h1 = h := by
          have hs2 := hs
          unfold z_step at hs2
          split at hs2
          · split at hs2
            · exact z_ins_ret hs2
            · cases hs2
          · cases hs2
        subst he
        exact hR pc ls st hs
      · dsimp only at hr
        have hg := z_ev_grow _ _ _ _ _ _ _ _ _ _ hr
        unfold z_step at hs
        split at hs
        · rename_i i len hd
          split at hs
          · rename_i hl
            have hg1 := z_ins_grow hs
            exact z_go_sound hStr C hk0 hs0 (by omega) (by omega) hd hl hs (ih _ _ _ _ _ _ _ _ _ hr B D ca sv k0 s0 p e R s m' args below meth c Q C hfr hlo (by omega) (by omega) hr1 hr2 hR)
          · cases hs
        · cases hs
      · cases d with
        | zero => cases hr
        | succ d =>
          dsimp only at hr
          obtain ⟨j, as, rest⟩ := a
          cases hc : z_ev n none d (z_ms j) 0 (z_ent (z_ms j) as) [] h with
          | none => rw [hc] at hr; cases hr
          | some q =>
            obtain ⟨v, h2⟩ := q
            rw [hc] at hr
            dsimp only at hr
            have hg1 := z_ev_grow _ _ _ _ _ _ _ _ _ _ hc
            have hg2 := z_ev_grow _ _ _ _ _ _ _ _ _ _ hr
            have hs2 := hs
            unfold z_step at hs2
            split at hs2
            · rename_i i len hd
              split at hs2
              · rename_i hl
                have hMet : z_ms j ∈ z_all → (as.map fun v => v.category).sum ≤ z_x (z_ms j) → Met l (z_y (z_ms j)) (z_code (z_ms j) :: z_T) (z_rm d (h2.length - h.length) (z_sl h2 - z_sl h)) (va_Pc (as.map (z_cv B)) (z_Pre B D ca sv h)) (z_Q B D ca v h2) (h2.length - h.length) (z_sl h2 - z_sl h) (fun q => B.2.2 ≤ q) := by
                  intro hmem hent
                  obtain ⟨wcode, winit, hplain, hnm1, hnm2, hdesc, hown2, hx40⟩ := z_ms_ok hmem
                  refine Met.ofW (cc := z_b (z_ms j)) (maxL := z_x (z_ms j)) (ret := z_r (z_ms j)) hplain rfl ?_
                  intro p1 e1 s1 m1 args1 below1 meth1 c1 s2 BD hml hv
                  obtain ⟨rfl, hsz, hP, hK, hX⟩ := hv
                  have hts := atoms_spec (ws := z_code (z_ms j) :: z_T) BD.pre
                  have hC : z_Ctx none B D ca sv (z_ms j) h.length p1 (headSpec (z_code (z_ms j) :: z_T) (z_rm d (h2.length - h.length) (z_sl h2 - z_sl h))).room s1 m1 (as.map (z_cv B)).toArray meth1 c1 := by
                    refine ⟨BD.exec, BD.bytes, hml, BD.returns, BD.notSynchronized, fun hn => (name_of_methodNamed BD.named BD.method).1.trans hn, ?_, fun w hw => hts w (List.mem_cons_of_mem _ hw), hK, hX, hsz, (fun q hq => by cases hq), ?_, ?_⟩
                    · rw [hown2]; exact findClass_of_methodNamed BD.named
                    · show 8 ≤ d + 8; omega
                    · show 200 ≤ 64 * d + 200; omega
                  have key := ih _ _ _ _ _ _ _ _ _ hc B D ca sv h.length (z_sl h) p1 e1 _ s1 m1 _ below1 meth1 c1 _ hC (Nat.le_refl _) (Nat.le_refl _) (Nat.le_refl _) (Nat.le_refl _) (Nat.le_refl _) (Nat.le_refl _) (fun pc1 ls1 st1 hst => z_ret_sound (below := below1) (s0 := z_sl h) hC hst) s1.heap [] _ hP va_S.rf (z_ent_ok B (z_ms j) as hent)
                  rw [lg_entry_eq]
                  rw [Nat.sub_self, Nat.sub_self] at key
                  exact key
                intro H locs arr hP hS hL
                have hsA : s.heap.size = B.2.2 + k0 := by
                  obtain ⟨-, -, -, -, -, -, -, -, -, -, hs, -⟩ := C
                  exact hs
                refine z_size (N := B.2.2 + h.length) (by omega) (z_least hsA hk0 hP hS) fun hsz => ?_
                refine z_callC (z_call_run (d := d) C (by omega) (by omega) hk0 (by omega) (by omega) hsz hd hl hs2 hP hS hL hMet) hS fun H1 locs1 hP1 hS1 => ?_
                have key := ih _ _ _ _ _ _ _ _ _ hr B D ca sv k0 s0 p e R s m' args below meth c Q C hfr hlo (by omega) (by omega) hr1 hr2 hR H1 locs1 arr hP1 hS1 hL
                have e1 : h2.length - k0 = h.length - k0 + (h2.length - h.length) := by omega
                have e2 : z_sl h2 - s0 = z_sl h - s0 + (z_sl h2 - z_sl h) := by omega
                rw [e1, e2, List.map_append] at key
                have e3 : (v.toList).map (z_cv B) = (v.map (z_cv B)).toList := by cases v <;> rfl
                rw [e3] at key
                exact key
              · cases hs2
            · cases hs2
end ZR
