/-! ===== THE CLAIM OUT OF ONE PURE STATEMENT ===== -/
theorem z_ins_ireturn {X : z_S} {m : z_M} {pc : Nat} {ls : z_L} {st : List Value} {h h1 : z_H} {i : Instr} {v : Int32} (hz : z_ins X m pc i ls st h = some (.inl (some (.int v), h1))) : i = .ireturn ∧ st = [.int v] := by
  cases i
  case ireturn =>
    simp only [z_ins] at hz
    split at hz
    · split at hz
      · split at hz <;> cases hz
        exact ⟨rfl, rfl⟩
      · cases hz
    · cases hz
  case lreturn =>
    simp only [z_ins] at hz
    split at hz
    · split at hz <;> cases hz
    · cases hz
  case return_ =>
    simp only [z_ins] at hz
    split at hz
    · split at hz <;> cases hz
    · cases hz
  case iload_n => exact (n_z_ldI hz).elim
  case iload => exact (n_z_ldI hz).elim
  case lload_n => exact (n_z_ldL hz).elim
  case lload => exact (n_z_ldL hz).elim
  case aload_n => exact (n_z_ldA hz).elim
  case aload => exact (n_z_ldA hz).elim
  case istore_n => exact (n_z_stI hz).elim
  case istore => exact (n_z_stI hz).elim
  case lstore_n => exact (n_z_stL hz).elim
  case lstore => exact (n_z_stL hz).elim
  case astore_n => exact (n_z_stA hz).elim
  case astore => exact (n_z_stA hz).elim
  case iadd => exact (n_z_bi hz).elim
  case isub => exact (n_z_bi hz).elim
  case imul => exact (n_z_bi hz).elim
  case iand => exact (n_z_bi hz).elim
  case ior => exact (n_z_bi hz).elim
  case ixor => exact (n_z_bi hz).elim
  case ishl => exact (n_z_bi hz).elim
  case ishr => exact (n_z_bi hz).elim
  case iushr => exact (n_z_bi hz).elim
  case idiv => exact (n_z_bi0 hz).elim
  case irem => exact (n_z_bi0 hz).elim
  case ladd => exact (n_z_bl hz).elim
  case lsub => exact (n_z_bl hz).elim
  case lmul => exact (n_z_bl hz).elim
  case land => exact (n_z_bl hz).elim
  case lor => exact (n_z_bl hz).elim
  case ldiv => exact (n_z_bl0 hz).elim
  case lrem => exact (n_z_bl0 hz).elim
  case ifCond => exact (n_z_c1 hz).elim
  case if_icmp => exact (n_z_c2 hz).elim
  case goto => exact (n_z_jmp hz).elim
  case tableswitch => exact (n_z_tsw hz).elim
  case lookupswitch => exact (n_z_lsw hz).elim
  case getfield => exact (n_z_gf hz).elim
  case putfield => exact (n_z_pf hz).elim
  case new => exact (n_z_new hz).elim
  case newarray => exact (n_z_na hz).elim
  case anewarray => exact (n_z_aw hz).elim
  case iaload => exact (n_z_ia hz).elim
  case baload => exact (n_z_ba hz).elim
  case laload => exact (n_z_la hz).elim
  case aaload => exact (n_z_aa hz).elim
  case iastore => exact (n_z_is hz).elim
  case bastore => exact (n_z_bs hz).elim
  case lastore => exact (n_z_ls hz).elim
  case aastore => exact (n_z_as hz).elim
  case arraylength => exact (n_z_al hz).elim
  case invokevirtual => exact (n_z_ivk hz).elim
  case invokespecial => exact (n_z_ivk hz).elim
  case invokestatic => exact (n_z_ivk hz).elim
  all_goals exfalso
  all_goals first
    | cases hz; done
    | (simp only [z_ins] at hz; split at hz <;> first | cases hz | exact n_z_go _ _ _ _ hz | (split at hz <;> first | cases hz | exact n_z_go _ _ _ _ hz))
theorem z_inst : ∀ (ci : Nat) (q : vw_C), z_cl[ci]? = some q → Cond.instantiable q.1 q.2.2 ∈ z_T
  | 0, q, h => by obtain ⟨q2, h2, -, h3, -⟩ := z_nw_ok (o := 3) (ix := 29) (ci := 0) rfl; cases h.symm.trans h2; exact h3
  | 1, q, h => by obtain ⟨q2, h2, -, h3, -⟩ := z_nw_ok (o := 3) (ix := 22) (ci := 1) rfl; cases h.symm.trans h2; exact h3
  | 2, q, h => by obtain ⟨q2, h2, -, h3, -⟩ := z_nw_ok (o := 11) (ix := 66) (ci := 2) rfl; cases h.symm.trans h2; exact h3
  | 3, q, h => by obtain ⟨q2, h2, -, h3, -⟩ := z_nw_ok (o := 11) (ix := 23) (ci := 3) rfl; cases h.symm.trans h2; exact h3
  | 4, q, h => by obtain ⟨q2, h2, -, h3, -⟩ := z_nw_ok (o := 11) (ix := 33) (ci := 4) rfl; cases h.symm.trans h2; exact h3
  | 5, q, h => by obtain ⟨q2, h2, -, h3, -⟩ := z_nw_ok (o := 11) (ix := 59) (ci := 5) rfl; cases h.symm.trans h2; exact h3
  | 6, q, h => by obtain ⟨q2, h2, -, h3, -⟩ := z_nw_ok (o := 3) (ix := 15) (ci := 6) rfl; cases h.symm.trans h2; exact h3
  | 7, q, h => by obtain ⟨q2, h2, -, h3, -⟩ := z_nw_ok (o := 11) (ix := 16) (ci := 7) rfl; cases h.symm.trans h2; exact h3
  | 8, q, h => by obtain ⟨q2, h2, -, h3, -⟩ := z_nw_ok (o := 11) (ix := 7) (ci := 8) rfl; cases h.symm.trans h2; exact h3
  | 9, q, h => by obtain ⟨q2, h2, -, h3, -⟩ := z_nw_ok (o := 3) (ix := 36) (ci := 9) rfl; cases h.symm.trans h2; exact h3
  | 10, q, h => by obtain ⟨q2, h2, -, h3, -⟩ := z_nw_ok (o := 11) (ix := 42) (ci := 10) rfl; cases h.symm.trans h2; exact h3
  | 11, q, h => by obtain ⟨q2, h2, -, h3, -⟩ := z_nw_ok (o := 13) (ix := 7) (ci := 11) rfl; cases h.symm.trans h2; exact h3
  | 12, q, h => by obtain ⟨q2, h2, -, h3, -⟩ := z_nw_ok (o := 13) (ix := 10) (ci := 12) rfl; cases h.symm.trans h2; exact h3
  | _ + 13, q, h => by simp [z_cl] at h
theorem z_sr_mem : Cond.stringRef "DitchSaint$Tokens" 62 "odds toll war lies chest right worth in debt sum left ask clause not witness east west here away late month carry swear pay any when owes loop end stop " ∈ lw_tbl := z_at_mem (p := 2142) (by decide +kernel)
theorem z_cs_mem : Cond.laysStatic "java/lang/String" "COMPACT_STRINGS" "Z" ∈ lw_tbl := z_at_mem (p := 2152) (by decide +kernel)
theorem z_sf_mem : Cond.laysStatic "jdk/internal/util/Preconditions" "SIOOBE_FORMATTER" "Ljava/util/function/BiFunction;" ∈ lw_tbl := z_at_mem (p := 2168) (by decide +kernel)
theorem z_pr_mem : Cond.initialized "jdk/internal/util/Preconditions" ∈ lw_tbl := z_at_mem (p := 17) (by decide +kernel)
abbrev z_tm : Term := .string "DitchSaint$Tokens" 62
abbrev z_nf : List Cond := flatC (Jvm.Cond.and given_1 narrow_1)
theorem z_nf1 : Cond.exactly z_tm "java/lang/String" ∈ z_nf := by decide +kernel
theorem z_nf2 : Cond.eq (.field z_tm "java/lang/String" "coder" "B") (.int 0) ∈ z_nf := by decide +kernel
theorem z_nf3 : Cond.arrayOf (.field z_tm "java/lang/String" "value" "[B") .byte ∈ z_nf := by decide +kernel
theorem z_nf4 : Cond.eq (.length (.field z_tm "java/lang/String" "value" "[B")) (.int (Int32.ofNat 152)) ∈ z_nf := by decide +kernel
def z_el5 (j : Nat) : Cond := Cond.eq (.elem (.field z_tm "java/lang/String" "value" "[B") (.int (Int32.ofNat j))) (.int (z_txt.getD j 0))
theorem z_nf5_0 : ∀ j, j < 19 → z_get z_nf (13 + (0 + j)) = some (z_el5 (0 + j)) := by decide +kernel
theorem z_nf5_1 : ∀ j, j < 19 → z_get z_nf (13 + (19 + j)) = some (z_el5 (19 + j)) := by decide +kernel
theorem z_nf5_2 : ∀ j, j < 19 → z_get z_nf (13 + (38 + j)) = some (z_el5 (38 + j)) := by decide +kernel
theorem z_nf5_3 : ∀ j, j < 19 → z_get z_nf (13 + (57 + j)) = some (z_el5 (57 + j)) := by decide +kernel
theorem z_nf5_4 : ∀ j, j < 19 → z_get z_nf (13 + (76 + j)) = some (z_el5 (76 + j)) := by decide +kernel
theorem z_nf5_5 : ∀ j, j < 19 → z_get z_nf (13 + (95 + j)) = some (z_el5 (95 + j)) := by decide +kernel
theorem z_nf5_6 : ∀ j, j < 19 → z_get z_nf (13 + (114 + j)) = some (z_el5 (114 + j)) := by decide +kernel
theorem z_nf5_7 : ∀ j, j < 19 → z_get z_nf (13 + (133 + j)) = some (z_el5 (133 + j)) := by decide +kernel
theorem z_nf5 (j : Nat) (h : j < 152) : Cond.eq (.elem (.field z_tm "java/lang/String" "value" "[B") (.int (Int32.ofNat j))) (.int (z_txt.getD j 0)) ∈ z_nf := by
  have key : z_get z_nf (13 + j) = some (z_el5 j) := by
    rcases Nat.lt_or_ge j 19 with g | g
    · have := z_nf5_0 (j - 0) (by omega)
      rwa [show 0 + (j - 0) = j by omega] at this
    rcases Nat.lt_or_ge j 38 with g | g
    · have := z_nf5_1 (j - 19) (by omega)
      rwa [show 19 + (j - 19) = j by omega] at this
    rcases Nat.lt_or_ge j 57 with g | g
    · have := z_nf5_2 (j - 38) (by omega)
      rwa [show 38 + (j - 38) = j by omega] at this
    rcases Nat.lt_or_ge j 76 with g | g
    · have := z_nf5_3 (j - 57) (by omega)
      rwa [show 57 + (j - 57) = j by omega] at this
    rcases Nat.lt_or_ge j 95 with g | g
    · have := z_nf5_4 (j - 76) (by omega)
      rwa [show 76 + (j - 76) = j by omega] at this
    rcases Nat.lt_or_ge j 114 with g | g
    · have := z_nf5_5 (j - 95) (by omega)
      rwa [show 95 + (j - 95) = j by omega] at this
    rcases Nat.lt_or_ge j 133 with g | g
    · have := z_nf5_6 (j - 114) (by omega)
      rwa [show 114 + (j - 114) = j by omega] at this
    rcases Nat.lt_or_ge j 152 with g | g
    · have := z_nf5_7 (j - 133) (by omega)
      rwa [show 133 + (j - 133) = j by omega] at this
    omega
  exact z_get_mem _ _ key
theorem z_nf6 : Cond.eq (.static "java/lang/String" "COMPACT_STRINGS" "Z") (.int 1) ∈ z_nf := by decide +kernel
theorem z_nf7 : Cond.isRef (.static "jdk/internal/util/Preconditions" "SIOOBE_FORMATTER" "Ljava/util/function/BiFunction;") ∈ z_nf := by decide +kernel
/-- what is known at the start, beside the words that stay -/
theorem z_X_start {b : Nat} {s : State} (hts : ∀ w ∈ lw_tbl, w.before #[Value.ref b] s = true) (hgv : (Jvm.Cond.and given_1 narrow_1).before #[Value.ref b] s = true) : ∃ sa sv : Nat, z_X (b, sa, s.heap.size) sv s s.heap := by
  have hf := flat_of_before _ hgv
  have hA : ∀ a : Nat, a < s.heap.size → ¬ (fun q => s.heap.size ≤ q) a := fun a h => Nat.not_le.mpr h
  obtain ⟨adK, adV, hS, hev⟩ := vk_Sof (args := #[Value.ref b]) (s := s) (N := 1) (tm := fun _ => z_tm) (len := [152]) (byt := [z_txt]) (A := fun q => s.heap.size ≤ q)
    (fun i hi => by obtain rfl : i = 0 := by omega
                    exact Nat.le_of_ble_eq_true rfl)
    (fun i _ => hf _ z_nf1) (fun i _ => hf _ z_nf2) (fun i _ => hf _ z_nf3)
    (fun i hi => by obtain rfl : i = 0 := by omega
                    exact hf _ z_nf4)
    (fun i hi j hj => by obtain rfl : i = 0 := by omega
                         exact hf _ (z_nf5 j hj))
    (fun i j hi hj hne => absurd (show i = j by omega) hne) hA
  refine ⟨adK 0, adV 0, fun w hw => va_Nw.of (z_nest_tables w hw) (hts w (z_nest_mem w hw)), va_AO.of (hts _ z_over), vk_R.of (hts _ z_sr_mem) (hev 0 (by omega)), ⟨fun i hi => ?_, fun i j hi hj _ => by omega⟩, va_Zof (hts _ z_cs_mem) (hts _ z_str_in) (va_eqt (hf _ z_nf6)) hA, va_Zqof (hts _ z_sf_mem) (hts _ z_pr_mem) (hf _ z_nf7) hA⟩
  obtain rfl : i = 0 := by omega
  exact hS.1 0 (by omega)
theorem z_K_start {args : Array Value} {s : State} (hts : ∀ w ∈ lw_tbl, w.before args s = true) : ∃ (D : va_G) (ca : FieldType → ClassId), va_K D z_cl (z_tl ca) s := by
  have h : ∀ ci : Nat, ∃ d : ClassId × (Nat → Nat), ∀ q : vw_C, z_cl[ci]? = some q → u_Kn s q.1 q.2.1 q.2.2 d.1 d.2 := by
    intro ci
    cases hq : z_cl[ci]? with
    | none => exact ⟨(0, fun _ => 0), fun q h => by cases h⟩
    | some q =>
      obtain ⟨c0, i0, h0⟩ := u_known (C := q.1) (T := q.2.1) (N := q.2.2) (n := q.2.2) (ws := z_T) (fun w hw => hts w (z_T_tbl hw)) (z_cls_ok hq).1 (hts _ (z_T_tbl (z_inst ci q hq)))
      exact ⟨(c0, i0), fun q' h' => by cases h'; exact h0⟩
  obtain ⟨f, hf⟩ := Classical.axiomOfChoice h
  obtain ⟨cI, kI, pI, i1, i2, i3⟩ := Cond.arrayClass_spec (hts _ z_arr_int)
  obtain ⟨cL, kL, pL, l1, l2, l3⟩ := Cond.arrayClass_spec (hts _ z_arr_long)
  obtain ⟨cB, kB, pB, b1, b2, b3⟩ := Cond.arrayClass_spec (hts _ z_arr_byte)
  obtain ⟨comp, cP, kP, q1, q2, q3, q4, q5⟩ := Cond.arrayOver_spec (hts _ z_over)
  refine ⟨(fun k => (f k).1, fun k => (f k).2), fun ty => match ty with | .int => cI | .long => cL | .byte => cB | _ => cP, fun ci q hq => hf ci q hq, fun k q hk => ?_⟩
  match k, hk with
  | 0, hk => cases hk; exact ⟨fun n z => ⟨fun k h => (by cases h), kI, i2, pI, i3⟩, i1⟩
  | 1, hk => cases hk; exact ⟨fun n z => ⟨fun k h => (by cases h), kL, l2, pL, l3⟩, l1⟩
  | 2, hk => cases hk; exact ⟨fun n z => ⟨fun k h => (by cases h), kB, b2, pB, b3⟩, b1⟩
  | 3, hk => cases hk; exact ⟨fun n z => ⟨fun k h => (by cases h), kP, q3, comp, q4⟩, ⟨kP, comp, q3, q4, q1, q5⟩⟩
  | k + 4, hk => simp [z_tl] at hk
/-- the pure statement -/
def z_Pure : Prop := ∀ (L : Nat) (xs : Nat → Int32), L ≤ 3072 → ∃ (n : Nat) (h1 : z_H), z_ev n (some (L, xs)) 60 mL_law 0 (z_ent mL_law [.ref 0]) [] [] = some (some (.int 1), h1) ∧ h1.length ≤ 600000 ∧ z_sl h1 ≤ 7302249
/-! THE CLAIM OUT OF ONE WALK OF THE LAW'S BODY. Your part is whole_start (and what it stands on); all else here is the same for every law, but numbers. -/
def R_law : String := "DitchSaintLaw"
def lw_P (b : Addr) (xs : List Int32) (args : Array Value) (s : State) : Prop := args = #[.ref b] ∧ s.IntsAt b xs ∧ xs.length ≤ 3072 ∧ (Jvm.Cond.and given_1 narrow_1).before args s = true
def lw_Q (_ : Array Value) (s : State) (o : Outcome) (t : State) : Prop := o = .returned (some (.int 1)) ∧ Framed s o t [] 600000 7302249
def lw_Z (below : List Frame) (a : Array Value) (s : State) : State → Prop := fun t => ∃ o, t.status = .running ∧ Ended t below o ∧ lw_Q a s o t
/-- the law's own end, with 1 on the stack, nothing written that was there before, its room as the claim has it -/
theorem lw_ret {p : Program} {l : Launch} {e : Env} {s : State} {m : MethodId} {below : List Frame} {meth : Method} {c : Code} {b : Nat} (hx : p.tables.exec = Jvm.exec) (hb : c.code = code) (hr : meth.sig.returnType = ret) (hlocks : meth.locks = false) {pc : Nat} {H : Heap} {ls : Array Slot} (hdg : decode code pc = .ok (.ireturn, 1)) : W p l e room_1 s m #[Value.ref b] below meth c H [] 600000 7302249 (lw_Z below #[Value.ref b] s) (F0 m pc ls [.int 1]) := by
  intro T hT X
  obtain ⟨fs, hret, hrun, hended, hW, hframe⟩ := X.leave (v := some (.int 1)) (hlocks := hlocks) (fun h => by rw [hr] at h; cases h)
  have hmeth' : T.vm.method? m = some meth := X.method'
  refine ⟨T.setFrames fs, ?_, .returned (some (.int 1)), hrun, hended, rfl, ⟨_, rfl⟩, hW, hframe⟩
  jvm_step X.here [X.here.top, hx, hb, hdg, hmeth', hr, ret, narrow_b1]
  (try refine ⟨rfl, ?_⟩); (try refine ⟨rfl, ?_⟩)
  first | (intro acts; rw [hret _ acts rfl rfl rfl]) | rw [hret _ _ rfl rfl rfl]
  exact Steps.refl _
/-- what holds at the law's entry: the machine, the code, the tables' words (any of lw_tbl by 'hts w (by decide +kernel)'), the script of L ints xs at the cell b, what the Statement gives of the start (any of its parts by flat_of_before) -/
def lw_At (p : Program) (s : State) (m : MethodId) (meth : Method) (c : Code) (b L : Nat) (xs : Nat → Int32) : Prop :=
  p.tables.exec = Jvm.exec ∧ c.code = code ∧ meth.sig.returnType = ret ∧ c.maxLocals = 4 ∧ s.vm.findClass R_law = some m.cls ∧ (∀ w ∈ lw_tbl, w.before #[Value.ref b] s = true) ∧ va_X b L xs s s.heap ∧ b < s.heap.size ∧ meth.locks = false ∧ (Jvm.Cond.and given_1 narrow_1).before #[Value.ref b] s = true
theorem z_whole (l : Launch) (hStr : z_Str l) (hpure : z_Pure) {p : Program} {e : Env} {s : State} {m : MethodId} {below : List Frame} {meth : Method} {c : Code} {b L : Nat} {xs : Nat → Int32} (hL : L ≤ 3072) (C0 : lw_At p s m meth c b L xs) : W p l e room_1 s m #[Value.ref b] below meth c s.heap [] 0 0 (lw_Z below #[Value.ref b] s) (entryFrame m ([Value.ref b] : List Value).toArray 4) := by
  obtain ⟨hx, hb, hr, hml, hown, hts, hX, hbl, hlocks, hgv⟩ := id C0
  obtain ⟨sa, sv, hXs⟩ := z_X_start hts hgv
  obtain ⟨D, ca, hK⟩ := z_K_start hts
  obtain ⟨n, h1, hev, hl1, hl2⟩ := hpure L xs hL
  have C : z_Ctx (some (L, xs)) (b, sa, s.heap.size) D ca sv mL_law 0 p room_1 s m #[Value.ref b] meth c :=
    ⟨hx, hb, hml, hr, hlocks, fun h => absurd h (by decide +kernel), hown, fun w hw => hts w (z_T_tbl hw), hK, hXs, rfl, fun q hq => by cases hq; exact ⟨hX, hbl⟩, Nat.le_of_ble_eq_true rfl, Nat.le_of_ble_eq_true rfl⟩
  have key := z_sound l hStr n (some (L, xs)) 60 mL_law 0 (z_ent mL_law [.ref 0]) [] [] (some (.int 1)) h1 hev (b, sa, s.heap.size) D ca sv 0 0 p e room_1 s m #[Value.ref b] below meth c (lw_Z below #[Value.ref b] s) C (Nat.le_of_ble_eq_true rfl) (Nat.le_of_ble_eq_true rfl) (Nat.le_refl _) (Nat.zero_le _) (by show _ ≤ 600000; omega) (by show _ ≤ 7302249; omega)
    (fun pc1 ls1 st1 hst => by
      unfold z_step at hst
      split at hst
      · rename_i i len hd
        split at hst
        · rename_i hl
          obtain ⟨rfl, rfl⟩ := z_ins_ireturn hst
          obtain rfl := z_l1 hl
          intro H locs arr hP hS hLs
          refine va_forget (fun q hq => hS.2.2 q hq) ?_
          refine W.widen (k := 600000) (n := 7302249) (by omega) (by omega) ?_
          exact lw_ret hx hb hr hlocks hd
        · cases hst
      · cases hst)
    s.heap [] _ (fun k q h => by simp [z_ws] at h) va_S.rf (z_ent_ok (b, sa, s.heap.size) mL_law [.ref 0] (by decide +kernel))
  rw [lg_entry_eq]
  exact key
