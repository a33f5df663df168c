/-! ===== the beginning: the constructors' run ===== -/
section ZI
variable {X : z_S} {m : z_M} {pc : Nat} {ls : z_L} {st : List Value} {h : z_H} {q : Nat × z_L × List Value × z_H}
/-- a row of references holds nothing beyond its length -/
def z_rc (c : z_C) : Prop := match c with
  | .inl (_, n, .inr (.inr f)) => ∀ j, n ≤ j → f j = none
  | _ => True
def z_rn (h : z_H) : Prop := ∀ c ∈ h, z_rc c
theorem z_rn_set {k : Nat} {c : z_C} (hr : z_rn h) (hc : z_rc c) : z_rn (h.set k c) := fun x hx => by
  rcases List.mem_or_eq_of_mem_set hx with g | g
  · exact hr x g
  · rw [g]; exact hc
theorem z_rn_push {c : z_C} (hr : z_rn h) (hc : z_rc c) : z_rn (h ++ [c]) := fun x hx => by
  rcases List.mem_append.mp hx with g | g
  · exact hr x g
  · rw [List.mem_singleton.mp g]; exact hc
theorem z_r_pf {ix : Nat} (hr : z_rn h) (hz : z_pf m pc ix ls st h = some (.inr (.inl q))) : z_rn q.2.2.2 := by
  obtain ⟨a, r, ci, k, pl, fs, v, rfl, hf, hh, hkl, hn, hfit, hfin, rfl⟩ := z_pf_inv hz
  exact z_rn_set hr trivial
theorem z_r_new {o ix : Nat} (hr : z_rn h) (hz : z_new o pc ix ls st h = some (.inr (.inl q))) : z_rn q.2.2.2 := by
  unfold z_new z_go at hz
  split at hz
  · split at hz
    · cases hz; exact z_rn_push hr trivial
    · cases hz
  · cases hz
theorem z_r_na {t : ArrayType} (hr : z_rn h) (hz : z_na t pc ls st h = some (.inr (.inl q))) : z_rn q.2.2.2 := by
  unfold z_na z_go at hz
  split at hz
  · split at hz
    · cases hz
    · split at hz <;> first | (cases hz; exact z_rn_push hr trivial) | cases hz
  · cases hz
theorem z_r_aw {o ix : Nat} (hr : z_rn h) (hz : z_aw o pc ix ls st h = some (.inr (.inl q))) : z_rn q.2.2.2 := by
  unfold z_aw z_go at hz
  split at hz
  · split at hz
    · cases hz
    · split at hz
      · cases hz; exact z_rn_push hr (fun _ _ => rfl)
      · cases hz
  · cases hz
theorem z_r_is (hr : z_rn h) (hz : z_is pc ls st h = some (.inr (.inl q))) : z_rn q.2.2.2 := by
  unfold z_is z_go at hz
  split at hz
  · split at hz
    · split at hz
      · cases hz
      · cases hz; exact z_rn_set hr trivial
    · cases hz
  · cases hz
theorem z_r_bs (hr : z_rn h) (hz : z_bs pc ls st h = some (.inr (.inl q))) : z_rn q.2.2.2 := by
  unfold z_bs z_go at hz
  split at hz
  · split at hz
    · split at hz
      · cases hz
      · cases hz; exact z_rn_set hr trivial
    · cases hz
  · cases hz
theorem z_r_ls (hr : z_rn h) (hz : z_ls pc ls st h = some (.inr (.inl q))) : z_rn q.2.2.2 := by
  unfold z_ls z_go at hz
  split at hz
  · split at hz
    · split at hz
      · cases hz
      · cases hz; exact z_rn_set hr trivial
    · cases hz
  · cases hz
theorem z_r_as (hr : z_rn h) (hz : z_as pc ls st h = some (.inr (.inl q))) : z_rn q.2.2.2 := by
  unfold z_as z_go at hz
  split at hz
  · split at hz
    · rename_i n f hh
      split at hz
      · split at hz
        · cases hz
        · rename_i hi
          cases hz
          refine z_rn_set hr (fun j hj => ?_)
          have h1 : ¬ n ≤ _ := fun g => hi (Or.inr g)
          have h2 : z_rc (.inl (.object "DitchSaint$Parish", n, .inr (.inr f))) := hr _ (List.mem_of_getElem? hh)
          have h3 : f j = none := h2 j hj
          unfold va_up
          rw [if_neg (by intro g; rw [g] at hj; exact h1 hj)]
          exact h3
      · cases hz
    · cases hz
  · cases hz
theorem z_r_acp (hr : z_rn h) (hz : z_acp pc ls st h = some (.inr (.inl q))) : z_rn q.2.2.2 := by
  unfold z_acp z_go at hz
  split at hz
  · split at hz
    · split at hz
      · cases hz; exact z_rn_set hr trivial
      · cases hz
    · cases hz
  · cases hz
theorem z_r_blt {b : Nat} (hr : z_rn h) (hz : z_blt b pc ls st h = some (.inr (.inl q))) : z_rn q.2.2.2 := by
  unfold z_blt z_go at hz
  split at hz
  · split at hz
    · split at hz
      · cases hz; exact hr
      · cases hz
    · cases hz
  · exact z_r_acp hr hz
  · split at hz
    · split at hz
      · cases hz; exact hr
      · cases hz
    · cases hz
  · split at hz
    · split at hz
      · cases hz; exact hr
      · cases hz
    · cases hz
  · split at hz
    · split at hz
      · cases hz; exact hr
      · cases hz
    · cases hz
  · split at hz
    · split at hz
      · cases hz; exact hr
      · cases hz
    · cases hz
  · split at hz
    · split at hz
      · cases hz; exact hr
      · cases hz
    · cases hz
  · cases hz
theorem z_r_ivk {kd bd : Nat → Bool} {o ix : Nat} (hr : z_rn h) (hz : z_ivk kd bd o pc ix ls st h = some (.inr (.inl q))) : z_rn q.2.2.2 := by
  unfold z_ivk at hz
  split at hz
  · split at hz
    · exact z_r_blt hr hz
    · cases hz
  · exact (z_inv_go hz).elim
theorem z_r_of (hr : z_rn h) (hq : q.2.2.2 = h) : z_rn q.2.2.2 := by rw [hq]; exact hr
theorem z_ins_rn {i : Instr} (hr : z_rn h) (hz : z_ins X m pc i ls st h = some (.inr (.inl q))) : z_rn q.2.2.2 := by
  cases i
  case iconst => cases hz; exact hr
  case bipush => cases hz; exact hr
  case sipush => cases hz; exact hr
  case lconst => cases hz; exact hr
  case iload_n => obtain ⟨x, -, rfl⟩ := z_ldI_inv hz; exact hr
  case iload => obtain ⟨x, -, rfl⟩ := z_ldI_inv hz; exact hr
  case lload_n => obtain ⟨x, -, rfl⟩ := z_ldL_inv hz; exact hr
  case lload => obtain ⟨x, -, rfl⟩ := z_ldL_inv hz; exact hr
  case aload_n => obtain ⟨x, -, rfl⟩ := z_ldA_inv hz; exact hr
  case aload => obtain ⟨x, -, rfl⟩ := z_ldA_inv hz; exact hr
  case istore_n => obtain ⟨x, r, -, -, rfl⟩ := z_stI_inv hz; exact hr
  case istore => obtain ⟨x, r, -, -, rfl⟩ := z_stI_inv hz; exact hr
  case lstore_n => obtain ⟨x, r, -, -, rfl⟩ := z_stL_inv hz; exact hr
  case lstore => obtain ⟨x, r, -, -, rfl⟩ := z_stL_inv hz; exact hr
  case astore_n => obtain ⟨x, r, -, -, rfl⟩ := z_stA_inv hz; exact hr
  case astore => obtain ⟨x, r, -, -, rfl⟩ := z_stA_inv hz; exact hr
  case iinc =>
    simp only [z_ins, z_go] at hz
    split at hz
    · cases hz; exact hr
    · cases hz
  case iadd => obtain ⟨x, y, r, -, rfl⟩ := z_bi_inv hz; exact hr
  case isub => obtain ⟨x, y, r, -, rfl⟩ := z_bi_inv hz; exact hr
  case imul => obtain ⟨x, y, r, -, rfl⟩ := z_bi_inv hz; exact hr
  case iand => obtain ⟨x, y, r, -, rfl⟩ := z_bi_inv hz; exact hr
  case ior => obtain ⟨x, y, r, -, rfl⟩ := z_bi_inv hz; exact hr
  case ixor => obtain ⟨x, y, r, -, rfl⟩ := z_bi_inv hz; exact hr
  case ishl => obtain ⟨x, y, r, -, rfl⟩ := z_bi_inv hz; exact hr
  case ishr => obtain ⟨x, y, r, -, rfl⟩ := z_bi_inv hz; exact hr
  case iushr => obtain ⟨x, y, r, -, rfl⟩ := z_bi_inv hz; exact hr
  case idiv => obtain ⟨x, y, r, -, -, rfl⟩ := z_bi0_inv hz; exact hr
  case irem => obtain ⟨x, y, r, -, -, rfl⟩ := z_bi0_inv hz; exact hr
  case ladd => obtain ⟨x, y, r, -, rfl⟩ := z_bl_inv hz; exact hr
  case lsub => obtain ⟨x, y, r, -, rfl⟩ := z_bl_inv hz; exact hr
  case lmul => obtain ⟨x, y, r, -, rfl⟩ := z_bl_inv hz; exact hr
  case land => obtain ⟨x, y, r, -, rfl⟩ := z_bl_inv hz; exact hr
  case lor => obtain ⟨x, y, r, -, rfl⟩ := z_bl_inv hz; exact hr
  case ldiv => obtain ⟨x, y, r, -, -, rfl⟩ := z_bl0_inv hz; exact hr
  case lrem => obtain ⟨x, y, r, -, -, rfl⟩ := z_bl0_inv hz; exact hr
  case ifCond => exact z_r_of hr (z_g_c1 hz)
  case if_icmp => exact z_r_of hr (z_g_c2 hz)
  case goto => obtain ⟨t, -, rfl⟩ := z_jmp_inv hz; exact hr
  case tableswitch => exact z_r_of hr (z_g_tsw hz)
  case lookupswitch => exact z_r_of hr (z_g_lsw hz)
  case getfield => obtain ⟨a, r, ci, k, pl, fs, v, -, -, -, -, rfl⟩ := z_gf_inv hz; exact hr
  case putfield => exact z_r_pf hr hz
  case new => exact z_r_new hr hz
  case newarray => exact z_r_na hr hz
  case anewarray => exact z_r_aw hr hz
  case iaload => exact z_r_of hr (z_g_ia hz)
  case baload => exact z_r_of hr (z_g_ba hz)
  case laload => exact z_r_of hr (z_g_la hz)
  case aaload => exact z_r_of hr (z_g_aa hz)
  case iastore => exact z_r_is hr hz
  case bastore => exact z_r_bs hr hz
  case lastore => exact z_r_ls hr hz
  case aastore => exact z_r_as hr hz
  case arraylength => exact z_r_of hr (z_g_al hz)
  case invokevirtual => exact z_r_ivk hr hz
  case invokespecial => exact z_r_ivk hr hz
  case invokestatic => exact z_r_ivk hr hz
  case ldc =>
    simp only [z_ins, z_go] at hz
    split at hz
    · cases hz; exact hr
    · split at hz
      · cases hz; exact hr
      · cases hz
  case ireturn =>
    simp only [z_ins] at hz
    split at hz
    · split at hz
      · split at hz <;> cases hz
      · cases hz
    · cases hz
  all_goals first
    | cases hz; done
    | (simp only [z_ins, z_go] at hz; split at hz <;> first | (cases hz; exact hr) | cases hz | (split at hz <;> first | (cases hz; exact hr) | cases hz))
theorem z_ev_rn : ∀ (n : Nat) (X : z_S) (d : Nat) (m : z_M) (pc : Nat) (ls : z_L) (st : List Value) (h : z_H) (r : Option Value) (h1 : z_H), z_rn h → z_ev n X d m pc ls st h = some (r, h1) → z_rn h1 := by
  intro n
  induction n with
  | zero => intro X d m pc ls st h r h1 _ hr; cases hr
  | succ n ih =>
    intro X d m pc ls st h r h1 hn hr
    rw [z_ev] at hr
    cases hs : z_step X m pc ls st h with
    | none => rw [hs] at hr; cases hr
    | some a =>
      rw [hs] at hr
      rcases a with a | a | a
      · cases hr
        unfold z_step at hs
        split at hs
        · split at hs
          · rw [z_ins_ret hs]; exact hn
          · cases hs
        · cases hs
      · unfold z_step at hs
        split at hs
        · split at hs
          · exact ih _ _ _ _ _ _ _ _ _ (z_ins_rn hn hs) hr
          · cases hs
        · cases hs
      · cases d with
        | zero => cases hr
        | succ d =>
          dsimp only at hr
          cases hc : z_ev n none d (z_ms a.1) 0 (z_ent (z_ms a.1) a.2.1) [] h with
          | none => rw [hc] at hr; cases hr
          | some q =>
            rw [hc] at hr
            exact ih _ _ _ _ _ _ _ _ _ (ih _ _ _ _ _ _ _ _ _ hn hc) hr
theorem z_to_rn {stop : Nat} : ∀ (n : Nat) (X : z_S) (d : Nat) (m : z_M) (pc : Nat) (ls : z_L) (st : List Value) (h : z_H) (q : z_L × z_H), z_rn h → z_to stop n X d m pc ls st h = some q → z_rn q.2 := by
  intro n
  induction n with
  | zero => intro X d m pc ls st h q _ hq; cases hq
  | succ n ih =>
    intro X d m pc ls st h q hn hq
    rw [z_to] at hq
    split at hq
    · cases hq; exact hn
    · cases hs : z_step X m pc ls st h with
      | none => rw [hs] at hq; cases hq
      | some a =>
        rw [hs] at hq
        rcases a with a | a | a
        · cases hq
        · unfold z_step at hs
          split at hs
          · split at hs
            · exact ih _ _ _ _ _ _ _ _ (z_ins_rn hn hs) hq
            · cases hs
          · cases hs
        · cases d with
          | zero => cases hq
          | succ d =>
            dsimp only at hq
            cases hc : z_ev n none d (z_ms a.1) 0 (z_ent (z_ms a.1) a.2.1) [] h with
            | none => rw [hc] at hq; cases hq
            | some q1 =>
              rw [hc] at hq
              exact ih _ _ _ _ _ _ _ _ (z_ev_rn _ _ _ _ _ _ _ _ _ _ hn hc) hq
/-- what goes without a script goes with any -/
theorem z_ins_X {i : Instr} {a : z_A} (X : z_S) (hz : z_ins none m pc i ls st h = some a) : z_ins X m pc i ls st h = some a := by
  cases i
  case iaload =>
    have hz : z_ia none pc ls st h = some a := hz
    show z_ia X pc ls st h = some a
    unfold z_ia at hz ⊢
    split at hz
    · cases hz
    · exact hz
    · cases hz
  case arraylength =>
    have hz : z_al none pc ls st h = some a := hz
    show z_al X pc ls st h = some a
    unfold z_al at hz ⊢
    split at hz
    · cases hz
    · exact hz
    · cases hz
  all_goals exact hz
theorem z_to_X {stop : Nat} (X : z_S) : ∀ (n d : Nat) (m : z_M) (pc : Nat) (ls : z_L) (st : List Value) (h : z_H) (q : z_L × z_H), z_to stop n none d m pc ls st h = some q → z_to stop n X d m pc ls st h = some q := by
  intro n
  induction n with
  | zero => intro d m pc ls st h q hq; cases hq
  | succ n ih =>
    intro d m pc ls st h q hq
    rw [z_to] at hq ⊢
    split
    · rename_i hc
      rw [if_pos hc] at hq
      exact hq
    · rename_i hc
      rw [if_neg hc] at hq
      cases hs : z_step none m pc ls st h with
      | none => rw [hs] at hq; cases hq
      | some a =>
        have hs2 : z_step X m pc ls st h = some a := by
          unfold z_step at hs ⊢
          split at hs
          · rename_i i len hd
            split at hs
            · rename_i hl
              rw [if_pos hl]
              exact z_ins_X X hs
            · cases hs
          · cases hs
        rw [hs] at hq
        rw [hs2]
        rcases a with a | a | a
        · cases hq
        · exact ih _ _ _ _ _ _ _ hq
        · cases d with
          | zero => cases hq
          | succ d =>
            dsimp only at hq ⊢
            cases hc : z_ev n none d (z_ms a.1) 0 (z_ent (z_ms a.1) a.2.1) [] h with
            | none => rw [hc] at hq; cases hq
            | some q1 =>
              rw [hc] at hq
              exact ih _ _ _ _ _ _ _ hq
end ZI
