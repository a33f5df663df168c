/-! ===== ROWS: what the small machine does over memory, goal first. z_G: from here, with depth k at least, the method returns r and leaves M' with Q r M' ===== -/
def z_G (X : z_S) (k : Nat) (m : z_M) (pc : Nat) (ls : z_L) (st : List Value) (M : z_Mem) (Q : Option Value → z_Mem → Prop) : Prop :=
  ∀ d, k ≤ d → ∃ (n : Nat) (r : Option Value) (M' : z_Mem), z_ev n X d m pc ls st (z_heap M) = some (r, z_heap M') ∧ Q r M'
/-- a call of m with these arguments -/
def z_Cl (k : Nat) (m : z_M) (as : List Value) (M : z_Mem) (Q : Option Value → z_Mem → Prop) : Prop := z_G none k m 0 (z_ent m as) [] M Q
theorem z_Cl.le {k k' : Nat} {m : z_M} {as : List Value} {M : z_Mem} {Q : Option Value → z_Mem → Prop} (h : z_Cl k m as M Q) (hk : k ≤ k') : z_Cl k' m as M Q := fun d hd => h d (Nat.le_trans hk hd)
theorem z_G.imp {X : z_S} {k : Nat} {m : z_M} {pc : Nat} {ls : z_L} {st : List Value} {M : z_Mem} {Q Q' : Option Value → z_Mem → Prop} (h : z_G X k m pc ls st M Q) (hq : ∀ r M', Q r M' → Q' r M') : z_G X k m pc ls st M Q' := fun d hd => by
  obtain ⟨n, r, M', h1, h2⟩ := h d hd
  exact ⟨n, r, M', h1, hq r M' h2⟩
theorem z_Cl.imp {k : Nat} {m : z_M} {as : List Value} {M : z_Mem} {Q Q' : Option Value → z_Mem → Prop} (h : z_Cl k m as M Q) (hq : ∀ r M', Q r M' → Q' r M') : z_Cl k m as M Q' := z_G.imp h hq
/-- a method's entry -/
theorem g_in {k : Nat} {m : z_M} {as : List Value} {ls : z_L} {M : z_Mem} {Q : Option Value → z_Mem → Prop} (he : z_ent m as = ls) (h : z_G none k m 0 ls [] M Q) : z_Cl k m as M Q := by
  subst he; exact h
section ZW
variable {X : z_S} {k : Nat} {m : z_M} {pc : Nat} {ls ls' : z_L} {r : List Value} {M : z_Mem} {Q : Option Value → z_Mem → Prop}
theorem g_go {st : List Value} {i : Instr} {len : Nat} {pc' : Nat} {st' : List Value} {M' : z_Mem} (hd : decode (z_b m) pc = .ok (i, len)) (hl : z_len i len = true) (hz : z_ins X m pc i ls st (z_heap M) = some (.inr (.inl (pc', ls', st', z_heap M')))) (kk : z_G X k m pc' ls' st' M' Q) : z_G X k m pc ls st M Q := by
  intro d hk
  obtain ⟨n, r, M1, h1, h2⟩ := kk d hk
  refine ⟨n + 1, r, M1, ?_, h2⟩
  rw [z_ev, z_step, hd]
  simp only [hl, if_true, hz]
  exact h1
theorem g_end {st : List Value} {i : Instr} {len : Nat} {v : Option Value} (hd : decode (z_b m) pc = .ok (i, len)) (hl : z_len i len = true) (hz : z_ins X m pc i ls st (z_heap M) = some (.inl (v, z_heap M))) (hq : Q v M) : z_G X k m pc ls st M Q := by
  intro d hk
  refine ⟨1, v, M, ?_, hq⟩
  rw [z_ev, z_step, hd]
  simp only [hl, if_true, hz]
theorem g_iret {v : Int32} {ty : FieldType} (hd : decode (z_b m) pc = .ok (.ireturn, 1)) (hr : z_r m = some ty) (hn : narrow ty (.int v) = .int v) (hq : Q (some (.int v)) M) : z_G X k m pc ls [.int v] M Q := by
  refine g_end hd rfl ?_ hq
  simp only [z_ins, hr, hn, if_true]
theorem g_lret {v : Int64} (hd : decode (z_b m) pc = .ok (.lreturn, 1)) (hr : z_r m = some .long) (hq : Q (some (.long v)) M) : z_G X k m pc ls [.long v] M Q := by
  refine g_end hd rfl ?_ hq
  simp only [z_ins, hr, if_true]
theorem g_vret (hd : decode (z_b m) pc = .ok (.return_, 1)) (hr : z_r m = none) (hq : Q none M) : z_G X k m pc ls [] M Q := by
  refine g_end hd rfl ?_ hq
  simp only [z_ins, hr, if_true]
theorem g_iconst {n : Int} {v : Int32} (hd : decode (z_b m) pc = .ok (.iconst n, 1)) (hv : Int32.ofInt n = v) (kk : z_G X k m (pc + 1) ls (.int v :: r) M Q) : z_G X k m pc ls r M Q := by subst hv; exact g_go hd rfl rfl kk
theorem g_bipush {n : Int} {v : Int32} (hd : decode (z_b m) pc = .ok (.bipush n, 2)) (hv : (Int8.ofInt n).toInt32 = v) (kk : z_G X k m (pc + 2) ls (.int v :: r) M Q) : z_G X k m pc ls r M Q := by subst hv; exact g_go hd rfl rfl kk
theorem g_sipush {n : Int} {v : Int32} (hd : decode (z_b m) pc = .ok (.sipush n, 3)) (hv : (Int16.ofInt n).toInt32 = v) (kk : z_G X k m (pc + 3) ls (.int v :: r) M Q) : z_G X k m pc ls r M Q := by subst hv; exact g_go hd rfl rfl kk
theorem g_lconst {n : Fin 2} {v : Int64} (hd : decode (z_b m) pc = .ok (.lconst n, 1)) (hv : Int64.ofNat n.val = v) (kk : z_G X k m (pc + 1) ls (.long v :: r) M Q) : z_G X k m pc ls r M Q := by subst hv; exact g_go hd rfl rfl kk
theorem g_iload_n {j : Fin 4} {i : Nat} {x : Int32} (hd : decode (z_b m) pc = .ok (.iload_n j, 1)) (hi : j.val = i) (hl : ls[i]? = some (some (.int x))) (kk : z_G X k m (pc + 1) ls (.int x :: r) M Q) : z_G X k m pc ls r M Q := by subst hi; exact g_go hd rfl (by simp only [z_ins, z_ldI, hl]; rfl) kk
theorem g_iload {i : Nat} {x : Int32} (hd : decode (z_b m) pc = .ok (.iload i, 2)) (hl : ls[i]? = some (some (.int x))) (kk : z_G X k m (pc + 2) ls (.int x :: r) M Q) : z_G X k m pc ls r M Q := g_go hd rfl (by simp only [z_ins, z_ldI, hl]; rfl) kk
theorem g_istore_n {j : Fin 4} {i : Nat} {x : Int32} (hd : decode (z_b m) pc = .ok (.istore_n j, 1)) (hi : j.val = i) (hk : i < ls.length) (hl : z_st1 ls i (.int x) = ls') (kk : z_G X k m (pc + 1) ls' r M Q) : z_G X k m pc ls (.int x :: r) M Q := by subst hi; subst hl; exact g_go hd rfl (by simp only [z_ins, z_stI, hk, if_true]; rfl) kk
theorem g_istore {i : Nat} {x : Int32} (hd : decode (z_b m) pc = .ok (.istore i, 2)) (hk : i < ls.length) (hl : z_st1 ls i (.int x) = ls') (kk : z_G X k m (pc + 2) ls' r M Q) : z_G X k m pc ls (.int x :: r) M Q := by subst hl; exact g_go hd rfl (by simp only [z_ins, z_stI, hk, if_true]; rfl) kk
theorem g_lload_n {j : Fin 4} {i : Nat} {x : Int64} (hd : decode (z_b m) pc = .ok (.lload_n j, 1)) (hi : j.val = i) (hl : ls[i]? = some (some (.long x))) (kk : z_G X k m (pc + 1) ls (.long x :: r) M Q) : z_G X k m pc ls r M Q := by subst hi; exact g_go hd rfl (by simp only [z_ins, z_ldL, hl]; rfl) kk
theorem g_lload {i : Nat} {x : Int64} (hd : decode (z_b m) pc = .ok (.lload i, 2)) (hl : ls[i]? = some (some (.long x))) (kk : z_G X k m (pc + 2) ls (.long x :: r) M Q) : z_G X k m pc ls r M Q := g_go hd rfl (by simp only [z_ins, z_ldL, hl]; rfl) kk
theorem g_lstore_n {j : Fin 4} {i : Nat} {x : Int64} (hd : decode (z_b m) pc = .ok (.lstore_n j, 1)) (hi : j.val = i) (hk : i + 1 < ls.length) (hl : z_st2 ls i (.long x) = ls') (kk : z_G X k m (pc + 1) ls' r M Q) : z_G X k m pc ls (.long x :: r) M Q := by subst hi; subst hl; exact g_go hd rfl (by simp only [z_ins, z_stL, hk, if_true]; rfl) kk
theorem g_lstore {i : Nat} {x : Int64} (hd : decode (z_b m) pc = .ok (.lstore i, 2)) (hk : i + 1 < ls.length) (hl : z_st2 ls i (.long x) = ls') (kk : z_G X k m (pc + 2) ls' r M Q) : z_G X k m pc ls (.long x :: r) M Q := by subst hl; exact g_go hd rfl (by simp only [z_ins, z_stL, hk, if_true]; rfl) kk
theorem g_aload_n {j : Fin 4} {i : Nat} {x : Nat} (hd : decode (z_b m) pc = .ok (.aload_n j, 1)) (hi : j.val = i) (hl : ls[i]? = some (some (.ref x))) (kk : z_G X k m (pc + 1) ls (.ref x :: r) M Q) : z_G X k m pc ls r M Q := by subst hi; exact g_go hd rfl (by simp only [z_ins, z_ldA, hl]; rfl) kk
theorem g_aload {i : Nat} {x : Nat} (hd : decode (z_b m) pc = .ok (.aload i, 2)) (hl : ls[i]? = some (some (.ref x))) (kk : z_G X k m (pc + 2) ls (.ref x :: r) M Q) : z_G X k m pc ls r M Q := g_go hd rfl (by simp only [z_ins, z_ldA, hl]; rfl) kk
theorem g_astore_n {j : Fin 4} {i : Nat} {x : Nat} (hd : decode (z_b m) pc = .ok (.astore_n j, 1)) (hi : j.val = i) (hk : i < ls.length) (hl : z_st1 ls i (.ref x) = ls') (kk : z_G X k m (pc + 1) ls' r M Q) : z_G X k m pc ls (.ref x :: r) M Q := by subst hi; subst hl; exact g_go hd rfl (by simp only [z_ins, z_stA, hk, if_true]; rfl) kk
theorem g_astore {i : Nat} {x : Nat} (hd : decode (z_b m) pc = .ok (.astore i, 2)) (hk : i < ls.length) (hl : z_st1 ls i (.ref x) = ls') (kk : z_G X k m (pc + 2) ls' r M Q) : z_G X k m pc ls (.ref x :: r) M Q := by subst hl; exact g_go hd rfl (by simp only [z_ins, z_stA, hk, if_true]; rfl) kk
theorem g_iinc {i : Nat} {n : Int} {x v : Int32} (hd : decode (z_b m) pc = .ok (.iinc i n, 3)) (hx : ls[i]? = some (some (.int x))) (hv : x + Int32.ofInt n = v) (hl : z_st1 ls i (.int v) = ls') (kk : z_G X k m (pc + 3) ls' r M Q) : z_G X k m pc ls r M Q := by subst hv; subst hl; exact g_go hd rfl (by simp only [z_ins, hx]; rfl) kk
theorem g_iadd {x y : Int32} (hd : decode (z_b m) pc = .ok (.iadd, 1)) (kk : z_G X k m (pc + 1) ls (.int (x + y) :: r) M Q) : z_G X k m pc ls (.int y :: .int x :: r) M Q := g_go hd rfl rfl kk
theorem g_isub {x y : Int32} (hd : decode (z_b m) pc = .ok (.isub, 1)) (kk : z_G X k m (pc + 1) ls (.int (x - y) :: r) M Q) : z_G X k m pc ls (.int y :: .int x :: r) M Q := g_go hd rfl rfl kk
theorem g_imul {x y : Int32} (hd : decode (z_b m) pc = .ok (.imul, 1)) (kk : z_G X k m (pc + 1) ls (.int (x * y) :: r) M Q) : z_G X k m pc ls (.int y :: .int x :: r) M Q := g_go hd rfl rfl kk
theorem g_iand {x y : Int32} (hd : decode (z_b m) pc = .ok (.iand, 1)) (kk : z_G X k m (pc + 1) ls (.int (x &&& y) :: r) M Q) : z_G X k m pc ls (.int y :: .int x :: r) M Q := g_go hd rfl rfl kk
theorem g_ior {x y : Int32} (hd : decode (z_b m) pc = .ok (.ior, 1)) (kk : z_G X k m (pc + 1) ls (.int (x ||| y) :: r) M Q) : z_G X k m pc ls (.int y :: .int x :: r) M Q := g_go hd rfl rfl kk
theorem g_ixor {x y : Int32} (hd : decode (z_b m) pc = .ok (.ixor, 1)) (kk : z_G X k m (pc + 1) ls (.int (x ^^^ y) :: r) M Q) : z_G X k m pc ls (.int y :: .int x :: r) M Q := g_go hd rfl rfl kk
theorem g_ishl {x y : Int32} (hd : decode (z_b m) pc = .ok (.ishl, 1)) (kk : z_G X k m (pc + 1) ls (.int (x <<< (y &&& 31)) :: r) M Q) : z_G X k m pc ls (.int y :: .int x :: r) M Q := g_go hd rfl rfl kk
theorem g_ishr {x y : Int32} (hd : decode (z_b m) pc = .ok (.ishr, 1)) (kk : z_G X k m (pc + 1) ls (.int (x >>> (y &&& 31)) :: r) M Q) : z_G X k m pc ls (.int y :: .int x :: r) M Q := g_go hd rfl rfl kk
theorem g_iushr {x y : Int32} (hd : decode (z_b m) pc = .ok (.iushr, 1)) (kk : z_G X k m (pc + 1) ls (.int ((x.toUInt32 >>> (y.toUInt32 &&& Int32.toUInt32 31)).toInt32) :: r) M Q) : z_G X k m pc ls (.int y :: .int x :: r) M Q := g_go hd rfl rfl kk
theorem g_idiv {x y : Int32} (hd : decode (z_b m) pc = .ok (.idiv, 1)) (hne : ¬ y = 0) (kk : z_G X k m (pc + 1) ls (.int (x / y) :: r) M Q) : z_G X k m pc ls (.int y :: .int x :: r) M Q := g_go hd rfl (by simp only [z_ins, z_bi0, hne, if_false]; rfl) kk
theorem g_irem {x y : Int32} (hd : decode (z_b m) pc = .ok (.irem, 1)) (hne : ¬ y = 0) (kk : z_G X k m (pc + 1) ls (.int (x - x / y * y) :: r) M Q) : z_G X k m pc ls (.int y :: .int x :: r) M Q := g_go hd rfl (by simp only [z_ins, z_bi0, hne, if_false]; rfl) kk
theorem g_ladd {x y : Int64} (hd : decode (z_b m) pc = .ok (.ladd, 1)) (kk : z_G X k m (pc + 1) ls (.long (x + y) :: r) M Q) : z_G X k m pc ls (.long y :: .long x :: r) M Q := g_go hd rfl rfl kk
theorem g_lsub {x y : Int64} (hd : decode (z_b m) pc = .ok (.lsub, 1)) (kk : z_G X k m (pc + 1) ls (.long (x - y) :: r) M Q) : z_G X k m pc ls (.long y :: .long x :: r) M Q := g_go hd rfl rfl kk
theorem g_lmul {x y : Int64} (hd : decode (z_b m) pc = .ok (.lmul, 1)) (kk : z_G X k m (pc + 1) ls (.long (x * y) :: r) M Q) : z_G X k m pc ls (.long y :: .long x :: r) M Q := g_go hd rfl rfl kk
theorem g_land {x y : Int64} (hd : decode (z_b m) pc = .ok (.land, 1)) (kk : z_G X k m (pc + 1) ls (.long (x &&& y) :: r) M Q) : z_G X k m pc ls (.long y :: .long x :: r) M Q := g_go hd rfl rfl kk
theorem g_lor {x y : Int64} (hd : decode (z_b m) pc = .ok (.lor, 1)) (kk : z_G X k m (pc + 1) ls (.long (x ||| y) :: r) M Q) : z_G X k m pc ls (.long y :: .long x :: r) M Q := g_go hd rfl rfl kk
theorem g_ldiv {x y : Int64} (hd : decode (z_b m) pc = .ok (.ldiv, 1)) (hne : ¬ y = 0) (kk : z_G X k m (pc + 1) ls (.long (x / y) :: r) M Q) : z_G X k m pc ls (.long y :: .long x :: r) M Q := g_go hd rfl (by simp only [z_ins, z_bl0, hne, if_false]; rfl) kk
theorem g_lrem {x y : Int64} (hd : decode (z_b m) pc = .ok (.lrem, 1)) (hne : ¬ y = 0) (kk : z_G X k m (pc + 1) ls (.long (x - x / y * y) :: r) M Q) : z_G X k m pc ls (.long y :: .long x :: r) M Q := g_go hd rfl (by simp only [z_ins, z_bl0, hne, if_false]; rfl) kk
theorem g_lshl {x : Int64} {y : Int32} (hd : decode (z_b m) pc = .ok (.lshl, 1)) (kk : z_G X k m (pc + 1) ls (.long (x <<< (y.toInt64 &&& 63)) :: r) M Q) : z_G X k m pc ls (.int y :: .long x :: r) M Q := g_go hd rfl rfl kk
theorem g_lcmp {x y : Int64} (hd : decode (z_b m) pc = .ok (.lcmp, 1)) (kk : z_G X k m (pc + 1) ls (.int (lg_cmp x y) :: r) M Q) : z_G X k m pc ls (.long y :: .long x :: r) M Q := g_go hd rfl rfl kk
theorem g_ineg {x : Int32} (hd : decode (z_b m) pc = .ok (.ineg, 1)) (kk : z_G X k m (pc + 1) ls (.int (-x) :: r) M Q) : z_G X k m pc ls (.int x :: r) M Q := g_go hd rfl rfl kk
theorem g_i2l {x : Int32} (hd : decode (z_b m) pc = .ok (.i2l, 1)) (kk : z_G X k m (pc + 1) ls (.long (x.toInt64) :: r) M Q) : z_G X k m pc ls (.int x :: r) M Q := g_go hd rfl rfl kk
theorem g_l2i {x : Int64} (hd : decode (z_b m) pc = .ok (.l2i, 1)) (kk : z_G X k m (pc + 1) ls (.int (x.toInt32) :: r) M Q) : z_G X k m pc ls (.long x :: r) M Q := g_go hd rfl rfl kk
theorem g_i2b {x : Int32} (hd : decode (z_b m) pc = .ok (.i2b, 1)) (kk : z_G X k m (pc + 1) ls (.int (x.toInt8.toInt32) :: r) M Q) : z_G X k m pc ls (.int x :: r) M Q := g_go hd rfl rfl kk
theorem g_i2s {x : Int32} (hd : decode (z_b m) pc = .ok (.i2s, 1)) (kk : z_G X k m (pc + 1) ls (.int (x.toInt16.toInt32) :: r) M Q) : z_G X k m pc ls (.int x :: r) M Q := g_go hd rfl rfl kk
theorem g_dup {v : Value} (hd : decode (z_b m) pc = .ok (.dup, 1)) (hc : v.category = 1) (kk : z_G X k m (pc + 1) ls (v :: v :: r) M Q) : z_G X k m pc ls (v :: r) M Q := g_go hd rfl (by simp only [z_ins, hc, if_true]; rfl) kk
theorem g_pop {v : Value} (hd : decode (z_b m) pc = .ok (.pop, 1)) (hc : v.category = 1) (kk : z_G X k m (pc + 1) ls r M Q) : z_G X k m pc ls (v :: r) M Q := g_go hd rfl (by simp only [z_ins, hc, if_true]; rfl) kk
theorem g_dup2 {v u : Value} (hd : decode (z_b m) pc = .ok (.dup2, 1)) (hc : v.category = 1) (hc2 : u.category = 1) (kk : z_G X k m (pc + 1) ls (v :: u :: v :: u :: r) M Q) : z_G X k m pc ls (v :: u :: r) M Q := g_go hd rfl (by simp only [z_ins, hc, hc2, and_self, if_true]; rfl) kk
theorem z_tgt_of {off : Int} {t : Nat} (h : (pc : Int) + off = (t : Int)) : z_tgt pc off = some t := by
  unfold z_tgt
  rw [if_pos (by omega), h]
  rfl
theorem g_goto {off : Int} {t : Nat} (hd : decode (z_b m) pc = .ok (.goto off, 3)) (ht : (pc : Int) + off = (t : Int)) (kk : z_G X k m t ls r M Q) : z_G X k m pc ls r M Q := g_go hd rfl (by simp only [z_ins, z_jmp, z_tgt_of ht]; rfl) kk
theorem g_br {i : Instr} {off : Int} {t : Nat} {c : Prop} [hdc : Decidable c] {st : List Value} (hd : decode (z_b m) pc = .ok (i, 3)) (hl : z_len i 3 = true) (hz : z_ins X m pc i ls st (z_heap M) = z_br pc off c ls r (z_heap M)) (ht : (pc : Int) + off = (t : Int)) (kt : c → z_G X k m t ls r M Q) (kf : ¬ c → z_G X k m (pc + 3) ls r M Q) : z_G X k m pc ls st M Q := by
  by_cases hc : c
  · exact g_go hd hl (by rw [hz, z_br, z_tgt_of ht]; simp only [hc, if_true]; rfl) (kt hc)
  · exact g_go hd hl (by rw [hz, z_br, z_tgt_of ht]; simp only [hc, if_false]; rfl) (kf hc)
theorem g_if_eq {off : Int} {t : Nat} {x : Int32} (hd : decode (z_b m) pc = .ok (.ifCond .eq off, 3)) (ht : (pc : Int) + off = (t : Int)) (kt : x = 0 → z_G X k m t ls r M Q) (kf : ¬ x = 0 → z_G X k m (pc + 3) ls r M Q) : z_G X k m pc ls (.int x :: r) M Q := g_br hd rfl rfl ht kt kf
theorem g_ic_eq {off : Int} {t : Nat} {x y : Int32} (hd : decode (z_b m) pc = .ok (.if_icmp .eq off, 3)) (ht : (pc : Int) + off = (t : Int)) (kt : x = y → z_G X k m t ls r M Q) (kf : ¬ x = y → z_G X k m (pc + 3) ls r M Q) : z_G X k m pc ls (.int y :: .int x :: r) M Q := g_br hd rfl rfl ht kt kf
theorem g_if_ne {off : Int} {t : Nat} {x : Int32} (hd : decode (z_b m) pc = .ok (.ifCond .ne off, 3)) (ht : (pc : Int) + off = (t : Int)) (kt : ¬ x = 0 → z_G X k m t ls r M Q) (kf : x = 0 → z_G X k m (pc + 3) ls r M Q) : z_G X k m pc ls (.int x :: r) M Q := g_br hd rfl rfl ht kt (fun h => kf (Classical.not_not.mp h))
theorem g_ic_ne {off : Int} {t : Nat} {x y : Int32} (hd : decode (z_b m) pc = .ok (.if_icmp .ne off, 3)) (ht : (pc : Int) + off = (t : Int)) (kt : ¬ x = y → z_G X k m t ls r M Q) (kf : x = y → z_G X k m (pc + 3) ls r M Q) : z_G X k m pc ls (.int y :: .int x :: r) M Q := g_br hd rfl rfl ht kt (fun h => kf (Classical.not_not.mp h))
theorem g_if_lt {off : Int} {t : Nat} {x : Int32} (hd : decode (z_b m) pc = .ok (.ifCond .lt off, 3)) (ht : (pc : Int) + off = (t : Int)) (kt : x < 0 → z_G X k m t ls r M Q) (kf : ¬ x < 0 → z_G X k m (pc + 3) ls r M Q) : z_G X k m pc ls (.int x :: r) M Q := g_br hd rfl rfl ht kt kf
theorem g_ic_lt {off : Int} {t : Nat} {x y : Int32} (hd : decode (z_b m) pc = .ok (.if_icmp .lt off, 3)) (ht : (pc : Int) + off = (t : Int)) (kt : x < y → z_G X k m t ls r M Q) (kf : ¬ x < y → z_G X k m (pc + 3) ls r M Q) : z_G X k m pc ls (.int y :: .int x :: r) M Q := g_br hd rfl rfl ht kt kf
theorem g_if_ge {off : Int} {t : Nat} {x : Int32} (hd : decode (z_b m) pc = .ok (.ifCond .ge off, 3)) (ht : (pc : Int) + off = (t : Int)) (kt : 0 ≤ x → z_G X k m t ls r M Q) (kf : ¬ 0 ≤ x → z_G X k m (pc + 3) ls r M Q) : z_G X k m pc ls (.int x :: r) M Q := g_br hd rfl rfl ht kt kf
theorem g_ic_ge {off : Int} {t : Nat} {x y : Int32} (hd : decode (z_b m) pc = .ok (.if_icmp .ge off, 3)) (ht : (pc : Int) + off = (t : Int)) (kt : y ≤ x → z_G X k m t ls r M Q) (kf : ¬ y ≤ x → z_G X k m (pc + 3) ls r M Q) : z_G X k m pc ls (.int y :: .int x :: r) M Q := g_br hd rfl rfl ht kt kf
theorem g_if_gt {off : Int} {t : Nat} {x : Int32} (hd : decode (z_b m) pc = .ok (.ifCond .gt off, 3)) (ht : (pc : Int) + off = (t : Int)) (kt : 0 < x → z_G X k m t ls r M Q) (kf : ¬ 0 < x → z_G X k m (pc + 3) ls r M Q) : z_G X k m pc ls (.int x :: r) M Q := g_br hd rfl rfl ht kt kf
theorem g_ic_gt {off : Int} {t : Nat} {x y : Int32} (hd : decode (z_b m) pc = .ok (.if_icmp .gt off, 3)) (ht : (pc : Int) + off = (t : Int)) (kt : y < x → z_G X k m t ls r M Q) (kf : ¬ y < x → z_G X k m (pc + 3) ls r M Q) : z_G X k m pc ls (.int y :: .int x :: r) M Q := g_br hd rfl rfl ht kt kf
theorem g_if_le {off : Int} {t : Nat} {x : Int32} (hd : decode (z_b m) pc = .ok (.ifCond .le off, 3)) (ht : (pc : Int) + off = (t : Int)) (kt : x ≤ 0 → z_G X k m t ls r M Q) (kf : ¬ x ≤ 0 → z_G X k m (pc + 3) ls r M Q) : z_G X k m pc ls (.int x :: r) M Q := g_br hd rfl rfl ht kt kf
theorem g_ic_le {off : Int} {t : Nat} {x y : Int32} (hd : decode (z_b m) pc = .ok (.if_icmp .le off, 3)) (ht : (pc : Int) + off = (t : Int)) (kt : x ≤ y → z_G X k m t ls r M Q) (kf : ¬ x ≤ y → z_G X k m (pc + 3) ls r M Q) : z_G X k m pc ls (.int y :: .int x :: r) M Q := g_br hd rfl rfl ht kt kf
theorem g_tsOut {d lo hi : Int} {offs : Array Int} {len t : Nat} {x : Int32} (hd : decode (z_b m) pc = .ok (.tableswitch d lo hi offs, len)) (h : x.toInt < lo ∨ hi < x.toInt) (ht : (pc : Int) + d = (t : Int)) (kk : z_G X k m t ls r M Q) : z_G X k m pc ls (.int x :: r) M Q := g_go hd rfl (by simp only [z_ins, z_tsw, h, if_true, z_jmp, z_tgt_of ht]; rfl) kk
theorem g_tsIn {d lo hi : Int} {offs : Array Int} {len t : Nat} {x : Int32} {off : Int} (hd : decode (z_b m) pc = .ok (.tableswitch d lo hi offs, len)) (h : ¬ (x.toInt < lo ∨ hi < x.toInt)) (ho : offs[(x.toInt - lo).toNat]? = some off) (ht : (pc : Int) + off = (t : Int)) (kk : z_G X k m t ls r M Q) : z_G X k m pc ls (.int x :: r) M Q := g_go hd rfl (by simp only [z_ins, z_tsw, h, if_false, ho, z_jmp, z_tgt_of ht]; rfl) kk
theorem g_lsw {d : Int} {ps : Array (Int × Int)} {len t : Nat} {x : Int32} {off : Int} (hd : decode (z_b m) pc = .ok (.lookupswitch d ps, len)) (hp : (ps.toList.zip (ps.toList.drop 1)).all (fun (a, next) => a.1 < next.1) = true) (ho : Op.lookupswitch.offset ps.toList d x.toInt = off) (ht : (pc : Int) + off = (t : Int)) (kk : z_G X k m t ls r M Q) : z_G X k m pc ls (.int x :: r) M Q := g_go hd rfl (by simp only [z_ins, z_lsw, hp, if_true, ho, z_jmp, z_tgt_of ht]; rfl) kk
theorem g_ldc {ix p : Nat} {v : Int32} (hd : decode (z_b m) pc = .ok (.ldc ix, 2)) (hk : z_kc (z_o m) ix = some (v, p)) (kk : z_G X k m (pc + 2) ls (.int v :: r) M Q) : z_G X k m pc ls r M Q := g_go hd rfl (by simp only [z_ins, hk]; rfl) kk
theorem g_ldcS (hd : decode (z_b m) pc = .ok (.ldc 62, 2)) (hk : z_kc (z_o m) 62 = none) (ho : z_o m = 7) (kk : z_G X k m (pc + 2) ls (.ref 1 :: r) M Q) : z_G X k m pc ls r M Q := g_go hd rfl (by simp only [z_ins, hk, ho, and_self, if_true]; rfl) kk
theorem g_ldc_w {ix p : Nat} {v : Int32} (hd : decode (z_b m) pc = .ok (.ldc_w ix, 3)) (hk : z_kc (z_o m) ix = some (v, p)) (kk : z_G X k m (pc + 3) ls (.int v :: r) M Q) : z_G X k m pc ls r M Q := g_go hd rfl (by simp only [z_ins, hk]; rfl) kk
theorem g_ldc2_w {ix p : Nat} {v : Int64} (hd : decode (z_b m) pc = .ok (.ldc2_w ix, 3)) (hk : z_kl (z_o m) ix = some (v, p)) (kk : z_G X k m (pc + 3) ls (.long v :: r) M Q) : z_G X k m pc ls r M Q := g_go hd rfl (by simp only [z_ins, hk]; rfl) kk
theorem g_get {a ix ci j p kd : Nat} {ks : List Nat} {v : Value} (hd : decode (z_b m) pc = .ok (.getfield ix, 3)) (hf : z_fl (z_o m) ix = some (ci, j, p)) (hs : z_sh[a]? = some (.inr (ci, ks))) (hk : ks[j]? = some kd) (hv : z_fv M a j kd = v) (kk : z_G X k m (pc + 3) ls (v :: r) M Q) : z_G X k m pc ls (.ref (a + 2) :: r) M Q := by
  subst hv
  refine g_go hd rfl ?_ kk
  have h1 : (z_fvs M a 0 ks)[j]? = some (z_fv M a j kd) := by rw [z_fvs_get, hk, Nat.zero_add]; rfl
  simp only [z_ins, z_gf, hf, z_heap_at hs, z_cell, if_true, h1]
  rfl
theorem g_putI {a ix ci j p : Nat} {ks : List Nat} {x : Int32} (hd : decode (z_b m) pc = .ok (.putfield ix, 3)) (hf : z_fl (z_o m) ix = some (ci, j, p)) (hs : z_sh[a]? = some (.inr (ci, ks))) (hk : ks[j]? = some 0) (hty : z_ty ci j = .int) (hfin : z_fin ci j = false) (kk : z_G X k m (pc + 3) ls r (z_wI M a j x) Q) : z_G X k m pc ls (.int x :: .ref (a + 2) :: r) M Q := by
  refine g_go hd rfl ?_ kk
  have h1 : j < (z_fvs M a 0 ks).length := by rw [z_fvs_len]; exact (List.getElem?_eq_some_iff.mp hk).1
  have h2 : (z_heap M).set a (.inr (ci, (z_fvs M a 0 ks).set j (.int x))) = z_heap (z_wI M a j x) := by
    rw [← z_heap_set hs (M := M) (M' := z_wI M a j x) (fun b hb => z_wI_ne hb) (fun b _ => rfl)]
    congr 3
    refine z_fvs_set ks 0 hk ?_ (fun i hi => ?_) (fun i _ => rfl)
    · rw [Nat.zero_add]; show Value.int ((z_wI M a j x).1 a j) = _; rw [z_wI_eq]; simp [upd]
    · rw [z_wI_eq]; rw [Nat.zero_add] at hi; simp [upd, hi]
  have h3 : narrow .int (.int x) = .int x := rfl
  have h4 : fits .int (.int x) = true := rfl
  simp only [z_ins, z_pf, hf, z_heap_at hs, z_cell, hty, h3, h4, hfin, h1, true_or, and_self, if_true, h2]
  rfl
theorem g_putZ {a ix ci j p : Nat} {ks : List Nat} {x : Int32} (hd : decode (z_b m) pc = .ok (.putfield ix, 3)) (hf : z_fl (z_o m) ix = some (ci, j, p)) (hs : z_sh[a]? = some (.inr (ci, ks))) (hk : ks[j]? = some 1) (hty : z_ty ci j = .boolean) (hfin : z_fin ci j = false) (hx : x = 0 ∨ x = 1) (kk : z_G X k m (pc + 3) ls r (z_wI M a j x) Q) : z_G X k m pc ls (.int x :: .ref (a + 2) :: r) M Q := by
  refine g_go hd rfl ?_ kk
  have h1 : j < (z_fvs M a 0 ks).length := by rw [z_fvs_len]; exact (List.getElem?_eq_some_iff.mp hk).1
  have h2 : (z_heap M).set a (.inr (ci, (z_fvs M a 0 ks).set j (.int x))) = z_heap (z_wI M a j x) := by
    rw [← z_heap_set hs (M := M) (M' := z_wI M a j x) (fun b hb => z_wI_ne hb) (fun b _ => rfl)]
    congr 3
    refine z_fvs_set ks 0 hk ?_ (fun i hi => ?_) (fun i _ => rfl)
    · rw [Nat.zero_add]; show Value.int (z_bz ((z_wI M a j x).1 a j)) = _; rw [z_wI_eq]
      rcases hx with rfl | rfl <;> simp [upd, z_bz]
    · rw [z_wI_eq]; rw [Nat.zero_add] at hi; simp [upd, hi]
  have h3 : narrow .boolean (.int x) = .int x := by rcases hx with rfl | rfl <;> rfl
  have h4 : fits .boolean (.int x) = true := by rcases hx with rfl | rfl <;> rfl
  simp only [z_ins, z_pf, hf, z_heap_at hs, z_cell, hty, h3, h4, hfin, h1, true_or, and_self, if_true, h2]
  rfl
theorem g_putL {a ix ci j p : Nat} {ks : List Nat} {x : Int64} (hd : decode (z_b m) pc = .ok (.putfield ix, 3)) (hf : z_fl (z_o m) ix = some (ci, j, p)) (hs : z_sh[a]? = some (.inr (ci, ks))) (hk : ks[j]? = some 2) (hty : z_ty ci j = .long) (hfin : z_fin ci j = false) (kk : z_G X k m (pc + 3) ls r (z_wL M a j x) Q) : z_G X k m pc ls (.long x :: .ref (a + 2) :: r) M Q := by
  refine g_go hd rfl ?_ kk
  have h1 : j < (z_fvs M a 0 ks).length := by rw [z_fvs_len]; exact (List.getElem?_eq_some_iff.mp hk).1
  have h2 : (z_heap M).set a (.inr (ci, (z_fvs M a 0 ks).set j (.long x))) = z_heap (z_wL M a j x) := by
    rw [← z_heap_set hs (M := M) (M' := z_wL M a j x) (fun b _ => rfl) (fun b hb => z_wL_ne hb)]
    congr 3
    refine z_fvs_set ks 0 hk ?_ (fun i _ => rfl) (fun i hi => ?_)
    · rw [Nat.zero_add]; show Value.long ((z_wL M a j x).2 a j) = _; rw [z_wL_eq]; simp [vp_updL]
    · rw [z_wL_eq]; rw [Nat.zero_add] at hi; simp [vp_updL, hi]
  have h3 : narrow .long (.long x) = .long x := rfl
  have h4 : fits .long (.long x) = true := rfl
  simp only [z_ins, z_pf, hf, z_heap_at hs, z_cell, hty, h3, h4, hfin, h1, true_or, and_self, if_true, h2]
  rfl
theorem g_iald {a n : Nat} {i : Int32} (hd : decode (z_b m) pc = .ok (.iaload, 1)) (hs : z_sh[a]? = some (.inl (.int, n))) (hi : vp_in i n) (kk : z_G X k m (pc + 1) ls (.int (M.1 a i.toNatClampNeg) :: r) M Q) : z_G X k m pc ls (.int i :: .ref (a + 2) :: r) M Q := by
  refine g_go hd rfl ?_ kk
  have hi : ¬ (i < 0 ∨ n ≤ i.toNatClampNeg) := hi
  simp only [z_ins, z_ia, z_heap_at hs, z_cell, hi, if_false]
  rfl
theorem g_bald {a n : Nat} {i : Int32} (hd : decode (z_b m) pc = .ok (.baload, 1)) (hs : z_sh[a]? = some (.inl (.byte, n))) (hi : vp_in i n) (kk : z_G X k m (pc + 1) ls (.int (M.1 a i.toNatClampNeg) :: r) M Q) : z_G X k m pc ls (.int i :: .ref (a + 2) :: r) M Q := by
  refine g_go hd rfl ?_ kk
  have hi : ¬ (i < 0 ∨ n ≤ i.toNatClampNeg) := hi
  simp only [z_ins, z_ba, z_heap_at hs, z_cell, hi, if_false]
  rfl
theorem g_lald {a n : Nat} {i : Int32} (hd : decode (z_b m) pc = .ok (.laload, 1)) (hs : z_sh[a]? = some (.inl (.long, n))) (hi : vp_in i n) (kk : z_G X k m (pc + 1) ls (.long (M.2 a i.toNatClampNeg) :: r) M Q) : z_G X k m pc ls (.int i :: .ref (a + 2) :: r) M Q := by
  refine g_go hd rfl ?_ kk
  have hi : ¬ (i < 0 ∨ n ≤ i.toNatClampNeg) := hi
  simp only [z_ins, z_la, z_heap_at hs, z_cell, hi, if_false]
  rfl
theorem g_aald {a n b : Nat} {i : Int32} (hd : decode (z_b m) pc = .ok (.aaload, 1)) (hs : z_sh[a]? = some (.inl (.object "DitchSaint$Parish", n))) (hi : vp_in i n) (hm : z_marks i.toNatClampNeg = some b) (kk : z_G X k m (pc + 1) ls (.ref b :: r) M Q) : z_G X k m pc ls (.int i :: .ref (a + 2) :: r) M Q := by
  refine g_go hd rfl ?_ kk
  have hi : ¬ (i < 0 ∨ n ≤ i.toNatClampNeg) := hi
  simp only [z_ins, z_aa, z_heap_at hs, z_cell, hi, if_false, hm]
  rfl
theorem g_iast {a n : Nat} {i x : Int32} (hd : decode (z_b m) pc = .ok (.iastore, 1)) (hs : z_sh[a]? = some (.inl (.int, n))) (hi : vp_in i n) (kk : z_G X k m (pc + 1) ls r (z_wI M a i.toNatClampNeg x) Q) : z_G X k m pc ls (.int x :: .int i :: .ref (a + 2) :: r) M Q := by
  refine g_go hd rfl ?_ kk
  have hi : ¬ (i < 0 ∨ n ≤ i.toNatClampNeg) := hi
  have h2 : (z_heap M).set a (.inl (.int, n, .inl (upd (M.1 a) i.toNatClampNeg x))) = z_heap (z_wI M a i.toNatClampNeg x) := by
    rw [← z_heap_set hs (M := M) (M' := z_wI M a i.toNatClampNeg x) (fun b hb => z_wI_ne hb) (fun b _ => rfl)]
    simp only [z_cell, z_wI_eq]
  simp only [z_ins, z_is, z_heap_at hs, z_cell, hi, if_false, h2]
  rfl
theorem g_bast {a n : Nat} {i x : Int32} (hd : decode (z_b m) pc = .ok (.bastore, 1)) (hs : z_sh[a]? = some (.inl (.byte, n))) (hi : vp_in i n) (kk : z_G X k m (pc + 1) ls r (z_wI M a i.toNatClampNeg (vp_nar .byte x)) Q) : z_G X k m pc ls (.int x :: .int i :: .ref (a + 2) :: r) M Q := by
  refine g_go hd rfl ?_ kk
  have hi : ¬ (i < 0 ∨ n ≤ i.toNatClampNeg) := hi
  have h2 : (z_heap M).set a (.inl (.byte, n, .inl (upd (M.1 a) i.toNatClampNeg (vp_nar .byte x)))) = z_heap (z_wI M a i.toNatClampNeg (vp_nar .byte x)) := by
    rw [← z_heap_set hs (M := M) (M' := z_wI M a i.toNatClampNeg (vp_nar .byte x)) (fun b hb => z_wI_ne hb) (fun b _ => rfl)]
    simp only [z_cell, z_wI_eq]
  simp only [z_ins, z_bs, z_heap_at hs, z_cell, hi, if_false, h2]
  rfl
theorem g_last {a n : Nat} {i : Int32} {x : Int64} (hd : decode (z_b m) pc = .ok (.lastore, 1)) (hs : z_sh[a]? = some (.inl (.long, n))) (hi : vp_in i n) (kk : z_G X k m (pc + 1) ls r (z_wL M a i.toNatClampNeg x) Q) : z_G X k m pc ls (.long x :: .int i :: .ref (a + 2) :: r) M Q := by
  refine g_go hd rfl ?_ kk
  have hi : ¬ (i < 0 ∨ n ≤ i.toNatClampNeg) := hi
  have h2 : (z_heap M).set a (.inl (.long, n, .inr (.inl (vp_updL (M.2 a) i.toNatClampNeg x)))) = z_heap (z_wL M a i.toNatClampNeg x) := by
    rw [← z_heap_set hs (M := M) (M' := z_wL M a i.toNatClampNeg x) (fun b _ => rfl) (fun b hb => z_wL_ne hb)]
    simp only [z_cell, z_wL_eq]
  simp only [z_ins, z_ls, z_heap_at hs, z_cell, hi, if_false, h2]
  rfl
theorem g_alen {a n : Nat} {v : Int32} (hd : decode (z_b m) pc = .ok (.arraylength, 1)) (hs : z_sh[a]? = some (.inl (.int, n))) (hv : Int32.ofNat n = v) (kk : z_G X k m (pc + 1) ls (.int v :: r) M Q) : z_G X k m pc ls (.ref (a + 2) :: r) M Q := by
  subst hv
  refine g_go hd rfl ?_ kk
  simp only [z_ins, z_al, z_heap_at hs, z_cell]
  rfl
theorem g_sld {L : Nat} {xs : Nat → Int32} {i : Int32} (hd : decode (z_b m) pc = .ok (.iaload, 1)) (hi : vp_in i L) (kk : z_G (some (L, xs)) k m (pc + 1) ls (.int (xs i.toNatClampNeg) :: r) M Q) : z_G (some (L, xs)) k m pc ls (.int i :: .ref 0 :: r) M Q := by
  refine g_go hd rfl ?_ kk
  have hi : ¬ (i < 0 ∨ L ≤ i.toNatClampNeg) := hi
  simp only [z_ins, z_ia, hi, if_false]
  rfl
theorem g_slen {L : Nat} {xs : Nat → Int32} (hd : decode (z_b m) pc = .ok (.arraylength, 1)) (kk : z_G (some (L, xs)) k m (pc + 1) ls (.int (Int32.ofNat L) :: r) M Q) : z_G (some (L, xs)) k m pc ls (.ref 0 :: r) M Q := g_go hd rfl rfl kk
theorem g_max {ix p : Nat} {x y : Int32} (hd : decode (z_b m) pc = .ok (.invokestatic ix, 3)) (hb : z_bk (z_o m) ix = some (4, p)) (hw : (r.map fun v => v.category).sum ≤ 8) (kk : z_G X k m (pc + 3) ls (.int (if x < y then y else x) :: r) M Q) : z_G X k m pc ls (.int y :: .int x :: r) M Q := g_go hd rfl (by simp only [z_ins, z_ivk, hb, z_blt, hw, if_true]; rfl) kk
theorem g_min {ix p : Nat} {x y : Int32} (hd : decode (z_b m) pc = .ok (.invokestatic ix, 3)) (hb : z_bk (z_o m) ix = some (5, p)) (hw : (r.map fun v => v.category).sum ≤ 8) (kk : z_G X k m (pc + 3) ls (.int (if y < x then y else x) :: r) M Q) : z_G X k m pc ls (.int y :: .int x :: r) M Q := g_go hd rfl (by simp only [z_ins, z_ivk, hb, z_blt, hw, if_true]; rfl) kk
theorem g_abs {ix p : Nat} {x : Int64} (hd : decode (z_b m) pc = .ok (.invokestatic ix, 3)) (hb : z_bk (z_o m) ix = some (6, p)) (hw : (r.map fun v => v.category).sum ≤ 8) (kk : z_G X k m (pc + 3) ls (.long (if 0 < x then x else -x) :: r) M Q) : z_G X k m pc ls (.long x :: r) M Q := g_go hd rfl (by simp only [z_ins, z_ivk, hb, z_blt, hw, if_true]; rfl) kk
theorem g_slength {ix p : Nat} (hd : decode (z_b m) pc = .ok (.invokevirtual ix, 3)) (hb : z_bk (z_o m) ix = some (2, p)) (hw : (r.map fun v => v.category).sum ≤ 8) (kk : z_G X k m (pc + 3) ls (.int 152 :: r) M Q) : z_G X k m pc ls (.ref 1 :: r) M Q := g_go hd rfl (by simp only [z_ins, z_ivk, hb, z_blt, hw, if_true]; rfl) kk
theorem g_schar {ix p : Nat} {i : Int32} (hd : decode (z_b m) pc = .ok (.invokevirtual ix, 3)) (hb : z_bk (z_o m) ix = some (3, p)) (hi : vp_in i 152) (hw : (r.map fun v => v.category).sum ≤ 8) (kk : z_G X k m (pc + 3) ls (.int (z_txt.getD i.toNatClampNeg 0) :: r) M Q) : z_G X k m pc ls (.int i :: .ref 1 :: r) M Q := by
  refine g_go hd rfl ?_ kk
  have hi : ¬ (i < 0 ∨ 152 ≤ i.toNatClampNeg) := hi
  simp only [z_ins, z_ivk, hb, z_blt, hi, hw, not_false_eq_true, and_self, if_true]
  rfl
theorem g_copy {ix p a n0 : Nat} {n dp sp : Int32} (hd : decode (z_b m) pc = .ok (.invokestatic ix, 3)) (hb : z_bk (z_o m) ix = some (1, p)) (hs : z_sh[a]? = some (.inl (.long, n0))) (h1 : ¬ sp < 0) (h2 : ¬ dp < 0) (h3 : ¬ n < 0) (h4 : sp.toNatClampNeg + n.toNatClampNeg ≤ n0) (h5 : dp.toNatClampNeg + n.toNatClampNeg ≤ n0) (hw : (r.map fun v => v.category).sum ≤ 8) (kk : z_G X k m (pc + 3) ls r (z_wLs M a (va_cpy (M.2 a) (M.2 a) sp.toNatClampNeg dp.toNatClampNeg n.toNatClampNeg)) Q) : z_G X k m pc ls (.int n :: .int dp :: .ref (a + 2) :: .int sp :: .ref (a + 2) :: r) M Q := by
  refine g_go hd rfl ?_ kk
  have e : (z_heap M).set a (.inl (.long, n0, .inr (.inl (va_cpy (M.2 a) (M.2 a) sp.toNatClampNeg dp.toNatClampNeg n.toNatClampNeg)))) = z_heap (z_wLs M a (va_cpy (M.2 a) (M.2 a) sp.toNatClampNeg dp.toNatClampNeg n.toNatClampNeg)) := by
    rw [← z_heap_set hs (M := M) (M' := z_wLs M a (va_cpy (M.2 a) (M.2 a) sp.toNatClampNeg dp.toNatClampNeg n.toNatClampNeg)) (fun b _ => rfl) (fun b hb => if_neg hb)]
    simp only [z_cell, z_wLs, if_true]
  simp only [z_ins, z_ivk, hb, z_blt, z_acp, z_heap_at hs, z_cell, h1, h2, h3, h4, h5, hw, not_false_eq_true, and_self, if_true, e]
  rfl
theorem g_call0 {st : List Value} {i : Instr} {as rest : List Value} {k1 j : Nat} (hd : decode (z_b m) pc = .ok (i, 3)) (hl : z_len i 3 = true) (hz : z_ins X m pc i ls st (z_heap M) = some (.inr (.inr (j, as, rest)))) (hk : k1 < k) (kk : z_Cl k1 (z_ms j) as M (fun v M1 => z_G X k m (pc + 3) ls (v.toList ++ rest) M1 Q)) : z_G X k m pc ls st M Q := by
  intro d hd'
  obtain ⟨d', rfl⟩ : ∃ d', d = d' + 1 := ⟨d - 1, by omega⟩
  obtain ⟨n1, v, M1, e1, h1⟩ := kk d' (by omega)
  obtain ⟨n2, r, M2, e2, h2⟩ := h1 (d' + 1) hd'
  refine ⟨max n1 n2 + 1, r, M2, ?_, h2⟩
  rw [z_ev, z_step, hd]
  simp only [hl, if_true, hz]
  rw [z_ev_le (Nat.le_max_left n1 n2) e1]
  exact z_ev_le (Nat.le_max_right n1 n2) e2
theorem g_callS {st as rest : List Value} {ix j p k1 : Nat} {c : z_M} (hd : decode (z_b m) pc = .ok (.invokestatic ix, 3)) (hb : z_bk (z_o m) ix = none) (hlk : z_lk (z_o m) ix = some (3, j, p)) (hm : z_ms j = c) (hst : st = as.reverse ++ rest) (hn : as.length = z_n c) (hw : (rest.map fun v => v.category).sum ≤ 8) (he : (as.map fun v => v.category).sum ≤ z_x c) (hk : k1 < k) (kk : z_Cl k1 c as M (fun v M1 => z_G X k m (pc + 3) ls (v.toList ++ rest) M1 Q)) : z_G X k m pc ls st M Q := by
  subst hm
  subst hst
  refine g_call0 hd rfl ?_ hk kk
  have e1 : (as.reverse ++ rest).take (z_n (z_ms j)) = as.reverse := by rw [← hn, ← List.length_reverse, List.take_left]
  have e2 : (as.reverse ++ rest).drop (z_n (z_ms j)) = rest := by rw [← hn, ← List.length_reverse, List.drop_left]
  have e3 : z_n (z_ms j) ≤ (as.reverse ++ rest).length := by rw [List.length_append, List.length_reverse]; omega
  simp only [z_ins, z_ivk, hb, z_inv, hlk, e1, e2, e3, List.reverse_reverse, hw, he, and_self, if_true, beq_self_eq_true]
theorem g_callV {st as rest : List Value} {ix j p k1 a : Nat} {c : z_M} {ks : List Nat} (hd : decode (z_b m) pc = .ok (.invokevirtual ix, 3)) (hb : z_bk (z_o m) ix = none) (hlk : z_lk (z_o m) ix = some (0, j, p)) (hm : z_ms j = c) (hs : z_sh[a]? = some (.inr (z_o c, ks))) (hst : st = as.reverse ++ .ref (a + 2) :: rest) (hn : as.length = z_n c) (hw : (rest.map fun v => v.category).sum ≤ 8) (he : ((Value.ref (a + 2) :: as).map fun v => v.category).sum ≤ z_x c) (hk : k1 < k) (kk : z_Cl k1 c (.ref (a + 2) :: as) M (fun v M1 => z_G X k m (pc + 3) ls (v.toList ++ rest) M1 Q)) : z_G X k m pc ls st M Q := by
  subst hm
  subst hst
  refine g_call0 hd rfl ?_ hk kk
  have e1 : (as.reverse ++ .ref (a + 2) :: rest).take (z_n (z_ms j)) = as.reverse := by rw [← hn, ← List.length_reverse, List.take_left]
  have e2 : (as.reverse ++ .ref (a + 2) :: rest).drop (z_n (z_ms j)) = .ref (a + 2) :: rest := by rw [← hn, ← List.length_reverse, List.drop_left]
  have e3 : z_n (z_ms j) ≤ (as.reverse ++ .ref (a + 2) :: rest).length := by rw [List.length_append, List.length_reverse]; omega
  have e4 : z_isC (z_heap M) a (z_o (z_ms j)) = true := by simp only [z_isC, z_heap_at hs, z_cell, beq_self_eq_true]
  have e5 : ¬ (0 = 3) := by decide
  simp only [z_ins, z_ivk, hb, z_inv, hlk, e1, e2, e3, e5, List.reverse_reverse, hw, he, e4, or_true, and_self, if_true, if_false, beq_self_eq_true]
end ZW
