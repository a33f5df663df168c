/-! ===== the memory with which the law's loop begins ===== -/
def z_kd (ci k : Nat) (v : Value) : Nat := match v with
  | .int _ => if z_ty ci k = .boolean then 1 else 0
  | .long _ => 2
  | .ref r => r + 3
  | _ => 2
def z_shapeOf (c : z_C) : z_Sh := match c with
  | .inl (ty, n, _) => .inl (ty, n)
  | .inr (ci, fs) => .inr (ci, fs.mapIdx (fun k v => z_kd ci k v))
def z_okv (ci k : Nat) (v : Value) : Bool := match v with
  | .int x => if z_ty ci k = .boolean then (x == 0 || x == 1) else true
  | .long _ => true
  | .ref _ => true
  | _ => false
def z_okvs (ci : Nat) : Nat → List Value → Bool
  | _, [] => true
  | k, v :: r => z_okv ci k v && z_okvs ci (k + 1) r
def z_okc (c : z_C) : Bool := match c with
  | .inl (.int, _, .inl _) => true
  | .inl (.byte, _, .inl _) => true
  | .inl (.long, _, .inr (.inl _)) => true
  | .inl (.object _, n, .inr (.inr f)) => decide (n = 3) && decide (f 0 = some 70) && decide (f 1 = some 93) && decide (f 2 = some 116)
  | .inr (ci, fs) => z_okvs ci 0 fs
  | _ => false
def z_memOf (h : z_H) : z_Mem := (fun a k => match h[a]? with
    | some (.inl (_, _, .inl f)) => f k
    | some (.inr (_, fs)) => match fs[k]? with
      | some (.int x) => x
      | _ => 0
    | _ => 0, fun a k => match h[a]? with
    | some (.inl (_, _, .inr (.inl f))) => f k
    | some (.inr (_, fs)) => match fs[k]? with
      | some (.long x) => x
      | _ => 0
    | _ => 0)
theorem z_okvs_get {ci : Nat} : ∀ (fs : List Value) (j k : Nat) (v : Value), z_okvs ci j fs = true → fs[k]? = some v → z_okv ci (j + k) v = true := by
  intro fs
  induction fs with
  | nil => intro j k v _ h; simp at h
  | cons w r ih =>
    intro j k v h hk
    rw [z_okvs, Bool.and_eq_true] at h
    cases k with
    | zero => simp at hk; subst hk; exact h.1
    | succ k =>
      have := ih (j + 1) k v h.2 (by simpa using hk)
      rwa [show j + 1 + k = j + (k + 1) by omega] at this
theorem z_cell_of {h : z_H} {a : Nat} {c : z_C} (hc : h[a]? = some c) (hok : z_okc c = true) (hr : z_rc c) : z_cell (z_memOf h) a (z_shapeOf c) = c := by
  unfold z_okc at hok
  split at hok
  · rename_i n f
    have e : (z_memOf h).1 a = f := by funext k; simp only [z_memOf, hc]
    simp only [z_shapeOf, z_cell]
    rw [e]
  · rename_i n f
    have e : (z_memOf h).1 a = f := by funext k; simp only [z_memOf, hc]
    simp only [z_shapeOf, z_cell]
    rw [e]
  · rename_i n f
    have e : (z_memOf h).2 a = f := by funext k; simp only [z_memOf, hc]
    simp only [z_shapeOf, z_cell]
    rw [e]
  · rename_i s n f
    simp only [Bool.and_eq_true, decide_eq_true_eq] at hok
    obtain ⟨⟨⟨hn, h0⟩, h1⟩, h2⟩ := hok
    have hf : z_marks = f := by
      funext j
      unfold z_marks
      by_cases g0 : j = 0
      · rw [if_pos g0, g0, h0]
      · rw [if_neg g0]
        by_cases g1 : j = 1
        · rw [if_pos g1, g1, h1]
        · rw [if_neg g1]
          by_cases g2 : j = 2
          · rw [if_pos g2, g2, h2]
          · rw [if_neg g2]
            have hr : ∀ j, n ≤ j → f j = none := hr
            exact (hr j (by omega)).symm
    simp only [z_shapeOf, z_cell]
    rw [hf]
  · rename_i ci fs
    simp only [z_shapeOf, z_cell]
    congr 2
    apply List.ext_getElem?
    intro k
    rw [z_fvs_get, List.getElem?_mapIdx, Nat.zero_add]
    cases hk : fs[k]? with
    | none => rfl
    | some v =>
      have hv := z_okvs_get fs 0 k v hok hk
      rw [Nat.zero_add] at hv
      show some _ = some _
      congr 1
      cases v with
      | int x =>
        have e : (z_memOf h).1 a k = x := by simp only [z_memOf, hc, hk]
        unfold z_okv at hv
        unfold z_kd
        dsimp only at hv ⊢
        by_cases hb : z_ty ci k = .boolean
        · rw [if_pos hb] at hv ⊢
          show Value.int (z_bz ((z_memOf h).1 a k)) = .int x
          rw [e]
          simp only [Bool.or_eq_true, beq_iff_eq] at hv
          rcases hv with rfl | rfl <;> rfl
        · rw [if_neg hb]
          show Value.int ((z_memOf h).1 a k) = .int x
          rw [e]
      | long x =>
        have e : (z_memOf h).2 a k = x := by simp only [z_memOf, hc, hk]
        show Value.long ((z_memOf h).2 a k) = .long x
        rw [e]
      | ref r => rfl
      | _ => cases hv
  · cases hok
theorem z_heap_of {h : z_H} (hs : h.map z_shapeOf = z_sh) (hok : ∀ c ∈ h, z_okc c = true) (hr : z_rn h) : h = z_heap (z_memOf h) := by
  apply List.ext_getElem?
  intro a
  rw [z_heap_get, ← hs, List.getElem?_map]
  cases hc : h[a]? with
  | none => rfl
  | some c =>
    have hm := List.mem_of_getElem? hc
    show some c = some _
    rw [z_cell_of hc (hok c hm) (hr c hm)]
def z_f0 : List (Nat × Nat × Int32) := [(0, 10, 0), (0, 11, 0), (0, 14, 0), (0, 15, -1), (0, 16, 0), (3, 0, -1), (3, 1, -1), (3, 2, -1), (3, 3, -1), (4, 0, 0), (4, 1, 0), (4, 2, 0), (4, 3, 0), (5, 1, 0), (5, 2, 0), (5, 3, 0), (5, 4, 0), (5, 5, 0), (5, 6, 0), (5, 7, 0), (5, 8, 0), (7, 5, 8), (7, 6, 2), (7, 7, 5), (7, 8, 0), (7, 9, 0), (7, 10, 0), (7, 11, 0), (8, 0, 0), (8, 1, 0), (9, 5, 0), (15, 3, 0), (15, 4, 0), (19, 4, 0), (19, 5, 0), (19, 6, 0), (24, 5, 0), (24, 6, 0), (24, 7, 0), (30, 5, 8), (30, 6, 2), (30, 7, 5), (30, 8, 0), (30, 9, 0), (30, 10, 0), (30, 11, 0), (32, 5, 0), (38, 3, 0), (38, 4, 0), (42, 4, 0), (42, 5, 0), (42, 6, 0), (47, 5, 0), (47, 6, 0), (47, 7, 0), (53, 4, 0), (56, 3, 0), (56, 4, 0), (56, 5, 0), (56, 6, 0), (59, 4, 0), (59, 5, 0), (64, 1, 0), (64, 2, 0), (64, 3, 0), (64, 4, 0), (64, 5, 0), (64, 6, 0), (64, 7, 0), (64, 8, 0), (66, 1, 0), (66, 2, 0), (66, 3, 0), (66, 4, 0), (66, 5, 0), (66, 6, 0), (66, 7, 0), (66, 8, 0), (68, 5, 8), (68, 6, 2), (68, 7, 5), (68, 8, 0), (68, 9, 0), (68, 10, 0), (68, 11, 0), (70, 5, 0), (76, 3, 0), (76, 4, 0), (80, 4, 0), (80, 5, 0), (80, 6, 0), (85, 5, 0), (85, 6, 0), (85, 7, 0), (91, 5, 8), (91, 6, 2), (91, 7, 5), (91, 8, 0), (91, 9, 0), (91, 10, 0), (91, 11, 0), (93, 5, 0), (99, 3, 0), (99, 4, 0), (103, 4, 0), (103, 5, 0), (103, 6, 0), (108, 5, 0), (108, 6, 0), (108, 7, 0), (114, 5, 8), (114, 6, 2), (114, 7, 5), (114, 8, 0), (114, 9, 0), (114, 10, 0), (114, 11, 0), (116, 5, 0), (122, 3, 0), (122, 4, 0), (126, 4, 0), (126, 5, 0), (126, 6, 0), (131, 5, 0), (131, 6, 0), (131, 7, 0), (137, 0, 0), (137, 1, 0), (137, 8, 0), (137, 9, 0), (137, 10, -1), (137, 11, -1), (137, 12, 0), (137, 13, 0), (137, 14, 0), (137, 15, 0), (137, 16, 0), (137, 17, 0), (137, 18, 0), (137, 23, 0), (137, 24, 0), (137, 25, 0), (137, 28, 0), (137, 30, 0), (137, 31, 0), (137, 32, 0), (137, 33, 0), (137, 34, 0), (137, 35, 0), (137, 36, 0), (137, 37, 0), (137, 38, 0), (138, 0, 0), (138, 1, 0), (138, 2, 0), (138, 3, 0), (139, 0, -1), (139, 1, -1), (139, 2, -1), (139, 3, -1)]
def z_f1 : List (Nat × Nat × Int64) := [(0, 12, 0), (0, 13, 1), (137, 2, 0), (137, 3, 1), (137, 19, 0)]
def z_ls18 : z_L := [some (.ref 0), some (.ref 2), some (.ref 139), some (.int 0)]
def z_rA : Option (z_L × z_H) := z_to 8 3000 none 60 mL_law 0 (z_ent mL_law [.ref 0]) [] []
def z_hA : z_H := (z_rA.getD ([], [])).2
def z_hB : z_H := z_hA ++ [.inr (12, (List.range 39).map (fun k => z_def (z_ty 12 k)))]
def z_rC : Option (z_L × z_H) := z_to 121 3000 none 59 mX12_init 0 (z_ent mX12_init [.ref 139]) [] z_hB
def z_hC : z_H := (z_rC.getD ([], [])).2
/-- a row of ints, of longs, that holds zeros -/
def z_zi (h : z_H) (a n : Nat) : Bool := match h[a]? with
  | some (.inl (_, _, .inl f)) => (List.range n).all (fun k => decide (f k = 0))
  | _ => false
def z_zl (h : z_H) (a n : Nat) : Bool := match h[a]? with
  | some (.inl (_, _, .inr (.inl f))) => (List.range n).all (fun k => decide (f k = 0))
  | _ => false
theorem z_zi_of {h : z_H} {a n : Nat} (e : z_zi h a n = true) : ∀ k, k < n → (z_memOf h).1 a k = 0 := by
  intro k hk
  unfold z_zi at e
  split at e
  · rename_i f hf
    rw [List.all_eq_true] at e
    have := e k (List.mem_range.mpr hk)
    simp only [z_memOf, hf]
    exact of_decide_eq_true this
  · cases e
theorem z_zl_of {h : z_H} {a n : Nat} (e : z_zl h a n = true) : ∀ k, k < n → (z_memOf h).2 a k = 0 := by
  intro k hk
  unfold z_zl at e
  split at e
  · rename_i f hf
    rw [List.all_eq_true] at e
    have := e k (List.mem_range.mpr hk)
    simp only [z_memOf, hf]
    exact of_decide_eq_true this
  · cases e
def z_Z (MC : z_Mem) : Prop := (∀ k, k < 900 → MC.1 6 k = 0) ∧ (∀ k, k < 900 → MC.1 141 k = 0) ∧ (∀ k, k < 240 → MC.2 2 k = 0) ∧ ∀ k, k < 240 → MC.2 140 k = 0
def z_chk0 (q : Option (z_L × z_H)) : Bool := match q with
  | some q => decide (q.1 = [some (.ref 139), some (.int 4)]) && decide (q.2.map z_shapeOf = z_sh) && q.2.all z_okc && z_f0.all (fun f => decide ((z_memOf q.2).1 f.1 f.2.1 = f.2.2)) && z_f1.all (fun f => decide ((z_memOf q.2).2 f.1 f.2.1 = f.2.2)) && (z_zi q.2 6 900 && z_zi q.2 141 900 && z_zl q.2 2 240 && z_zl q.2 140 240)
  | none => false
def z_chkA (q : Option (z_L × z_H)) : Bool := match q with
  | some q => decide (q.1 = [some (.ref 0), some (.ref 2), none, none]) && decide (q.2.length = 137)
  | none => false
set_option maxRecDepth 100000 in
theorem z_run0_ok : (z_chkA z_rA && z_chk0 z_rC) = true := by decide +kernel
theorem z_chkA_inv {q : Option (z_L × z_H)} (h : z_chkA q = true) : ∃ hA, q = some ([some (.ref 0), some (.ref 2), none, none], hA) ∧ hA.length = 137 := by
  unfold z_chkA at h
  split at h
  · simp only [Bool.and_eq_true, decide_eq_true_eq] at h
    obtain ⟨h1, h2⟩ := h
    exact ⟨_, by rw [← h1], h2⟩
  · cases h
theorem z_chk0_inv {q : Option (z_L × z_H)} (h : z_chk0 q = true) : ∃ hC, q = some ([some (.ref 139), some (.int 4)], hC) ∧ hC.map z_shapeOf = z_sh ∧ (∀ c ∈ hC, z_okc c = true) ∧ (∀ f ∈ z_f0, (z_memOf hC).1 f.1 f.2.1 = f.2.2) ∧ (∀ f ∈ z_f1, (z_memOf hC).2 f.1 f.2.1 = f.2.2) ∧ z_Z (z_memOf hC) := by
  unfold z_chk0 at h
  split at h
  · simp only [Bool.and_eq_true, decide_eq_true_eq, List.all_eq_true] at h
    obtain ⟨⟨⟨⟨⟨h1, h2⟩, h3⟩, h4⟩, h5⟩, ⟨⟨h6, h7⟩, h8⟩, h9⟩ := h
    exact ⟨_, by rw [← h1], h2, h3, h4, h5, z_zi_of h6, z_zi_of h7, z_zl_of h8, z_zl_of h9⟩
  · cases h
theorem dX12_init_121 : decode cX12_init 121 = .ok (.aload_n 0, 1) := by decide +kernel
theorem dX12_init_122 : decode cX12_init 122 = .ok (.iconst 0, 1) := by decide +kernel
theorem dX12_init_123 : decode cX12_init 123 = .ok (.invokevirtual 53, 3) := by decide +kernel
theorem dX12_init_126 : decode cX12_init 126 = .ok (.return_, 1) := by decide +kernel
theorem dL_law_8 : decode cL_law 8 = .ok (.new 10, 3) := by decide +kernel
theorem dL_law_11 : decode cL_law 11 = .ok (.dup, 1) := by decide +kernel
theorem dL_law_12 : decode cL_law 12 = .ok (.invokespecial 12, 3) := by decide +kernel
theorem dL_law_15 : decode cL_law 15 = .ok (.astore_n 2, 1) := by decide +kernel
theorem dL_law_16 : decode cL_law 16 = .ok (.iconst 0, 1) := by decide +kernel
theorem dL_law_17 : decode cL_law 17 = .ok (.istore_n 3, 1) := by decide +kernel
theorem z_ev_go {n : Nat} {X : z_S} {d : Nat} {m : z_M} {pc : Nat} {ls : z_L} {st : List Value} {h : z_H} {r : Option Value × z_H} {i : Instr} {len : Nat} {q : Nat × z_L × List Value × z_H} (hd : decode (z_b m) pc = .ok (i, len)) (hl : z_len i len = true) (hz : z_ins X m pc i ls st h = some (.inr (.inl q))) (kk : z_ev n X d m q.1 q.2.1 q.2.2.1 q.2.2.2 = some r) : z_ev (n + 1) X d m pc ls st h = some r := by
  rw [z_ev, z_step, hd]
  simp only [hl, if_true, hz]
  exact kk
theorem z_ev_call {n : Nat} {X : z_S} {d : Nat} {m : z_M} {pc : Nat} {ls : z_L} {st : List Value} {h : z_H} {r : Option Value × z_H} {i : Instr} {len j : Nat} {as rest : List Value} {v : Option Value} {h1 : z_H} (hd : decode (z_b m) pc = .ok (i, len)) (hl : z_len i len = true) (hz : z_ins X m pc i ls st h = some (.inr (.inr (j, as, rest)))) (hc : z_ev n none d (z_ms j) 0 (z_ent (z_ms j) as) [] h = some (v, h1)) (kk : z_ev n X (d + 1) m (pc + 3) ls (v.toList ++ rest) h1 = some r) : z_ev (n + 1) X (d + 1) m pc ls st h = some r := by
  rw [z_ev, z_step, hd]
  simp only [hl, if_true, hz, hc]
  exact kk
/-- the law's loop begins with this memory: MC is the memory behind the model's field initialisers, and empties(0) is done to it -/
theorem z_begin : ∃ MC : z_Mem, (∀ f ∈ z_f0, MC.1 f.1 f.2.1 = f.2.2) ∧ (∀ f ∈ z_f1, MC.2 f.1 f.2.1 = f.2.2) ∧ z_Z MC ∧ ∀ (M0 : z_Mem) (w : Nat), F_X12_empties w MC 0 = some ((), M0) → ∀ (X : z_S) (k : Nat) (r : Option Value × z_H), z_ev k X 60 mL_law 18 z_ls18 [] (z_heap M0) = some r → ∃ n, z_ev n X 60 mL_law 0 (z_ent mL_law [.ref 0]) [] [] = some r := by
  have hk := z_run0_ok
  rw [Bool.and_eq_true] at hk
  obtain ⟨hA, hrA, hlen⟩ := z_chkA_inv hk.1
  obtain ⟨hC, hrC, h2, h3, h4, h5, h6⟩ := z_chk0_inv hk.2
  have hrnA : z_rn hA := z_to_rn 3000 none 60 mL_law 0 _ [] [] _ (fun c hc => by cases hc) hrA
  have ehA : z_hA = hA := by unfold z_hA; rw [hrA]; rfl
  have hrnB : z_rn z_hB := by unfold z_hB; rw [ehA]; exact z_rn_push hrnA trivial
  have hrnC : z_rn hC := z_to_rn 3000 none 59 mX12_init 0 _ [] z_hB _ hrnB hrC
  have hhC : hC = z_heap (z_memOf hC) := z_heap_of h2 h3 hrnC
  refine ⟨z_memOf hC, h4, h5, h6, fun M0 w hE X k r hr => ?_⟩
  generalize z_memOf hC = MC at hE hhC
  have hG : z_G none 1 mX12_init 121 [some (.ref 139), some (.int 4)] [] MC (fun v M' => v = none ∧ M' = M0) := by
    refine g_aload_n dX12_init_121 rfl rfl ?_
    refine g_iconst (v := (0 : Int32)) dX12_init_122 (by decide) ?_
    refine g_callV (a := 137) (as := [.int (0 : Int32)]) (rest := []) (c := mX12_empties) (k1 := 0) dX12_init_123 rfl rfl rfl sh_137 rfl rfl (Nat.le_of_ble_eq_true rfl) (Nat.le_of_ble_eq_true rfl) (by decide) ?_
    refine A_X12_empties hE ?_
    show z_G none 1 mX12_init 126 [some (.ref 139), some (.int 4)] [] M0 (fun v M' => v = none ∧ M' = M0)
    exact g_vret dX12_init_126 rfl ⟨rfl, rfl⟩
  obtain ⟨n1, v1, M1, e1, rfl, rfl⟩ := hG 59 (by omega)
  have e2 : z_ev (3000 + n1) none 59 mX12_init 0 (z_ent mX12_init [.ref 139]) [] z_hB = some (none, z_heap M1) := z_to_ok 3000 none 59 mX12_init 0 _ [] z_hB _ hrC n1 _ (by rw [hhC]; exact e1)
  -- the law from 8 on
  have hin : z_ins X mL_law 12 (.invokespecial 12) [some (.ref 0), some (.ref 2), none, none] [.ref 139, .ref 139] z_hB = some (.inr (.inr (187, [.ref 139], [.ref 139]))) := by
    have a1 : z_bk (z_o mL_law) 12 = none := rfl
    have a2 : z_lk (z_o mL_law) 12 = some (1, 187, 5085) := rfl
    have a3 : z_n (z_ms 187) = 0 := rfl
    have a4 : z_x (z_ms 187) = 2 := rfl
    simp only [z_ins, z_ivk, a1, z_inv, a2, a3, a4]
    rfl
  have e3 : z_ev (3000 + n1 + k + 10) X 60 mL_law 12 [some (.ref 0), some (.ref 2), none, none] [.ref 139, .ref 139] z_hB = some r := by
    refine z_ev_call (n := 3000 + n1 + k + 9) (d := 59) dL_law_12 rfl hin (z_ev_le (show 3000 + n1 ≤ 3000 + n1 + k + 9 by omega) e2) ?_
    show z_ev (3000 + n1 + k + 9) X 60 mL_law 15 [some (.ref 0), some (.ref 2), none, none] [.ref 139] (z_heap M1) = some r
    refine z_ev_le (show k + 3 ≤ 3000 + n1 + k + 9 by omega) ?_
    refine z_ev_go (n := k + 2) (q := (16, [some (.ref 0), some (.ref 2), some (.ref 139), none], [], z_heap M1)) dL_law_15 rfl rfl ?_
    refine z_ev_go (n := k + 1) (q := (17, [some (.ref 0), some (.ref 2), some (.ref 139), none], [.int 0], z_heap M1)) dL_law_16 rfl rfl ?_
    exact z_ev_go (n := k) (q := (18, z_ls18, [], z_heap M1)) dL_law_17 rfl rfl hr
  have e4 : z_ev (3000 + n1 + k + 12) X 60 mL_law 8 [some (.ref 0), some (.ref 2), none, none] [] z_hA = some r := by
    refine z_ev_go (n := 3000 + n1 + k + 11) (q := (11, [some (.ref 0), some (.ref 2), none, none], [.ref 139], z_hB)) dL_law_8 rfl ?_ ?_
    · have b1 : z_nw (z_o mL_law) 10 = some (12, (5083, 5084, 13)) := rfl
      simp only [z_ins, z_new, b1, ehA, hlen]
      unfold z_hB
      rw [ehA]
      rfl
    · exact z_ev_go (n := 3000 + n1 + k + 10) (q := (12, [some (.ref 0), some (.ref 2), none, none], [.ref 139, .ref 139], z_hB)) dL_law_11 rfl rfl e3
  rw [ehA] at e4
  exact ⟨3000 + (3000 + n1 + k + 12), z_to_ok 3000 X 60 mL_law 0 _ [] [] _ (z_to_X X 3000 60 mL_law 0 _ [] [] _ hrA) _ _ e4⟩
