section
variable {w : Nat} {M : z_Mem}
theorem r_th (h : r_Rel M) : r_Rel (z_wI M 137 1 0) :=
  r_st h (fun a ha hb => by simp [wI_row, hb]) (fun k hk => by simp [wI_rd]) (fun k hk hj => by simp [wI_rd, hj]) rfl (by simp [wI_rd, h.1])
theorem call_status (h : r_Rel M) : r_ok (F_X11_status w M) (F_X12_status w) := by
  refine ⟨M.1 0 11, M, z_wI M 137 1 0, rfl, ?_, r_th h⟩
  rw [h.1]; rfl
theorem call_top (h : r_Rel M) : r_ok (F_X11_top w M) (F_X12_top w) := by
  refine ⟨M.2 0 12, M, z_wI M 137 1 0, rfl, ?_, r_th h⟩
  rw [h.2.2.1.1]; rfl
theorem call_bottom (h : r_Rel M) : r_ok (F_X11_bottom w M) (F_X12_bottom w) := by
  refine ⟨M.2 0 13, M, z_wI M 137 1 0, rfl, ?_, r_th h⟩
  rw [h.2.2.1.2]; rfl
theorem call_fault (h : r_Rel M) (a : Int32) : r_ok (F_X11_fault w M a) (fun M => F_X12_fault w M a) := by
  have e : F_X11_fault w M a = some (if a = 0 then M.1 137 10 else if a = 1 then M.1 137 11 else -1, M) := by
    unfold F_X11_fault
    rcases h.2.2.2.2.1 with ⟨e1, e2, e3⟩ | ⟨e1, e2, e3⟩
    · rw [e1, e2, e3, if_neg (by decide)]
      by_cases h0 : a = 0
      · rw [if_pos h0]
      · rw [if_neg h0]
        by_cases h1 : a = 1
        · rw [if_pos h1]
        · rw [if_neg h1]
    · rw [e1, e2, e3, if_pos (by decide)]
      by_cases h0 : a = 0
      · rw [if_pos h0, if_pos h0]
      · rw [if_neg h0, if_neg h0]
        by_cases h1 : a = 1
        · rw [if_pos h1, if_pos h1]
        · rw [if_neg h1, if_neg h1]
  refine ⟨_, M, z_wI M 137 1 0, e, ?_, r_th h⟩
  show F_X12_fault w M a = _
  unfold F_X12_fault
  by_cases h0 : a = 0
  · rw [if_pos h0, if_pos h0]
  · rw [if_neg h0, if_neg h0]
    by_cases h1 : a = 1
    · rw [if_pos h1, if_pos h1]
    · rw [if_neg h1, if_neg h1]
theorem call_many (h : r_Rel M) (a : Int32) : r_ok (F_X11_many w M a) (fun M => F_X12_many w M a) := by
  obtain ⟨P, hc, hb, hv⟩ := h.2.2.2.2.2.2.1
  by_cases hr : (0 : Int32) ≤ a ∧ a ≤ 11
  · have hq := r_stv 0 h
    obtain ⟨⟨s5, s6, s7, s8, s9, s10, s11, _⟩, ⟨r0, _⟩, ⟨d0, d1, _⟩, ⟨c0, c1, c2, _⟩, _⟩ := hc
    obtain ⟨⟨u5, u6, u7, u8, u9, u11, _⟩, ⟨v0, _⟩, ⟨x0, x1, _⟩, ⟨y0, y1, y2, _⟩, _⟩ := hb
    rcases i_lit11 hr with rfl | rfl | rfl | rfl | rfl | rfl | rfl | rfl | rfl | rfl | rfl | rfl
    · exact ⟨_, _, z_st M 0, rfl, (show _ = some (_, _) from congrArg (fun v => some (v, z_st M 0)) (v0.trans r0.symm)), hq⟩
    · exact ⟨_, _, z_st M 0, rfl, (show _ = some (_, _) from congrArg (fun v => some (v, z_st M 0)) (x0.trans d0.symm)), hq⟩
    · exact ⟨_, _, z_st M 0, rfl, (show _ = some (_, _) from congrArg (fun v => some (v, z_st M 0)) (y0.trans c0.symm)), hq⟩
    · exact ⟨_, _, z_st M 0, rfl, (show _ = some (_, _) from congrArg (fun v => some (v, z_st M 0)) (y1.trans c1.symm)), hq⟩
    · exact ⟨_, _, z_st M 0, rfl, (show _ = some (_, _) from congrArg (fun v => some (v, z_st M 0)) (y2.trans c2.symm)), hq⟩
    · exact ⟨_, _, z_st M 0, rfl, (show _ = some (_, _) from congrArg (fun v => some (v, z_st M 0)) (u5.trans s5.symm)), hq⟩
    · exact ⟨_, _, z_st M 0, rfl, (show _ = some (_, _) from congrArg (fun v => some (v, z_st M 0)) (u6.trans s6.symm)), hq⟩
    · exact ⟨_, _, z_st M 0, rfl, (show _ = some (_, _) from congrArg (fun v => some (v, z_st M 0)) (u7.trans s7.symm)), hq⟩
    · exact ⟨_, _, z_st M 0, rfl, (show _ = some (_, _) from congrArg (fun v => some (v, z_st M 0)) (u8.trans s8.symm)), hq⟩
    · exact ⟨_, _, z_st M 0, rfl, (show _ = some (_, _) from congrArg (fun v => some (v, z_st M 0)) (u9.trans s10.symm)), hq⟩
    · exact ⟨_, _, z_st M 0, rfl, (show _ = some (_, _) from congrArg (fun v => some (v, z_st M 0)) (x1.trans d1.symm)), hq⟩
    · exact ⟨_, _, z_st M 0, rfl, (show _ = some (_, _) from congrArg (fun v => some (v, z_st M 0)) (u11.trans s11.symm)), hq⟩
  · refine ⟨-1, z_wI M 0 11 5, z_st M 5, ?_, ?_, r_stv 5 h⟩
    · unfold F_X11_many
      rw [if_neg (i_ne 0 hr (by decide)), if_neg (i_ne 1 hr (by decide)), if_neg (i_ne 2 hr (by decide)), if_neg (i_ne 3 hr (by decide)), if_neg (i_ne 4 hr (by decide)), if_neg (i_ne 5 hr (by decide)), if_neg (i_ne 6 hr (by decide)), if_neg (i_ne 7 hr (by decide)), if_neg (i_ne 8 hr (by decide)), if_neg (i_ne 9 hr (by decide)), if_neg (i_ne 10 hr (by decide)), if_neg (i_ne 11 hr (by decide))]
      rfl
    · have ev := f_isIn w (z_wI (z_wI (z_wI M 0 11 5) 137 1 0) 137 0 0) a 0 11
      rw [decide_eq_false hr] at ev
      show (F_X12_isIn w (z_wI (z_wI (z_wI M 0 11 5) 137 1 0) 137 0 0) a.toInt64 0 11).bind _ = _
      have ev2 : F_X12_isIn w (z_wI (z_wI (z_wI M 0 11 5) 137 1 0) 137 0 0) a.toInt64 0 11 = some (false, z_wI (z_wI (z_wI M 0 11 5) 137 1 0) 137 0 0) := ev
      rw [ev2, ← st_v]
      rfl
end
