/-! ===== WHAT STANDS BEFORE A CALL STANDS BEHIND IT ===== -/
theorem zS_inv {z : aZ} {k : Nat} {s : aSheet} (h : zInv z) (hs : sInv s) : zInv (zS z k s) := by
  refine ⟨h.1, h.2.1, h.2.2.1, fun j hj => ?_⟩
  show sInv (if j = k then s else z.2.2.2 j)
  split
  · exact hs
  · exact h.2.2.2 j hj
theorem inv_undo {z : aZ} {as : List Int32} (h : zInv z) : zInv (F_undo z as).2 := by
  unfold F_undo
  split
  · split
    · exact h
    · exact ⟨h.1, lInv_take _ h.2.1, h.2.2.1, h.2.2.2⟩
  · exact h
theorem inv_image {z : aZ} {as : List Int32} (h : zInv z) : zInv (F_image z as).2 := by
  unfold F_image
  split
  · exact ⟨h.1, h.2.1, fun l hl => (by cases hl; exact h.2.1), h.2.2.2⟩
  · exact h
theorem inv_back {z : aZ} {as : List Int32} (h : zInv z) : zInv (F_back z as).2 := by
  unfold F_back
  split
  · split
    · exact h
    · rename_i l hl
      exact ⟨h.1, h.2.2.1 l hl, fun l' hl' => (by cases hl'; exact h.2.2.1 l hl), h.2.2.2⟩
  · exact h
theorem inv_film {z : aZ} {as : List Int32} (h : zInv z) : zInv (F_film z as).2 := by
  unfold F_film
  split
  · split
    · exact h
    · refine zS_inv h ⟨Or.inr (Or.inl rfl), ?_, fun _ j hj => ?_⟩
      · show tFull (zT z.2.1) ≤ 40
        have := h.T.len
        unfold tFull
        omega
      · have hj' : j < tFull (zT z.2.1) := hj
        have hok : aOkS (zT z.2.1).2.2.1 := by
          rcases h.T.2.2.2.2.1 with q | q
          · unfold tFull at hj'
            rw [q] at hj'
            exact absurd hj' (by simp)
          · exact q
        have hw : tWin (zT z.2.1) j < 4 := aLd_lt hok.2.1 _
        show -128 ≤ (nI (tWin (zT z.2.1) j)).toInt ∧ (nI (tWin (zT z.2.1) j)).toInt ≤ 127
        rw [nI_toInt (by omega)]
        omega
  · exact h
theorem inv_sheet {z : aZ} {as : List Int32} (h : zInv z) : zInv (F_sheet z as).2 := by
  unfold F_sheet
  split
  · rename_i s t n
    split
    · exact h
    · rename_i k hk
      split
      · exact zS_inv h ⟨Or.inl rfl, Nat.zero_le _, fun e => absurd e (show ¬ ((-1 : Int32) = 0) by decide)⟩
      · rcases ix_cs t (n := 2) (by decide) with ⟨_, e⟩ | ⟨j, hj, rfl, e⟩
        · rw [e]
          exact h
        · rw [e]
          dsimp only
          split
          · exact h
          · split
            · exact h
            · rename_i h1 h2
              refine zS_inv h ⟨?_, ?_, fun _ j _ => ?_⟩
              · rcases (by omega : j = 0 ∨ j = 1) with rfl | rfl
                · exact Or.inr (Or.inl rfl)
                · exact Or.inr (Or.inr rfl)
              · show ub n ≤ 40
                rcases ix_cs n (n := 41) (by decide) with ⟨h3, -⟩ | ⟨m, hm, rfl, -⟩
                · exfalso
                  simp (disch := omega) only [fa_lt, fa_le, nI_toInt, Int32.toInt_zero] at h1 h2 h3
                  omega
                · rw [ub_nI (by omega)]
                  omega
              · show -128 ≤ (0 : Int32).toInt ∧ (0 : Int32).toInt ≤ 127
                decide
  · exact h
theorem inv_cell {z : aZ} {as : List Int32} (h : zInv z) : zInv (F_cell z as).2 := by
  unfold F_cell
  split
  · rename_i s i v
    rcases ix_cs s (n := 4) (by decide) with ⟨_, e⟩ | ⟨k, hk, rfl, e⟩
    · rw [e]
      exact h
    · rw [e]
      dsimp only
      split
      · exact h
      · split
        · exact h
        · rename_i j hj
          have hs := h.2.2.2 k hk
          refine zS_inv h ⟨hs.1, hs.2.1, fun e0 l hl => ?_⟩
          have e0' : (z.2.2.2 k).1 = 0 := e0
          show -128 ≤ (upd (z.2.2.2 k).2.2 j (if (z.2.2.2 k).1 = 0 then v.toInt8.toInt32 else v) l).toInt ∧ (upd (z.2.2.2 k).2.2 j (if (z.2.2.2 k).1 = 0 then v.toInt8.toInt32 else v) l).toInt ≤ 127
          by_cases el : l = j
          · rw [el, upd_s, if_pos e0']
            exact byte_rng v
          · rw [upd_n el]
            exact hs.2.2 e0' l hl
  · exact h
theorem inv_copy {z : aZ} {as : List Int32} (h : zInv z) : zInv (F_copy z as).2 := by
  unfold F_copy
  split
  · rename_i s i o j n
    rcases ix_cs s (n := 4) (by decide) with ⟨_, e⟩ | ⟨k, hk, rfl, e⟩
    · rw [e]
      exact h
    rw [e]
    dsimp only
    rcases ix_cs o (n := 4) (by decide) with ⟨_, e2⟩ | ⟨q, hq, rfl, e2⟩
    · rw [e2]
      exact h
    rw [e2]
    dsimp only
    split
    · exact h
    split
    · exact h
    · rename_i hs1 hs2
      have hsame := Classical.not_not.mp hs2
      split
      · rename_i hd
        have hsk := h.2.2.2 k hk
        have hsq := h.2.2.2 q hq
        have h40 := hsk.2.1
        have h41 := hsq.2.1
        obtain ⟨a, m, rfl, rfl, ham⟩ := dHld_t hsk.2.1 hd.1
        obtain ⟨b, m', rfl, hm', hbm⟩ := dHld_t hsq.2.1 hd.2
        have hmm : m = m' := by
          have := congrArg ub hm'
          rw [ub_nI (by omega), ub_nI (by omega)] at this
          exact this
        subst hmm
        refine zS_inv h ⟨hsq.1, hsq.2.1, fun e0 l hl => ?_⟩
        have e0' : (z.2.2.2 q).1 = 0 := e0
        have hl' : l < (z.2.2.2 q).2.1 := hl
        show -128 ≤ (va_cpy (z.2.2.2 k).2.2 (z.2.2.2 q).2.2 (ub (nI a)) (ub (nI b)) (ub (nI m)) l).toInt ∧ (va_cpy (z.2.2.2 k).2.2 (z.2.2.2 q).2.2 (ub (nI a)) (ub (nI b)) (ub (nI m)) l).toInt ≤ 127
        rw [ub_nI (by omega), ub_nI (by omega), ub_nI (by omega)]
        by_cases hin : b ≤ l ∧ l < b + m
        · rw [pk_cpy_in hin.1 hin.2]
          exact hsk.2.2 (by rw [hsame]; exact e0') _ (by omega)
        · unfold va_cpy
          rw [if_neg hin]
          exact hsq.2.2 e0' l hl'
      · exact h
  · exact h
theorem fByte_t {v : Int32} (h : ¬ fByte v = 0) : 0 ≤ v.toInt ∧ v.toInt ≤ 255 := by
  unfold fByte at h
  rw [mb_0] at h
  have h := Classical.not_not.mp h
  simp only [fa_le, Int32.toInt_zero] at h
  rw [nI_toInt (by decide)] at h
  exact h
theorem inv_feed {z : aZ} {as : List Int32} (h : zInv z) : zInv (F_feed z as).2 := by
  unfold F_feed
  split
  · rename_i n a b c d e
    split
    · exact h
    · rename_i k hk
      split
      · exact h
      · rename_i hb
        split
        · exact h
        · rename_i h40
          have ha := fByte_t (fun y => hb (Or.inl y))
          have hb' := fByte_t (fun y => hb (Or.inr (Or.inl y)))
          have hc := fByte_t (fun y => hb (Or.inr (Or.inr (Or.inl y))))
          have hd := fByte_t (fun y => hb (Or.inr (Or.inr (Or.inr (Or.inl y)))))
          have he := fByte_t (fun y => hb (Or.inr (Or.inr (Or.inr (Or.inr y)))))
          refine ⟨⟨?_, fun v hv => ?_⟩, h.2⟩
          · show (z.1 ++ [a, b, c, d, e].take (k + 1)).length ≤ 40
            rw [List.length_append, List.length_take]
            have : min (k + 1) [a, b, c, d, e].length ≤ k + 1 := Nat.min_le_left _ _
            omega
          · have hv' : v ∈ z.1 ++ [a, b, c, d, e].take (k + 1) := hv
            rcases List.mem_append.mp hv' with q | q
            · exact h.1.2 v q
            · have q := List.mem_of_mem_take q
              simp only [List.mem_cons, List.not_mem_nil, or_false] at q
              rcases q with rfl | rfl | rfl | rfl | rfl
              · exact ha
              · exact hb'
              · exact hc
              · exact hd
              · exact he
  · exact h
theorem inv_act {z : aZ} {as : List Int32} (h : zInv z) : zInv (F_act z as).2 := by
  unfold F_act
  split
  · split
    · exact ⟨⟨Nat.zero_le _, fun b hb => absurd hb List.not_mem_nil⟩, h.2⟩
    · rename_i x hx
      split
      · rename_i hr
        split
        · rename_i hf
          obtain ⟨w, hw, hxw, hok⟩ := sRead_ok hx
          have hub : ub x.2.1 = w := by rw [hxw, ub_nI (by omega)]
          rw [hub] at hr hf
          obtain ⟨h1, h2, h3⟩ := rRef_0 hr
          refine ⟨⟨Nat.zero_le _, fun b hb => absurd hb List.not_mem_nil⟩, ?_, h.2.2.1, h.2.2.2⟩
          exact lInv_add h.2.1 h1 (by rw [hub]; exact fit_of h.T hw h2 h3 hf hok)
        · exact ⟨⟨Nat.zero_le _, fun b hb => absurd hb List.not_mem_nil⟩, h.2⟩
      · exact ⟨⟨Nat.zero_le _, fun b hb => absurd hb List.not_mem_nil⟩, h.2⟩
  · exact h
