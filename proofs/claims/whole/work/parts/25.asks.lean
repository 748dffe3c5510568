/-! the asks: both answer alike -/
section ASKS
variable {σ τ : SX}
theorem T_read (h : IV σ τ) (a b : Int32) : ∃ r σ' τ', fX0_read a b σ = some (r, σ') ∧ fX1_read a b τ = some (r, τ') ∧ IV σ' τ' := by
  have h0 := h
  obtain ⟨ce, bl, si, i, hx, hm, hV, hS, hfa, hdn⟩ := h
  rcases nI_or a 4 (by omega) with ⟨f, hf, rfl⟩ | ha
  · obtain ⟨z, hz, ez⟩ := hS f hf
    have e1 : σ.1 3 f = nI z := by rw [hx.2.2.1]; exact ez
    have e2 : τ.1 1 f = nI z := by rw [hm.2.2.1]; exact ez
    rcases nI_or b z (by omega) with ⟨j, hj, rfl⟩ | hb
    · refine ⟨_, σ, τ, X0_read_y (by rw [hx.2.1]; exact hV) hf hz e1 hj, ?_, h0⟩
      rw [X1_read_y (by rw [hm.2.1]; exact hV) hf hz e2 hj, hx.1, hx.2.1, hx.2.2.1, hm.1, hm.2.1, hm.2.2.1]
    · exact ⟨_, σ, τ, X0_read_n hf hz e1 hb, X1_read_n hf hz e2 hb, h0⟩
  · exact ⟨_, σ, τ, X0_read_f ha, X1_read_f ha, h0⟩
theorem T_ofFile (h : IV σ τ) (a b : Int32) : ∃ r σ' τ', fX0_ofFile a b σ = some (r, σ') ∧ fX1_ofFile a b τ = some (r, τ') ∧ IV σ' τ' := by
  have h0 := h
  obtain ⟨ce, bl, si, i, hx, hm, hV, hS, hfa, hdn⟩ := h
  rcases nI_or a 4 (by omega) with ⟨f, hf, rfl⟩ | ha
  · refine ⟨_, σ, τ, X0_ofFile_y (C := Cc bl) hx.2.2.2.1 (fun _ => Cc_lt _ _) (by rw [hx.2.1]; exact hV) hf b, ?_, h0⟩
    rw [X1_ofFile_y (by rw [hm.2.1]; exact hV) hf b, hx.2.1, hx.2.2.1, hm.2.1, hm.2.2.1]
  · exact ⟨_, σ, τ, X0_ofFile_f ha, X1_ofFile_f ha, h0⟩
theorem T_block (h : IV σ τ) (a b : Int32) : ∃ r σ' τ', fX0_block a b σ = some (r, σ') ∧ fX1_block a b τ = some (r, τ') ∧ IV σ' τ' := by
  have h0 := h
  obtain ⟨ce, bl, si, i, hx, hm, hV, hS, hfa, hdn⟩ := h
  rcases nI_or a 4 (by omega) with ⟨f, hf, rfl⟩ | ha
  · rcases nI_or b 24 (by omega) with ⟨p, hp, rfl⟩ | hb
    · refine ⟨_, σ, τ, X0_block_y hf hp, ?_, h0⟩
      rw [X1_block_y hf hp, hx.2.1, hm.2.1]
    · exact ⟨_, σ, τ, X0_block_n hf hb, X1_block_n hf hb, h0⟩
  · exact ⟨_, σ, τ, X0_block_f ha, X1_block_f ha, h0⟩
theorem T_piece (h : IV σ τ) (a b c : Int32) : ∃ r σ' τ', fX0_piece a b c σ = some (r, σ') ∧ fX1_piece a b c τ = some (r, τ') ∧ IV σ' τ' := by
  have h0 := h
  obtain ⟨ce, bl, si, i, hx, hm, hV, hS, hfa, hdn⟩ := h
  rcases nI_or a 4 (by omega) with ⟨f, hf, rfl⟩ | ha
  · rcases nI_or b 24 (by omega) with ⟨k, hk, rfl⟩ | hb
    · rcases nI_or c 3 (by omega) with ⟨w, hw, rfl⟩ | hc
      · refine ⟨_, σ, τ, X0_piece_y (by rw [hx.2.1]; exact hV) hf hk hw, ?_, h0⟩
        rw [X1_piece_y (by rw [hm.2.1]; exact hV) hf hk hw, hx.2.1, hm.2.1]
      · exact ⟨_, σ, τ, X0_piece_w hf hk hc, X1_piece_w hf hk hc, h0⟩
    · exact ⟨_, σ, τ, X0_piece_k hf hb, X1_piece_k hf hb, h0⟩
  · exact ⟨_, σ, τ, X0_piece_f ha, X1_piece_f ha, h0⟩
theorem T_seek (h : IV σ τ) (a b : Int32) (d : Bool) : ∃ r σ' τ', fX0_seek a b (bI d) σ = some (r, σ') ∧ fX1_seek a b (bI d) τ = some (r, τ') ∧ IV σ' τ' := by
  have h0 := h
  obtain ⟨ce, bl, si, i, hx, hm, hV, hS, hfa, hdn⟩ := h
  rcases nI_or a 4 (by omega) with ⟨f, hf, rfl⟩ | ha
  · obtain ⟨z, hz, ez⟩ := hS f hf
    rcases nI_or b 97 (by omega) with ⟨j, hj, rfl⟩ | hb
    · refine ⟨_, σ, τ, X0_seek_y (by rw [hx.2.1]; exact hV) hf hz (by rw [hx.2.2.1]; exact ez) d (by omega), ?_, h0⟩
      rw [X1_seek_y hf hz (by rw [hm.2.2.1]; exact ez) d (by omega), hx.2.1, hm.2.1]
    · exact ⟨_, σ, τ, X0_seek_n hf hb, X1_seek_n hf hb, h0⟩
  · exact ⟨_, σ, τ, X0_seek_f ha, X1_seek_f ha, h0⟩
theorem T_count (h : IV σ τ) (a : Int32) : ∃ r σ' τ', fX0_count a σ = some (r, σ') ∧ fX1_count a τ = some (r, τ') ∧ IV σ' τ' := by
  have h0 := h
  obtain ⟨ce, bl, si, i, hx, hm, hV, hS, hfa, hdn⟩ := h
  rcases nI_or a 48 (by omega) with ⟨b, hb, rfl⟩ | ha
  · refine ⟨_, σ, τ, X0_count_y (C := Cc bl) hx.2.2.2.1 hb, ?_, h0⟩
    rw [X1_count_y hb, hm.2.1]
  · exact ⟨_, σ, τ, X0_count_n ha, X1_count_n ha, h0⟩
theorem T_range (h : IV σ τ) (a b : Int32) : ∃ r σ' τ', fX0_range a b σ = some (r, σ') ∧ fX1_range a b τ = some (r, τ') ∧ IV σ' τ' := by
  have h0 := h
  obtain ⟨ce, bl, si, i, hx, hm, hV, hS, hfa, hdn⟩ := h
  rcases nI_or a 48 (by omega) with ⟨k, hk, rfl⟩ | ha
  · rcases nI_or b 5 (by omega) with ⟨w, hw, rfl⟩ | hb
    · refine ⟨_, σ, τ, X0_range_y (C := Cc bl) hx.2.2.2.1 (fun _ => Cc_lt _ _) hk hw, ?_, h0⟩
      rw [X1_range_y hk hw, hm.2.1]
    · exact ⟨_, σ, τ, X0_range_w hk hb, X1_range_w hk hb, h0⟩
  · exact ⟨_, σ, τ, X0_range_k ha, X1_range_k ha, h0⟩
theorem T_many (h : IV σ τ) (a : Int32) : ∃ r σ' τ', fX0_many a σ = some (r, σ') ∧ fX1_many a τ = some (r, τ') ∧ IV σ' τ' := by
  have h0 := h
  obtain ⟨ce, bl, si, i, hx, hm, hV, hS, hfa, hdn⟩ := h
  refine ⟨_, σ, τ, X0_many (C := Cc bl) hx.2.2.2.1 (fun _ => Cc_lt _ _) a, ?_, h0⟩
  rw [X1_many a, hm.2.1, hx.2.2.2.2 9 (by omega), hx.2.2.2.2 14 (by omega), hx.2.2.2.2 15 (by omega), hm.2.2.2.2.1, hm.2.2.2.2.2.2.2.2.2.1, hm.2.2.2.2.2.2.2.2.2.2]
end ASKS
