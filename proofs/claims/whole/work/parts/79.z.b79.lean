section SPF2b
theorem chk_at {mi : Nat} (h : gd mi = true) : (stt mi 0 && (List.range (mC mi).size).all (chk2 mi)) = true := by
  have hb : 158 ≤ mi ∧ mi < 265 := by
    unfold gd at h
    obtain ⟨h1, h2⟩ := q_bool2 h
    obtain ⟨h1, h3⟩ := q_bool2 h1
    exact ⟨of_decide_eq_true h1, of_decide_eq_true h3⟩
  have key : ∀ l : List Nat, (l.all (fun mi => !gd mi || (stt mi 0 && (List.range (mC mi).size).all (chk2 mi)))) = true → mi ∈ l → (stt mi 0 && (List.range (mC mi).size).all (chk2 mi)) = true := by
    intro l hl hm
    rw [List.all_eq_true] at hl
    have h3 := hl mi hm
    rw [h] at h3
    cases hx : (stt mi 0 && (List.range (mC mi).size).all (chk2 mi)) with
    | true => rfl
    | false => rw [hx] at h3; cases h3
  by_cases h1 : mi < 190
  · exact key _ chk_b79a (List.mem_range'_1.mpr (by omega))
  by_cases h2 : mi < 216
  · exact key _ chk_b79b (List.mem_range'_1.mpr (by omega))
  by_cases h3 : mi < 240
  · exact key _ chk_b79c (List.mem_range'_1.mpr (by omega))
  · exact key _ chk_b79d (List.mem_range'_1.mpr (by omega))
theorem stt_0 {mi : Nat} (h : gd mi = true) : stt mi 0 = true := (q_bool2 (chk_at h)).1
theorem chk_ok {mi pc len : Nat} {ins : Instr} (h : gd mi = true) (hs : stt mi pc = true) (hd : decode (mC mi) pc = .ok (ins, len)) : chk mi pc = true ∧ ∀ s ∈ sucs ins pc len, stt mi s = true := by
  have hp : pc < (mC mi).size := by
    by_cases hp : pc < (mC mi).size
    · exact hp
    · exact absurd hd (dec_oob (by omega) _)
  have h4 := (q_bool2 (chk_at h)).2
  rw [List.all_eq_true] at h4
  have h5 := h4 pc (List.mem_range.mpr hp)
  unfold chk2 at h5
  split at h5
  · rename_i he
    refine ⟨h5, fun s _ => ?_⟩
    unfold stt
    rw [List.isEmpty_iff.mp he]
    rfl
  · unfold chk3 at h5
    rw [hs, hd] at h5
    have h6 : (chk mi pc && (sucs ins pc len).all (stt mi)) = true := h5
    obtain ⟨h7, h8⟩ := q_bool2 h6
    rw [List.all_eq_true] at h8
    exact ⟨h7, h8⟩
end SPF2b
