section SPF2b
def q_chs : List (List (Nat × Nat)) := [q_ch0, q_ch1, q_ch2, q_ch3, q_ch4, q_ch5, q_ch6, q_ch7, q_ch8, q_ch9, q_ch10, q_ch11, q_ch12, q_ch13, q_ch14, q_ch15, q_ch16, q_ch17, q_ch18, q_ch19, q_ch20, q_ch21, q_ch22, q_ch23, q_ch24, q_ch25, q_ch26, q_ch27, q_ch28, q_ch29, q_ch30, q_ch31, q_ch32, q_ch33, q_ch34]
theorem chk_all : ∀ l ∈ q_chs, (l.all (fun q => (List.range' (256 * q.2) 256).all (chk2 q.1))) = true := by
  intro l hl
  unfold q_chs at hl
  simp only [List.mem_cons, List.not_mem_nil, or_false] at hl
  rcases hl with rfl | rfl | rfl | rfl | rfl | rfl | rfl | rfl | rfl | rfl | rfl | rfl | rfl | rfl | rfl | rfl | rfl | rfl | rfl | rfl | rfl | rfl | rfl | rfl | rfl | rfl | rfl | rfl | rfl | rfl | rfl | rfl | rfl | rfl | rfl
  · exact chk_0
  · exact chk_1
  · exact chk_2
  · exact chk_3
  · exact chk_4
  · exact chk_5
  · exact chk_6
  · exact chk_7
  · exact chk_8
  · exact chk_9
  · exact chk_10
  · exact chk_11
  · exact chk_12
  · exact chk_13
  · exact chk_14
  · exact chk_15
  · exact chk_16
  · exact chk_17
  · exact chk_18
  · exact chk_19
  · exact chk_20
  · exact chk_21
  · exact chk_22
  · exact chk_23
  · exact chk_24
  · exact chk_25
  · exact chk_26
  · exact chk_27
  · exact chk_28
  · exact chk_29
  · exact chk_30
  · exact chk_31
  · exact chk_32
  · exact chk_33
  · exact chk_34
set_option maxRecDepth 100000 in
theorem chk_cov : ((List.range' 158 107).all (fun mi => !gd mi || (stt mi 0 && (List.range (((mC mi).size + 255) / 256)).all (fun j => q_chs.any (fun l => l.contains (mi, j)))))) = true := by decide +kernel
theorem chk_at {mi : Nat} (h : gd mi = true) : stt mi 0 = true ∧ ∀ pc, pc < (mC mi).size → chk2 mi pc = true := by
  have hb : 158 ≤ mi ∧ mi < 265 := by
    unfold gd at h
    obtain ⟨h1, h2⟩ := q_bool2 h
    obtain ⟨h1, h3⟩ := q_bool2 h1
    exact ⟨of_decide_eq_true h1, of_decide_eq_true h3⟩
  have h1 := chk_cov
  rw [List.all_eq_true] at h1
  have h3 := h1 mi (List.mem_range'_1.mpr (by omega))
  rw [h] at h3
  have h4 : (stt mi 0 && (List.range (((mC mi).size + 255) / 256)).all (fun j => q_chs.any (fun l => l.contains (mi, j)))) = true := by
    cases hx : (stt mi 0 && (List.range (((mC mi).size + 255) / 256)).all (fun j => q_chs.any (fun l => l.contains (mi, j)))) with
    | true => rfl
    | false => rw [hx] at h3; cases h3
  obtain ⟨h5, h6⟩ := q_bool2 h4
  refine ⟨h5, fun pc hp => ?_⟩
  rw [List.all_eq_true] at h6
  have h7 := h6 (pc / 256) (List.mem_range.mpr (by omega))
  rw [List.any_eq_true] at h7
  obtain ⟨l, l1, l2⟩ := h7
  have h8 := chk_all l l1
  rw [List.all_eq_true] at h8
  have h9 := h8 (mi, pc / 256) (by simpa using l2)
  rw [List.all_eq_true] at h9
  exact h9 pc (List.mem_range'_1.mpr (by show 256 * (pc / 256) ≤ pc ∧ pc < 256 * (pc / 256) + 256; omega))
theorem stt_0 {mi : Nat} (h : gd mi = true) : stt mi 0 = true := (chk_at h).1
theorem chk_ok {mi pc len : Nat} {ins : Instr} (h : gd mi = true) (hs : stt mi pc = true) (hd : decode (mC mi) pc = .ok (ins, len)) : chk mi pc = true ∧ ∀ s ∈ sucs ins pc len, stt mi s = true := by
  have hp : pc < (mC mi).size := by
    by_cases hp : pc < (mC mi).size
    · exact hp
    · exact absurd hd (dec_oob (by omega) _)
  have h5 := (chk_at h).2 pc hp
  unfold chk2 at h5
  split at h5
  · rename_i he
    refine ⟨h5, fun s _ => ?_⟩
    unfold stt
    rw [List.isEmpty_iff.mp he]
    rfl
  · unfold chk3 at h5
    rw [hs, hd] at h5
    have h6 : (chk mi pc && (sucs ins pc len).all (stt mi)) = true := h5
    obtain ⟨h7, h8⟩ := q_bool2 h6
    rw [List.all_eq_true] at h8
    exact ⟨h7, h8⟩
end SPF2b
