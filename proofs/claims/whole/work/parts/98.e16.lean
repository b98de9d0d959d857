section SPna
variable {a a' b b' x y : Int}
theorem W_nn : ∀ (n : Nat) (l : List Int), l.length = n → (∀ a ∈ l, 97 ≤ a ∧ a ≤ 122) → 0 ≤ W5 l ∧ 0 ≤ W8 l := by
  intro n
  induction n with
  | zero =>
    intro l h1 h2
    rw [List.length_eq_zero_iff.mp h1]
    exact ⟨Int.le_refl _, Int.le_refl _⟩
  | succ n ih =>
    intro l h1 h2
    rcases List.eq_nil_or_concat l with rfl | ⟨m, x, rfl⟩
    · exact ⟨Int.le_refl _, Int.le_refl _⟩
    · rw [List.concat_eq_append] at h1 h2 ⊢
      rw [List.length_append] at h1
      have h3 : m.length = n := Nat.succ.inj h1
      have := ih m h3 (fun a ha => h2 a (List.mem_append_left _ ha))
      have := h2 x (List.mem_append_right _ (List.mem_singleton.mpr rfl))
      rw [W5_app, W8_app]
      omega
theorem W_inj : ∀ (n : Nat) (l l' : List Int), l.length = n → (∀ a ∈ l, 97 ≤ a ∧ a ≤ 122) → (∀ a ∈ l', 97 ≤ a ∧ a ≤ 122) → (W5 l = W5 l' ∨ W8 l = W8 l') → l = l' := by
  intro n
  induction n with
  | zero =>
    intro l l' h1 h2 h3 h4
    rw [List.length_eq_zero_iff.mp h1] at h4 ⊢
    rcases List.eq_nil_or_concat l' with rfl | ⟨m, x, rfl⟩
    · rfl
    · exfalso
      rw [List.concat_eq_append] at h3 h4
      have := W_nn _ m rfl (fun a ha => h3 a (List.mem_append_left _ ha))
      have := h3 x (List.mem_append_right _ (List.mem_singleton.mpr rfl))
      rw [W5_app, W8_app] at h4
      have e5 : W5 [] = 0 := rfl
      have e8 : W8 [] = 0 := rfl
      omega
  | succ n ih =>
    intro l l' h1 h2 h3 h4
    rcases List.eq_nil_or_concat l with rfl | ⟨m, x, rfl⟩
    · cases h1
    · rw [List.concat_eq_append] at h1 h2 h4 ⊢
      rw [List.length_append] at h1
      have g1 : m.length = n := Nat.succ.inj h1
      have g2 : ∀ a ∈ m, 97 ≤ a ∧ a ≤ 122 := fun a ha => h2 a (List.mem_append_left _ ha)
      have g3 := W_nn _ m g1 g2
      have g4 := h2 x (List.mem_append_right _ (List.mem_singleton.mpr rfl))
      rw [W5_app, W8_app] at h4
      rcases List.eq_nil_or_concat l' with rfl | ⟨m', x', rfl⟩
      · exfalso
        have e5 : W5 [] = 0 := rfl
        have e8 : W8 [] = 0 := rfl
        omega
      · rw [List.concat_eq_append] at h3 h4 ⊢
        have k2 : ∀ a ∈ m', 97 ≤ a ∧ a ≤ 122 := fun a ha => h3 a (List.mem_append_left _ ha)
        have k3 := W_nn _ m' rfl k2
        have k4 := h3 x' (List.mem_append_right _ (List.mem_singleton.mpr rfl))
        rw [W5_app, W8_app] at h4
        have hx : x = x' := by omega
        have hm := ih m m' g1 g2 k2 (by omega)
        rw [hx, hm]
theorem NmR_iff (h1 : NmR a b) (h2 : NmR a' b') : a = a' ↔ b = b' := by
  obtain ⟨l, ⟨_, _, v⟩, e1, e2⟩ := h1
  obtain ⟨l', ⟨_, _, v'⟩, e3, e4⟩ := h2
  constructor
  · intro h
    have := W_inj _ l l' rfl v v' (Or.inl (by rw [← e1, ← e3]; exact h))
    rw [e2, e4, this]
  · intro h
    have := W_inj _ l l' rfl v v' (Or.inr (by rw [← e2, ← e4]; exact h))
    rw [e1, e3, this]
end SPna
