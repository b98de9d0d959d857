section SPjl
variable {c : CC} {r n : Nat} {v i : Int}
theorem k_at (h : k_C c = true) (hm : (r, n, v) ∈ k_rows) (h0 : 0 ≤ i) (h1 : i < n) : c r i = v := by
  obtain ⟨a, _⟩ := q_bool2 h
  rw [List.all_eq_true] at a
  have b : k_v c r n v = true := a _ hm
  unfold k_v at b
  rw [List.all_eq_true] at b
  have e : c r ((i.toNat : Nat) : Int) = v := of_decide_eq_true (b i.toNat (List.mem_range.mpr (by omega)))
  rwa [Int.toNat_of_nonneg h0] at e
theorem k_0 (h : k_C c = true) (hm : (r, i) ∈ k_ones) : c r i = 0 := by
  obtain ⟨_, a⟩ := q_bool2 h
  obtain ⟨a, _⟩ := q_bool2 a
  rw [List.all_eq_true] at a
  exact of_decide_eq_true (a _ hm)
theorem k_ms (h : k_C c = true) : c 188 27 = -1 := by
  obtain ⟨_, a⟩ := q_bool2 h
  obtain ⟨_, a⟩ := q_bool2 a
  obtain ⟨a, _⟩ := q_bool2 a
  exact of_decide_eq_true a
theorem k_ky (h : k_C c = true) (h0 : 0 ≤ i) (h1 : i < 20) : c 4 i = q_keys i ∧ c 194 i = rsvF i := by
  obtain ⟨_, a⟩ := q_bool2 h
  obtain ⟨_, a⟩ := q_bool2 a
  obtain ⟨_, a⟩ := q_bool2 a
  rw [List.all_eq_true] at a
  obtain ⟨b1, b2⟩ := q_bool2 (a i.toNat (List.mem_range.mpr (by omega)))
  have e1 : c 4 ((i.toNat : Nat) : Int) = q_keys ((i.toNat : Nat) : Int) := of_decide_eq_true b1
  have e2 : c 194 ((i.toNat : Nat) : Int) = rsvF ((i.toNat : Nat) : Int) := of_decide_eq_true b2
  rw [Int.toNat_of_nonneg h0] at e1 e2
  exact ⟨e1, e2⟩
theorem k_GS {S : SS} (z : ∀ i, 0 ≤ i → i < 514 → S i = 0) : GS S := by
  have z0 := z 0 (by omega) (by omega)
  have z1 := z 1 (by omega) (by omega)
  have z2 := z 2 (by omega) (by omega)
  refine ⟨⟨?_, ?_, ?_, ?_, ?_, ?_, ?_⟩, ⟨?_, ?_, ?_, ?_, ?_, ?_, ?_, ?_⟩, ⟨?_, ?_, ?_, ?_⟩, ?_⟩
  · exact ⟨by omega, by omega, by omega, by omega, by omega, by omega⟩
  · intro k h1 h2
    omega
  · intro k h1 h2
    have := z (15 + k) (by omega) (by omega); omega
  · intro x y h1 h2 h3 h4
    rw [z (15 + 6 * x + y) (by omega) (by omega), z (15 + 6 * y + x) (by omega) (by omega)]
  · intro s h1 h2
    have := z (51 + s) (by omega) (by omega); have := z (59 + s) (by omega) (by omega); omega
  · intro i h1 h2
    have := z (67 + i) (by omega) (by omega); omega
  · intro x y h1 h2 h3 h4 _
    exact z _ (by omega) (by omega)
  · intro s h1 h2
    rw [z (173 + s) (by omega) (by omega), z (181 + s) (by omega) (by omega), z (189 + s) (by omega) (by omega), z (197 + s) (by omega) (by omega), z0, z1]
    refine ⟨by omega, by omega, by omega, by omega, Iff.rfl, by omega, by omega, by omega, fun p => by omega, fun _ => ⟨rfl, rfl⟩⟩
  · intro s h1 h2 h3
    rw [z (173 + s) (by omega) (by omega)] at h3; omega
  · intro i h1 h2
    have := z (205 + i) (by omega) (by omega); omega
  · intro x y h1 h2 h3 h4 _
    exact z _ (by omega) (by omega)
  · intro k h1 h2
    omega
  · rw [z 171 (by omega) (by omega), sumI_c (f := fun i => S (189 + i)) (g := fun _ => 0) (n := 8) (fun i h1 h2 => z (189 + i) (by omega) (by omega))]
    decide +kernel
  · have := z 168 (by omega) (by omega); have := z 169 (by omega) (by omega); have := z 170 (by omega) (by omega); omega
  · intro x y h1 h2 h3 h4
    have := z (269 + 8 * x + y) (by omega) (by omega); have := z (269 + 8 * y + x) (by omega) (by omega); omega
  · have := z 168 (by omega) (by omega); have := z 169 (by omega) (by omega); omega
  · have := z 168 (by omega) (by omega); have := z 170 (by omega) (by omega); omega
  · intro s h1 h2
    have := z 168 (by omega) (by omega); have := z (189 + s) (by omega) (by omega); have := z (197 + s) (by omega) (by omega); omega
  · rw [z 168 (by omega) (by omega), if_neg (by omega)]
    exact z 172 (by omega) (by omega)
  · have := z 168 (by omega) (by omega)
    omega
theorem k_GR (h : k_C c = true) : GR c c := by
  have z : ∀ i, 0 ≤ i → i < 514 → c 190 i = 0 := fun i a b => k_at h (n := 514) (by decide) a b
  have z0 := z 0 (by omega) (by omega)
  have z1 := z 1 (by omega) (by omega)
  have z2 := z 2 (by omega) (by omega)
  have ms := k_ms h
  have l0 : c 188 2 = 0 := k_0 h (by decide)
  have l1 : c 188 15 = 0 := k_0 h (by decide)
  have l2 : c 188 23 = 0 := k_0 h (by decide)
  have l3 : c 188 31 = 0 := k_0 h (by decide)
  have l4 : c 188 38 = 0 := k_0 h (by decide)
  have g0 : c 210 0 = 0 := k_at h (n := 2) (by decide) (by omega) (by omega)
  have g1 : c 210 1 = 0 := k_at h (n := 2) (by decide) (by omega) (by omega)
  have s7 : c 43 7 = 0 := k_0 h (by decide)
  have m3 : c 141 3 = 0 := k_0 h (by decide)
  have m4 : c 164 3 = 0 := k_0 h (by decide)
  have b6 : c 120 6 = 0 := k_0 h (by decide)
  have t1 : c 2 1 = 0 := k_0 h (by decide)
  have t2 : c 2 14 = 0 := k_0 h (by decide)
  have h1 : c 53 1 = 0 := k_0 h (by decide)
  have h2 : c 53 2 = 0 := k_0 h (by decide)
  refine ⟨k_GS z, ⟨⟨⟨?_, ?_, ?_⟩, ?_, ?_, ?_, ?_⟩, ⟨?_, ?_⟩, ?_⟩, ⟨⟨⟨?_, ?_, ?_⟩, ?_, ?_, ?_⟩, ?_⟩, ⟨⟨?_, ?_, ?_⟩, ?_, ⟨?_, ?_, ?_⟩, ?_⟩, ⟨⟨?_, ?_, ?_, ?_, ?_⟩, ?_⟩, ⟨?_, ?_, ?_⟩, ⟨?_, ?_, ?_⟩, ⟨?_, ?_, ?_, ?_, ?_, ?_, ?_⟩, ⟨?_, ?_, ?_⟩, ⟨?_, ?_, ?_⟩⟩
  · rw [z0]; exact k_at h (n := 3) (by decide) (by omega) (by omega)
  · rw [z1]; exact k_at h (n := 3) (by decide) (by omega) (by omega)
  · rw [z2]; exact k_at h (n := 3) (by decide) (by omega) (by omega)
  · intro k p1 p2; omega
  · intro k p1 p2
    rw [z (15 + k) (by omega) (by omega)]; exact k_at h (r := 14) (n := 36) (by decide) p1 p2
  · intro s p1 p2; omega
  · intro i p1 p2
    rw [z (67 + i) (by omega) (by omega)]; exact k_at h (r := 17) (n := 64) (by decide) p1 p2
  · intro j p1 p2; omega
  · intro j p1 p2; omega
  · refine ⟨Or.inl s7, fun _ => z _ (by omega) (by omega), fun p => ?_⟩
    omega
  · rw [z 168 (by omega) (by omega)]; exact k_0 h (by decide)
  · rw [z 169 (by omega) (by omega)]; exact k_0 h (by decide)
  · rw [z 170 (by omega) (by omega)]; exact k_0 h (by decide)
  · intro i p1 p2
    rw [z (173 + i) (by omega) (by omega), z (181 + i) (by omega) (by omega), z (189 + i) (by omega) (by omega), z (197 + i) (by omega) (by omega)]
    exact ⟨k_at h (r := 28) (n := 8) (by decide) p1 p2, k_at h (r := 29) (n := 8) (by decide) p1 p2, k_at h (r := 30) (n := 8) (by decide) p1 p2, k_at h (r := 31) (n := 8) (by decide) p1 p2⟩
  · intro i p1 p2
    rw [z (205 + i) (by omega) (by omega)]; exact k_at h (r := 33) (n := 64) (by decide) p1 p2
  · intro x y p1 p2 p3
    rw [z (269 + 8 * x + y) (by omega) (by omega)]; exact k_at h (r := 34) (n := 64) (by decide) (by omega) (by omega)
  · intro k p1 p2; omega
  · omega
  · omega
  · omega
  · intro i p1 p2; omega
  · omega
  · omega
  · omega
  · intro i p1 p2; exact k_ky h p1 p2
  · omega
  · omega
  · omega
  · omega
  · omega
  · intro j p1 p2; omega
  · intro s p1 p2
    rw [ms, if_neg (by omega), k_at h (r := 131) (n := 8) (v := -1) (by decide) p1 p2]
    exact ⟨rfl, by omega, by omega⟩
  · omega
  · omega
  · intro i p1 p2
    rw [l3, if_neg (by omega), k_at h (r := 187) (n := 3) (v := -1) (by decide) p1 p2]
    exact ⟨rfl, by omega, by omega⟩
  · omega
  · omega
  · omega
  · exact Or.inl l4
  · intro p; omega
  · exact k_at h (n := 1) (by decide) (by omega) (by omega)
  · exact k_at h (n := 1) (by decide) (by omega) (by omega)
  · exact k_at h (n := 1) (by decide) (by omega) (by omega)
  · exact k_at h (n := 1) (by decide) (by omega) (by omega)
  · omega
  · exact Or.inl g0
  · intro p; omega
  · omega
  · exact Or.inl g1
  · intro p; omega
theorem k_Shp {h4 : HH} {sc : Nat × (Nat → Int32)} (h : k_G h4 = true) : Shp (q_nw (sS h4 sc) 21 1 (fun _ => 0)).1 ∧ (q_nw (sS h4 sc) 21 1 (fun _ => 0)).1.2.1 ≤ 20001 := by
  obtain ⟨e1, a⟩ := q_bool2 h
  obtain ⟨e2, a⟩ := q_bool2 a
  obtain ⟨e3, e4⟩ := q_bool2 a
  have e1 : h4.1.1 = 210 := of_decide_eq_true e1
  have e2 : h4.1.2.1 ≤ 20000 := of_decide_eq_true e2
  rw [List.all_eq_true] at e3 e4
  refine ⟨⟨?_, ?_, ?_⟩, ?_⟩
  · show h4.1.1 + 1 = 211
    rw [e1]
  · intro r hr
    show (if r = h4.1.1 + 1 then (21, 1) else h4.1.2.2.1 r) = q_shp r
    rw [e1]
    by_cases p : r = 210 + 1
    · rw [if_pos p, p]; decide +kernel
    · rw [if_neg p]
      exact of_decide_eq_true (e3 r (List.mem_range.mpr (by omega)))
  · intro q hq
    show (if q.1 = h4.1.1 + 1 then 0 else h4.1.2.2.2.1 q.1 q.2.1) = q.2.2
    have hb : ∀ q ∈ q_rfls, q.1 < 211 := by decide +kernel
    have := hb q hq
    rw [e1, if_neg (by omega)]
    exact of_decide_eq_true (e4 q hq)
  · show h4.1.2.1 + 1 ≤ 20001
    omega
end SPjl
