section SPtz
variable {d : Nat} {G : GG} {c c' c0 c1 : CC} {Q : Option AV → HH → Prop} {v1 v2 v3 i n s t p w x y b q u len N m most stop a a' b' : Int} {k j T : Nat} {B f : Int → Int}
def FrV (c c' : CC) : Prop := (∀ r, ¬ r = 2 → c' r = c r) ∧ ∀ i, ¬ i = 8 → ¬ i = 10 → ¬ i = 11 → ¬ i = 12 → ¬ i = 13 → c' 2 i = c 2 i
theorem c_advance (hG : Shp G) (h : TA c B len stop j) (hz : ∀ c', FrV c c' → TA c' B len stop (j + 1) → Q none (G, c')) : TM d 98 [aR 2] (G, c) Q := by
  obtain ⟨T, h7, h1, h9, hR, hE, hL, k10, k11, k12, k13, k8⟩ := h
  by_cases hj : j + 1 < T
  · rw [if_pos hj] at k8
    obtain ⟨r5, r6, r7, r8⟩ := hR (j + 1) hj
    refine c_adv hG h7 k8 (by omega) (by omega) (fun _ => ?_) (fun q => by omega) (by omega) (by omega)
    have ec : ((j + 1 : Nat) : Int) = (j : Int) + 1 := by omega
    rw [ec] at r5 r6 r7 r8
    have rr : ∀ r, ¬ r = 2 → ldT c ((j : Int) + 1) r = c r := fun r h => by
      unfold ldT
      rw [up_r h, up_r h, up_r h, up_r h, up_r h]
    have rc : ∀ i, ¬ i = 8 → ¬ i = 10 → ¬ i = 11 → ¬ i = 12 → ¬ i = 13 → ldT c ((j : Int) + 1) 2 i = c 2 i := fun i h1 h2 h3 h4 h5 => by
      unfold ldT
      rw [up_n (by omega), up_n (by omega), up_n (by omega), up_n (by omega), up_n (by omega)]
    refine hz _ ⟨rr, rc⟩ ⟨T, by rw [rc 7 (by omega) (by omega) (by omega) (by omega) (by omega)]; exact h7, h1, h9, fun i hi => by rw [rr 5 (by omega), rr 6 (by omega), rr 7 (by omega), rr 8 (by omega)]; exact hR i hi, hE, hL, ?_, ?_, ?_, ?_, ?_⟩
    · unfold ldT
      rw [up_n (by omega), up_n (by omega), up_n (by omega), up_n (by omega), up_e]; exact r5
    · unfold ldT
      rw [up_n (by omega), up_n (by omega), up_n (by omega), up_e]; exact r6
    · unfold ldT
      rw [up_n (by omega), up_n (by omega), up_e]; exact r7
    · unfold ldT
      rw [up_n (by omega), up_e]; exact r8
    · have : ldT c ((j : Int) + 1) 2 8 = (j : Int) + 1 + 1 := up_e
      rw [this]
      by_cases h : j + 1 + 1 < T
      · rw [if_pos h]; omega
      · rw [if_neg h]; omega
  · rw [if_neg hj] at k8
    have e0 : PP B len stop j = PP B len stop (T - 1) := by
      have := PP_ends hE (j - (T - 1))
      rw [show T - 1 + (j - (T - 1)) = j by omega] at this
      exact this
    have e1 : PP B len stop (j + 1) = PP B len stop j := PP_end (by rw [e0]; exact hE)
    refine c_adv hG h7 k8 (by omega) (by omega) (fun q => by omega) (fun _ _ _ => ?_) (by omega) (by omega)
    refine hz c ⟨fun _ _ => rfl, fun _ _ _ _ _ _ => rfl⟩ ⟨T, h7, h1, h9, hR, hE, hL, by rw [e1]; exact k10, by rw [e1]; exact k11, by rw [e1]; exact k12, by rw [e1]; exact k13, ?_⟩
    rw [k8, if_neg (by omega)]
def RT (c : CC) (B : Int → Int) (len most stop : Int) (j : Nat) : Prop := RQ c B len most stop (PP B len stop j) ∧ (∀ i, 0 ≤ i → i < len → q_and (c 189 i) 255 = B i ∧ 0 ≤ B i ∧ B i ≤ 255) ∧ c 188 3 = len ∧ c 188 5 = most
theorem PP_0 : ∀ j : Nat, 0 ≤ stop → 0 ≤ PP B len stop j := by
  have sk : ∀ (n : Nat) (i : Int), i ≤ spN B stop n i := by
    intro n
    induction n with
    | zero => intro i; exact Int.le_refl i
    | succ n ih =>
      intro i
      unfold spN
      have := ih (i + 1)
      split <;> omega
  intro j h
  induction j with
  | zero => exact sk _ 0
  | succ j ih =>
    have e : PP B len stop (j + 1) = skE B stop (tE B len stop (PP B len stop j)) := rfl
    rw [e]
    have h1 := sk (stop - tE B len stop (PP B len stop j)).toNat (tE B len stop (PP B len stop j))
    have h2 : PP B len stop j ≤ tE B len stop (PP B len stop j) := by
      unfold tE
      have := (rnE_b (B := B) (len := len) (len - PP B len stop j).toNat (PP B len stop j)).1
      split
      · split
        · exact this
        · omega
      · omega
    unfold skE
    omega
theorem tE_len (h0 : stop ≤ len) (h : q < stop) : tE B len stop q ≤ len := by
  unfold tE
  rw [if_pos h]
  split
  · have := (rnE_b (B := B) (len := len) (len - q).toNat q).2
    unfold reE
    omega
  · omega
theorem r_advance (hG : Shp G) (h : RT c B len most stop j) (hl : 0 ≤ len ∧ len ≤ 940) (hm : 0 ≤ most ∧ most ≤ 940) (hst : stop = if most < len then most else len) (hz : ∀ c', FrN c c' → RT c' B len most stop (j + 1) → Q none (G, c')) : TM (d + 1) 172 [aR 188] (G, c) Q := by
  obtain ⟨⟨a1, a2, a3, a4, a5, a6, a7⟩, hB, e3, e5⟩ := h
  have hs : 0 ≤ stop ∧ stop ≤ len := by rw [hst]; split <;> omega
  have p0 := PP_0 (B := B) (len := len) j hs.1
  have fin : ∀ c', FrN c c' → RQ c' B len most stop (PP B len stop (j + 1)) → Q none (G, c') := fun c' f1 f2 => hz c' f1 ⟨f2, fun i p1 p2 => by rw [f1.1 189 (by omega)]; exact hB i p1 p2, (f1.2 3 (by omega) (by omega) (by omega) (by omega) (by omega) (by omega)).trans e3, (f1.2 5 (by omega) (by omega) (by omega) (by omega) (by omega) (by omega)).trans e5⟩
  by_cases h : PP B len stop j < stop
  · have h4 := a3 h
    have h5 := tE_len (B := B) hs.2 h
    have h6 : 0 ≤ tE B len stop (PP B len stop j) := by
      unfold tE
      have := (rnE_b (B := B) (len := len) (len - PP B len stop j).toNat (PP B len stop j)).1
      rw [if_pos h]
      split
      · unfold reE; omega
      · omega
    exact r_next hG hB e3 e5 hl hm hst ⟨h6, h5⟩ h4 fin
  · obtain ⟨h4, h5⟩ := a4 (by omega)
    refine r_next hG hB e3 e5 hl hm hst ⟨by omega, h5⟩ rfl (fun c' f1 f2 => fin c' f1 ?_)
    rw [skE_n (by omega)] at f2
    rw [PP_end (by omega)]
    exact RQ_end f2 h4 (by omega)
theorem W5_app (l : List Int) (x : Int) : W5 (l ++ [x]) = W5 l * 32 + (x - 97 + 1) := by unfold W5; rw [List.foldl_append]; rfl
theorem W8_app (l : List Int) (x : Int) : W8 (l ++ [x]) = W8 l * 256 + x := by unfold W8; rw [List.foldl_append]; rfl
def bl (B : Int → Int) (q : Int) : Nat → List Int
  | 0 => []
  | n + 1 => bl B q n ++ [B (q + n)]
theorem bl_all : ∀ k : Nat, lL B q k = k → (bl B q k).length = k ∧ (∀ a ∈ bl B q k, 97 ≤ a ∧ a ≤ 122) ∧ lC B q k = W5 (bl B q k) ∧ lG B q k = W8 (bl B q k) := by
  intro k
  induction k with
  | zero => intro _; exact ⟨rfl, fun a h => (by cases h), rfl, rfl⟩
  | succ k ih =>
    intro h
    have hb := lLD_b (B := B) (i := q) k
    have eL : lL B q (k + 1) = lL B q k + (if 97 ≤ B (q + k) ∧ B (q + k) ≤ 122 then 1 else 0) := rfl
    have hl : 97 ≤ B (q + k) ∧ B (q + k) ≤ 122 := by
      by_cases g : 97 ≤ B (q + k) ∧ B (q + k) ≤ 122
      · exact g
      · rw [if_neg g] at eL; omega
    rw [if_pos hl] at eL
    obtain ⟨i1, i2, i3, i4⟩ := ih (by omega)
    have eC : lC B q (k + 1) = lC B q k * 32 + ((B (q + k) - 97) + 1) := if_pos hl
    have eG : lG B q (k + 1) = lG B q k * 256 + B (q + k) := rfl
    show (bl B q k ++ [B (q + k)]).length = _ ∧ (∀ a ∈ bl B q k ++ [B (q + k)], _) ∧ _ = W5 (bl B q k ++ [B (q + k)]) ∧ _ = W8 (bl B q k ++ [B (q + k)])
    refine ⟨by rw [List.length_append, i1]; rfl, fun a ha => ?_, ?_, ?_⟩
    · rcases List.mem_append.mp ha with g | g
      · exact i2 a g
      · rw [List.mem_singleton.mp g]; exact hl
    · rw [W5_app, eC, i3]
    · rw [W8_app, eG, i4]
theorem lCG_NmR (h : lL B q k = k) (h1 : 1 ≤ k) (h7 : k ≤ 7) : NmR (lC B q k) (lG B q k) := by
  obtain ⟨a1, a2, a3, a4⟩ := bl_all k h
  exact ⟨bl B q k, ⟨by omega, by omega, a2⟩, a3, a4⟩
end SPtz
