section SPtn
variable {d : Nat} {G : GG} {c c' c0 : CC} {Q : Option AV → HH → Prop} {v1 v2 v3 i n s t p w x y b q u len N m : Int} {k : Nat} {B f : Int → Int}
def smF (B : Int → Int) (q u : Int) (k : Nat) : Int := if (u = 1 ∧ lD B q k = 0) ∨ (u = 0 ∧ lL B q k = 0) then 1 else 0
theorem sm_gen {L D : Int} (hu : u = 0 ∨ u = 1) (hr : (97 ≤ b ∧ b ≤ 122) ∨ (48 ≤ b ∧ b ≤ 57)) (h1 : 0 ≤ L) (h2 : 0 ≤ D) : (if (u = 1 ∧ D + (if 48 ≤ b ∧ b ≤ 57 then 1 else 0) = 0) ∨ (u = 0 ∧ L + (if 97 ≤ b ∧ b ≤ 122 then 1 else 0) = 0) then (1 : Int) else 0) = if (if (u = 1 ∧ D = 0) ∨ (u = 0 ∧ L = 0) then (1 : Int) else 0) = 0 then 0 else if (if 97 ≤ b ∧ b ≤ 122 then (1 : Int) else 0) = u then 1 else 0 := by
  by_cases g : 97 ≤ b ∧ b ≤ 122
  · have eL : (if 97 ≤ b ∧ b ≤ 122 then (1 : Int) else 0) = 1 := if_pos g
    have eD : (if 48 ≤ b ∧ b ≤ 57 then (1 : Int) else 0) = 0 := if_neg (by omega)
    rw [eL, eD]
    clear eL eD hr g
    repeat' split
    all_goals omega
  · have eL : (if 97 ≤ b ∧ b ≤ 122 then (1 : Int) else 0) = 0 := if_neg g
    have eD : (if 48 ≤ b ∧ b ≤ 57 then (1 : Int) else 0) = 1 := if_pos (by omega)
    rw [eL, eD]
    clear eL eD hr g
    repeat' split
    all_goals omega
theorem r_fin (hG : Shp G) {L D : Int} (hl : len ≤ 940) (hq : 0 ≤ q) (hk : q + k ≤ len) (h1 : 1 ≤ k) (h3 : L + D = k) (hL : 0 ≤ L ∧ 0 ≤ D) (h4 : u = 1 → 1 ≤ L) (h5 : u = 0 → 1 ≤ D) (hu : u = 0 ∨ u = 1) (a13 : c 188 13 = k) (a4 : c 188 4 = q + k) (hv : (v3 = 0 ∧ ¬ ((u = 1 ∧ D = 0) ∨ (u = 0 ∧ L = 0))) ∨ (v3 = 1 ∧ ((u = 1 ∧ D = 0) ∨ (u = 0 ∧ L = 0)))) (hz : Q none (G, q_up c 188 11 (if L = 0 ∧ D ≤ 3 then 2 else if D = 0 ∧ L ≤ 7 then 1 else 4))) : T (d + 1) 172 198 [some (aR 188), none, some (aI u), some (aI v3)] [aI 0] (G, c) (QM Q) := by
  generalize hw : (if L = 0 ∧ D ≤ 3 then (2 : Int) else if D = 0 ∧ L ≤ 7 then 1 else 4) = w at hz
  have hw : (w = 2 ∧ L = 0 ∧ D ≤ 3) ∨ (w = 1 ∧ D = 0 ∧ L ≤ 7 ∧ ¬ L = 0) ∨ (w = 4 ∧ ¬ (L = 0 ∧ D ≤ 3) ∧ ¬ (D = 0 ∧ L ≤ 7)) := by
    rw [← hw]
    by_cases g1 : L = 0 ∧ D ≤ 3
    · rw [if_pos g1]; omega
    · rw [if_neg g1]
      by_cases g2 : D = 0 ∧ L ≤ 7
      · rw [if_pos g2]; omega
      · rw [if_neg g2]; omega
  have hk9 : (k : Int) ≤ 940 := by omega
  clear hk hl
  rcases hw with ⟨rfl, g⟩ | ⟨rfl, g⟩ | ⟨rfl, g⟩
  · refine b172_198 hG TM_eqo (by intros; omega) (by intros; omega) ?_ (a13) (by intros; omega) (by intros; omega) ?_ ?_ ?_ (by intros; omega) ?_ ?_ ?_ (by intros; omega) (a13) (by intros; omega) (a13) (by intros; omega) (a13) ((up_n (by omega)).trans a4) ?_ rfl ?_ rfl ?_ ?_
    all_goals intros
    all_goals first | exact hz | (exfalso; omega)
  · refine b172_198 hG TM_eqo (by intros; omega) (by intros; omega) ?_ (a13) (by intros; omega) (by intros; omega) ?_ ?_ ?_ (by intros; omega) ?_ ?_ ?_ (by intros; omega) (a13) (by intros; omega) (a13) (by intros; omega) (a13) ((up_n (by omega)).trans a4) ?_ rfl ?_ rfl ?_ ?_
    all_goals intros
    all_goals first | exact hz | (exfalso; omega)
  · refine b172_198 hG TM_eqo (by intros; omega) (by intros; omega) ?_ (a13) (by intros; omega) (by intros; omega) ?_ ?_ ?_ (by intros; omega) ?_ ?_ ?_ (by intros; omega) (a13) (by intros; omega) (a13) (by intros; omega) (a13) ((up_n (by omega)).trans a4) ?_ rfl ?_ rfl ?_ ?_
    all_goals intros
    all_goals first | exact hz | (exfalso; omega)
theorem r_cont {v3' y : Int} {k : Nat} (hG : Shp G) (here : ∀ {Q2 : Option AV → HH → Prop}, Q2 (some (aI b)) (G, c) → TM d 169 [aR 188] (G, c) Q2) (hbb : 0 ≤ b ∧ b ≤ 255) (hr1 : (97 ≤ b ∧ b ≤ 122) ∨ (48 ≤ b ∧ b ≤ 57)) (a13 : c 188 13 = k) (a4 : c 188 4 = y) (hk : (k : Int) ≤ 940) (hu : u = 0 ∨ u = 1) (s01 : v3 = 0 ∨ v3 = 1) (sm : v3' = if v3 = 0 then 0 else if (if 97 ≤ b ∧ b ≤ 122 then (1 : Int) else 0) = u then 1 else 0) (stp : ∀ v, v = v3' → (7 ≤ (k : Int) → T (d + 1) 172 181 [some (aR 188), none, some (aI u), some (aI v)] [] (G, q_up (q_up c 188 13 ((k : Int) + 1)) 188 4 (y + 1)) (QM Q)) ∧ ((k : Int) < 7 → TM d 169 [aR 188] (G, c) (fun r h' => T (d + 1) 172 243 [some (aR 188), none, some (aI u), some (aI v)] (r.toList ++ [aL (q_lshl (c 188 17) 8), aR 188]) h' (QM Q)))) : T (d + 1) 172 181 [some (aR 188), none, some (aI u), some (aI v3)] [] (G, c) (QM Q) := by
  have both : ∀ l : Int, l = (if 97 ≤ b ∧ b ≤ 122 then 1 else 0) → ¬ v3 = 0 → T (d + 1) 172 209 [some (aR 188), none, some (aI u), none] [aI (b)] (G, c) (QM Q) := by
    intro l hl1 hv3
    rw [if_neg hv3, ← hl1] at sm
    refine b172_209 hG ?_
    refine r_let hG (by omega) ?_
    rw [← hl1]
    have hl01 : l = 0 ∨ l = 1 := by rw [hl1]; split <;> omega
    clear hl1
    by_cases g : l = u
    · rw [if_pos g] at sm
      obtain ⟨s1, s2⟩ := stp 1 sm.symm
      refine b172_212 hG (by intros; omega) (by intros; omega) (a13) (by intros; omega) (a13) (by intros; omega) (a13) ((up_n (by omega)).trans a4) ?_ rfl ?_ rfl ?_ (a13) (by intros; omega) (a13) (by intros; omega) (a13) ((up_n (by omega)).trans a4) ?_ rfl ?_ rfl ?_
      all_goals intros
      all_goals first | exact s1 (by omega) | exact s2 (by omega) | omega
    · rw [if_neg g] at sm
      obtain ⟨s1, s2⟩ := stp 0 sm.symm
      refine b172_212 hG (by intros; omega) (by intros; omega) (a13) (by intros; omega) (a13) (by intros; omega) (a13) ((up_n (by omega)).trans a4) ?_ rfl ?_ rfl ?_ (a13) (by intros; omega) (a13) (by intros; omega) (a13) ((up_n (by omega)).trans a4) ?_ rfl ?_ rfl ?_
      all_goals intros
      all_goals first | exact s1 (by omega) | exact s2 (by omega) | omega
  have zer : v3 = 0 → v3' = 0 := fun h => by rw [if_pos h] at sm; exact sm
  refine b172_181 hG ?_
  refine here ?_
  refine b172_185 hG ?_
  refine r_let hG (by omega) ?_
  by_cases g : 97 ≤ b ∧ b ≤ 122
  · rw [if_pos g]
    have both := both 1 (by rw [if_pos g])
    rcases s01 with s0 | s1
    · obtain ⟨t1, t2⟩ := stp 0 (zer s0).symm
      refine b172_188 hG TM_eqo (by intros; omega) (by intros; omega) (a13) (by intros; omega) (a13) (by intros; omega) (a13) ((up_n (by omega)).trans a4) ?_ rfl ?_ rfl ?_ ?_ ?_
      all_goals intros
      all_goals first | exact t1 (by omega) | exact t2 (by omega) | omega
    · refine b172_188 hG TM_eqo (by intros; omega) (by intros; omega) (a13) (by intros; omega) (a13) (by intros; omega) (a13) ((up_n (by omega)).trans a4) ?_ rfl ?_ rfl ?_ ?_ ?_
      all_goals intros
      all_goals first | exact here (both (by omega)) | omega
  · rw [if_neg g]
    have both := both 0 (by rw [if_neg g])
    have dg : T (d + 1) 172 198 [some (aR 188), none, some (aI u), some (aI v3)] [aI 1] (G, c) (QM Q) := by
      rcases s01 with s0 | s1
      · obtain ⟨t1, t2⟩ := stp 0 (zer s0).symm
        refine b172_198 hG TM_eqo (by intros; omega) (by intros; omega) ?_ (a13) (by intros; omega) (by intros; omega) ?_ ?_ ?_ (by intros; omega) ?_ ?_ ?_ (by intros; omega) (a13) (by intros; omega) (a13) (by intros; omega) (a13) ((up_n (by omega)).trans a4) ?_ rfl ?_ rfl ?_ ?_
        all_goals intros
        all_goals first | exact t1 (by omega) | exact t2 (by omega) | omega
      · refine b172_198 hG TM_eqo (by intros; omega) (by intros; omega) ?_ (a13) (by intros; omega) (by intros; omega) ?_ ?_ ?_ (by intros; omega) ?_ ?_ ?_ (by intros; omega) (a13) (by intros; omega) (a13) (by intros; omega) (a13) ((up_n (by omega)).trans a4) ?_ rfl ?_ rfl ?_ ?_
        all_goals intros
        all_goals first | exact here (both (by omega)) | omega
    refine b172_188 hG TM_eqo (by intros; omega) (by intros; omega) (a13) (by intros; omega) (a13) (by intros; omega) (a13) ((up_n (by omega)).trans a4) ?_ rfl ?_ rfl ?_ ?_ ?_
    all_goals intros
    all_goals first | omega | skip
    refine here ?_
    refine b172_195 hG ?_
    refine r_dig hG (by omega) ?_
    rw [if_pos (by omega)]
    exact dg
theorem r_run (hG : Shp G) (hB : ∀ i, 0 ≤ i → i < len → q_and (c 189 i) 255 = B i ∧ 0 ≤ B i ∧ B i ≤ 255) (e3 : c 188 3 = len) (hl : len ≤ 940) (hq : 0 ≤ q ∧ q < len) (hr : (97 ≤ B q ∧ B q ≤ 122) ∨ (48 ≤ B q ∧ B q ≤ 57)) (hu : u = if 97 ≤ B q ∧ B q ≤ 122 then 1 else 0) (e13 : c 188 13 = 0) (e4 : c 188 4 = q) (e12 : c 188 12 = q) (hz : ∀ c', FrN c c' → c' 188 12 = q → c' 188 4 = reE B len q → c' 188 11 = rR B q (tKn B len q) → (rR B q (tKn B len q) = 2 → c' 188 14 = lV B q (tKn B len q)) → (rR B q (tKn B len q) = 1 → c' 188 17 = lG B q (tKn B len q)) → Q none (G, c')) : T (d + 1) 172 168 [some (aR 188), none, none, none] [aI u] (G, c) (QM Q) := by
  have hu01 : u = 0 ∨ u = 1 := by rw [hu]; split <;> omega
  have fin : ∀ (k : Nat) (c1 : CC), q + k ≤ len → 1 ≤ k → reE B len q = q + k → lL B q k + lD B q k = k → (u = 1 → 1 ≤ lL B q k) → (u = 0 → 1 ≤ lD B q k) → SRn B q c c1 k → T (d + 1) 172 198 [some (aR 188), none, some (aI u), some (aI (smF B q u k))] [aI 0] (G, c1) (QM Q) := by
    intro k c1 h0 h1 h2 h3 h4 h5 ⟨f1, a13, a4, a12, aW, aN⟩
    have hK : tKn B len q = k := by unfold tKn; omega
    rw [hK, h2] at hz
    have hb := lLD_b (B := B) (i := q) k
    have done : ∀ v, v = rR B q k → Q none (G, q_up c1 188 11 v) := by
      intro v hv
      refine hz _ (FrN_up f1 (by omega)) (by rw [up_n (by omega)]; exact a12) (by rw [up_n (by omega)]; exact a4) (by rw [up_e]; exact hv) (fun e => ?_) (fun e => ?_)
      · rw [up_n (by omega)]
        unfold rR at e
        by_cases g1 : lL B q k = 0 ∧ lD B q k ≤ 3
        · exact aN g1.1 (by omega)
        · rw [if_neg g1] at e
          split at e <;> omega
      · rw [up_n (by omega)]
        unfold rR at e
        by_cases g1 : lL B q k = 0 ∧ lD B q k ≤ 3
        · rw [if_pos g1] at e; omega
        · rw [if_neg g1] at e
          by_cases g2 : lD B q k = 0 ∧ lL B q k ≤ 7
          · exact aW (by omega)
          · rw [if_neg g2] at e; omega
    refine r_fin hG hl hq.1 h0 h1 h3 ⟨hb.1, hb.2.2.1⟩ h4 h5 hu01 a13 a4 ?_ (done _ rfl)
    unfold smF
    by_cases g : (u = 1 ∧ lD B q k = 0) ∨ (u = 0 ∧ lL B q k = 0)
    · rw [if_pos g]; exact Or.inr ⟨rfl, g⟩
    · rw [if_neg g]; exact Or.inl ⟨rfl, g⟩
  have key : ∀ (n k : Nat) (c1 : CC), q + k + n = len → reE B len q = rnE B len n (q + k) → lL B q k + lD B q k = k → (1 ≤ k → u = 1 → 1 ≤ lL B q k) → (1 ≤ k → u = 0 → 1 ≤ lD B q k) → SRn B q c c1 k → T (d + 1) 172 181 [some (aR 188), none, some (aI u), some (aI (smF B q u k))] [] (G, c1) (QM Q) := by
    intro n
    induction n with
    | zero =>
      intro k c1 h1 h2 h3 h4 h5 h6
      have hk1 : 1 ≤ k := by omega
      have h2 : reE B len q = q + k := h2
      have o := fin k c1 (by omega) hk1 h2 h3 (h4 hk1) (h5 hk1) h6
      obtain ⟨f1, a13, a4, a12, aW, aN⟩ := h6
      have hB1 : ∀ i, 0 ≤ i → i < len → q_and (c1 189 i) 255 = B i ∧ 0 ≤ B i ∧ B i ≤ 255 := fun i p1 p2 => by rw [f1.1 189 (by omega)]; exact hB i p1 p2
      have a3 : c1 188 3 = len := (f1.2 3 (by omega) (by omega) (by omega) (by omega) (by omega) (by omega)).trans e3
      have hb := lLD_b (B := B) (i := q) k
      generalize smF B q u k = v3 at *
      refine b172_181 hG ?_
      refine r_here hG hB1 a3 a4 hl (by omega) (by omega) ?_
      rw [if_neg (by omega)]
      refine b172_185 hG ?_
      refine r_let hG (by omega) ?_
      rw [if_neg (by omega)]
      refine b172_188 hG TM_eqo (by intros; omega) (by intros; omega) (a13) (by intros; omega) (a13) (by intros; omega) (a13) ((up_n (by omega)).trans a4) ?_ rfl ?_ rfl ?_ ?_ ?_
      all_goals intros
      all_goals first | omega | skip
      refine r_here hG hB1 a3 a4 hl (by omega) (by omega) ?_
      rw [if_neg (by omega)]
      refine b172_195 hG ?_
      refine r_dig hG (by omega) ?_
      rw [if_neg (by omega)]
      exact o
    | succ n ih =>
      intro k c1 h1 h2 h3 h4 h5 h6
      have hSR := h6
      obtain ⟨f1, a13, a4, a12, aW, aN⟩ := h6
      have hB1 : ∀ i, 0 ≤ i → i < len → q_and (c1 189 i) 255 = B i ∧ 0 ≤ B i ∧ B i ≤ 255 := fun i p1 p2 => by rw [f1.1 189 (by omega)]; exact hB i p1 p2
      have a3 : c1 188 3 = len := (f1.2 3 (by omega) (by omega) (by omega) (by omega) (by omega) (by omega)).trans e3
      have hb := lLD_b (B := B) (i := q) k
      have hbb := (hB1 (q + k) (by omega) (by omega)).2
      have here : ∀ {Q2 : Option AV → HH → Prop}, Q2 (some (aI (B (q + k)))) (G, c1) → TM d 169 [aR 188] (G, c1) Q2 := by
        intro Q2 h
        refine r_here hG hB1 a3 a4 hl (by omega) (by omega) ?_
        rw [if_pos (by omega)]
        exact h
      by_cases hr1 : (97 ≤ B (q + k) ∧ B (q + k) ≤ 122) ∨ (48 ≤ B (q + k) ∧ B (q + k) ≤ 57)
      · have eL : lL B q (k + 1) = lL B q k + (if 97 ≤ B (q + k) ∧ B (q + k) ≤ 122 then 1 else 0) := rfl
        have eD : lD B q (k + 1) = lD B q k + (if 48 ≤ B (q + k) ∧ B (q + k) ≤ 57 then 1 else 0) := rfl
        have hk0 : k = 0 → B (q + k) = B q := fun h => by rw [h]; congr 1; omega
        unfold rnE at h2
        rw [if_pos ⟨by omega, hr1⟩] at h2
        have hv : q + ((k + 1 : Nat) : Int) = q + k + 1 := by omega
        have nxt : ∀ v3, v3 = smF B q u (k + 1) → ∀ c', SRn B q c c' (k + 1) → T (d + 1) 172 181 [some (aR 188), none, some (aI u), some (aI v3)] [] (G, c') (QM Q) := by
          intro v3 hv3 c' hc'
          rw [hv3]
          refine ih (k + 1) c' (by omega) (by rw [hv]; exact h2) ?_ ?_ ?_ hc'
          · rw [eL, eD]
            by_cases g : 97 ≤ B (q + k) ∧ B (q + k) ≤ 122
            · rw [if_pos g, if_neg (by omega)]; omega
            · rw [if_neg g, if_pos (by omega)]; omega
          · intro _ g1
            rw [eL]
            by_cases g : k = 0
            · have g3 := hk0 g
              have g2 : 97 ≤ B q ∧ B q ≤ 122 := by
                by_cases g2 : 97 ≤ B q ∧ B q ≤ 122
                · exact g2
                · rw [if_neg g2] at hu; omega
              rw [if_pos (by omega)]; omega
            · have := h4 (by omega) g1
              split <;> omega
          · intro _ g1
            rw [eD]
            by_cases g : k = 0
            · have g3 := hk0 g
              have g2 : ¬ (97 ≤ B q ∧ B q ≤ 122) := by
                intro g2
                rw [if_pos g2] at hu; omega
              rw [if_pos (by omega)]; omega
            · have := h5 (by omega) g1
              split <;> omega
        have stp : ∀ v3, v3 = smF B q u (k + 1) → _ := fun v3 hv3 => r_stp hG hB1 a3 hl hq.1 (by omega) hr1 hSR (nxt v3 hv3)
        have sm : smF B q u (k + 1) = if smF B q u k = 0 then 0 else if (if 97 ≤ B (q + k) ∧ B (q + k) ≤ 122 then (1 : Int) else 0) = u then 1 else 0 := by
          unfold smF
          rw [eL, eD]
          exact sm_gen hu01 hr1 hb.1 hb.2.2.1
        have s01 : smF B q u k = 0 ∨ smF B q u k = 1 := by unfold smF; split <;> omega
        exact r_cont hG (fun h => here h) hbb hr1 a13 a4 (by omega) hu01 s01 sm (fun v hv => stp v hv)
      · have h2' : reE B len q = q + k := by
          unfold rnE at h2
          rw [if_neg (by omega)] at h2
          exact h2
        have hk1 : 1 ≤ k := by
          by_cases g : k = 0
          · exfalso
            apply hr1
            rw [g, show q + ((0 : Nat) : Int) = q by omega]
            exact hr
          · omega
        have o := fin k c1 (by omega) hk1 h2' h3 (h4 hk1) (h5 hk1) hSR
        clear ih hz fin
        generalize smF B q u k = v3 at *
        refine b172_181 hG ?_
        refine here ?_
        refine b172_185 hG ?_
        refine r_let hG (by omega) ?_
        rw [if_neg (by omega)]
        refine b172_188 hG TM_eqo (by intros; omega) (by intros; omega) (a13) (by intros; omega) (a13) (by intros; omega) (a13) ((up_n (by omega)).trans a4) ?_ rfl ?_ rfl ?_ ?_ ?_
        all_goals intros
        all_goals first | omega | skip
        refine here ?_
        refine b172_195 hG ?_
        refine r_dig hG (by omega) ?_
        rw [if_neg (by omega)]
        exact o
  refine b172_168 hG ?_
  have e0 : smF B q u 0 = 1 := by
    unfold smF
    rw [if_pos]
    rcases hu01 with h | h
    · exact Or.inr ⟨h, rfl⟩
    · exact Or.inl ⟨h, rfl⟩
  have := key (len - q).toNat 0 (q_up (q_up c 188 17 0) 188 14 0) (by omega) (by rw [show q + ((0 : Nat) : Int) = q by omega]; rfl) rfl (fun h => by omega) (fun h => by omega) ⟨FrN_up (FrN_up ⟨fun _ _ => rfl, fun _ _ _ _ _ _ _ => rfl⟩ (by omega)) (by omega), ?_, ?_, ?_, fun _ => ?_, fun _ _ => ?_⟩
  · rw [e0] at this
    exact this
  · rw [up_n (by omega), up_n (by omega)]; exact e13
  · rw [up_n (by omega), up_n (by omega), e4]; omega
  · rw [up_n (by omega), up_n (by omega)]; exact e12
  · rw [up_n (by omega), up_e]; rfl
  · rw [up_e]; rfl
end SPtn
