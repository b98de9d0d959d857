section SPjm
variable {L : Nat} {xs : Nat → Int32} {h2 h4 : HH} {c : CC}
abbrev k_Q (sc : Nat × (Nat → Int32)) : Option AV → HH → Prop := fun r h' => r = some (aI 1) ∧ nC h' ≤ 601024 ∧ nU h' ≤ 7293034
theorem k_loop (hL : L ≤ 3072) (a : k_G h4 = true) (b : k_C h4.2 = true) : T 60 271 23 [some (aR q_S), some (aR 1), some (aR 188), some (aR 211), some (aI 0), none, none] [] (q_nw (sS h4 (L, xs)) 21 1 (fun _ => 0)) (QM (k_Q (L, xs))) := by
  obtain ⟨hG, hU⟩ := k_Shp (sc := (L, xs)) a
  have e1 : h4.1.1 = 210 := by
    obtain ⟨e1, _⟩ := q_bool2 a
    exact of_decide_eq_true e1
  have g0 := k_GR b
  have hr : ∀ r, r < 211 → (q_nw (sS h4 (L, xs)) 21 1 (fun _ => 0)).2 r = h4.2 r := fun r p => by
    show (q_uf h4.2 (h4.1.1 + 1) _) r = _
    exact uf_n (by omega)
  have g : GR (q_nw (sS h4 (L, xs)) 21 1 (fun _ => 0)).2 (q_nw (sS h4 (L, xs)) 21 1 (fun _ => 0)).2 := GR_out g0 (fun r p _ => hr r (by omega)) (fun r _ p => hr r p)
  have z : (q_nw (sS h4 (L, xs)) 21 1 (fun _ => 0)).2 0 0 = 0 := by
    rw [hr 0 (by omega)]; exact k_0 b (by decide)
  have hl : (q_nw (sS h4 (L, xs)) 21 1 (fun _ => 0)).1.2.2.2.2.1 = L := rfl
  generalize hh : q_nw (sS h4 (L, xs)) 21 1 (fun _ => 0) = h5 at hG hU g z hl ⊢
  obtain ⟨G, c⟩ := h5
  have hG : Shp G := hG
  have g : GR c c := g
  have z : c 0 0 = 0 := z
  have hl : G.2.2.2.2.1 = L := hl
  refine law_loop (d := 8) (Q := k_Q (L, xs)) hG (by rw [hl]; exact hL) (fun c2 _ hz => ?_) L 0 c (by rw [hl]; omega) (by omega) (by omega) g (by rw [z]; omega)
  have e2 : G.1 = 211 := hG.1
  have hU : G.2.1 ≤ 20001 := hU
  refine ⟨rfl, ?_, ?_⟩
  · show G.1 + (c2 0 0).toNat ≤ 601024
    omega
  · show G.2.1 + 6 * (c2 0 0).toNat ≤ 7293034
    omega
theorem k_new {sc : Nat × (Nat → Int32)} {h : HH} {k n : Nat} {f : Int → Int} (e1 : h.1.1 < 2000) (e2 : n ≤ 2000) (e3 : h.2 0 0 = 0) : q_new (sS h sc) k n f = some (h.1.1 + 1, sS (q_nw h k n f) sc) := by
  rw [sS_new]
  unfold q_new
  rw [if_pos ⟨e1, e2, e3⟩]
  rfl
theorem k_stN {mi i ci z1 : Nat} {z2 : Int} {st : List AV} {h : HH} {q : Nat × HH} (hp : pl (mO mi) i = some (6, ci, z1, z2)) (hc : ci < 13) (hn : q_new h ci (q_N ci) (fun _ => 0) = some q) : stH mi (.new i) st h = some (aR q.1 :: st, q.2) := by
  unfold stH
  dsimp only
  rw [hp]
  dsimp only
  rw [if_pos ⟨rfl, hc⟩, hn]
  rfl
theorem k_stA {mi : Nat} {st : List AV} {h : HH} {q : Nat × HH} (hn : q_new h 21 1 (fun _ => 0) = some q) : stH mi (.newarray .long) (aI 1 :: st) h = some (aR q.1 :: st, q.2) := by
  show (if (0 : Int) ≤ 1 ∧ (1 : Int) ≤ 1500 then (q_new h 21 1 (fun _ => 0)).map (fun q => (aR q.1 :: st, q.2)) else none) = _
  rw [if_pos ⟨by decide, by decide⟩, hn]
  rfl
theorem k_stC {mi i k z1 a : Nat} {z2 : Int} (hp : pl (mO mi) i = some (4, k, z1, z2)) (hk : (decide (mA k = 1) && decide (k < q_law)) = true) : stC mi (.invokespecial i) [aR a, aR a] = some (4, k, [aR a], [aR a]) := by
  obtain ⟨h1, h2⟩ := q_bool2 hk
  have h1 : mA k = 1 := of_decide_eq_true h1
  show (match (pl (mO mi) i).bind (fun q => if q.1 = 4 ∨ q.1 = 5 then some (q.1, q.2.1) else none) with | some (t, k) => (let na := if t = 13 ∨ t = 14 then mA k + 1 else mA k; if na ≤ 2 ∧ q_csum (List.drop na [aR a, aR a]) ≤ 8 ∧ k < q_law then some (t, k, (List.take na [aR a, aR a]).reverse, List.drop na [aR a, aR a]) else none) | none => none) = _
  rw [hp]
  show (if mA k ≤ 2 ∧ q_csum (List.drop (mA k) [aR a, aR a]) ≤ 8 ∧ k < q_law then some (4, k, (List.take (mA k) [aR a, aR a]).reverse, List.drop (mA k) [aR a, aR a]) else none) = some (4, k, [aR a], [aR a])
  rw [h1, if_pos ⟨by omega, (show (1 + 0 : Nat) ≤ 8 by omega), of_decide_eq_true h2⟩]
  rfl
theorem k_law (hL : L ≤ 3072) : T 60 271 0 q_L0 [] (q_h0 L xs) (QM (k_Q (L, xs))) := by
  obtain ⟨h2, r1, a⟩ := k_of k_all
  obtain ⟨f1, a⟩ := q_bool2 a
  obtain ⟨f2, a⟩ := q_bool2 a
  have f1 : h2.1.1 = 187 := of_decide_eq_true f1
  have f2 : h2.2 0 0 = 0 := of_decide_eq_true f2
  obtain ⟨h4, r2, a⟩ := k_of a
  obtain ⟨a4, b4⟩ := q_bool2 a
  have f3 : h4.1.1 = 210 := by
    obtain ⟨e1, _⟩ := q_bool2 a4
    exact of_decide_eq_true e1
  have f4 : h4.2 0 0 = 0 := k_0 b4 (by decide)
  have p8 : pl (mO 271) 8 = some (6, 11, 0, 0) := by decide +kernel
  have p19 : pl (mO 271) 19 = some (4, 109, 0, 0) := by decide +kernel
  have p20 : pl (mO 271) 20 = some (6, 12, 0, 0) := by decide +kernel
  have p22 : pl (mO 271) 22 = some (4, 168, 0, 0) := by decide +kernel
  have s1 := ev_scr (sc := (L, xs)) _ _ _ _ _ _ _ _ _ (by decide) (evD_ev _ _ _ _ _ _ _ _ r1)
  have s2 := ev_scr (sc := (L, xs)) _ _ _ _ _ _ _ _ _ (by decide) (evD_ev _ _ _ _ _ _ _ _ r2)
  clear r1 r2
  have n1 : q_new (q_h0 L xs) 11 (q_N 11) (fun _ => 0) = some (1, sS k_h1 (L, xs)) := k_new (sc := (L, xs)) (h := q_h0 0 (fun _ => 0)) (k := 11) (n := q_N 11) (f := fun _ => 0) (by decide) (by decide) rfl
  have n2 : q_new (sS h2 (L, xs)) 12 (q_N 12) (fun _ => 0) = some (188, sS (k_h3 h2) (L, xs)) := by
    have e := k_new (sc := (L, xs)) (h := h2) (k := 12) (n := q_N 12) (f := fun _ => 0) (by omega) (by decide) f2
    rw [f1] at e
    exact e
  have n3 : q_new (sS h4 (L, xs)) 21 1 (fun _ => 0) = some (211, q_nw (sS h4 (L, xs)) 21 1 (fun _ => 0)) := by
    have e := k_new (sc := (L, xs)) (h := h4) (k := 21) (n := 1) (f := fun _ => 0) (by omega) (by decide) f4
    rw [f3] at e
    exact e
  refine e_H (st' := [aR 1]) (h' := sS k_h1 (L, xs)) (show decode (mC 271) 0 = .ok (.new 8, 3) by decide +kernel) rfl rfl rfl rfl ?_ ?_
  · exact k_stN p8 (by decide) n1
  refine e_P (st' := [aR 1, aR 1]) (show decode (mC 271) 3 = .ok (.dup, 1) by decide +kernel) rfl rfl rfl ?_
  refine e_C (d := 59) (t := 4) (k := 109) (as := [aR 1]) (rest := [aR 1]) (ins := .invokespecial 19) (show decode (mC 271) 4 = .ok (.invokespecial 19, 3) by decide +kernel) rfl rfl rfl rfl ?_ rfl (k_stC p19 (by decide +kernel)) (by decide) ?_ (by decide +kernel) ?_
  · unfold stH
    dsimp only
    rw [p19]
    dsimp only
    rw [if_neg (fun z => absurd z.1 (by decide))]
  · rw [recvS]
    decide +kernel
  refine ⟨_, _, _, s1, ?_⟩
  refine e_L (L' := [some (aR q_S), some (aR 1), none, none, none, none, none]) (st' := []) (show decode (mC 271) 7 = .ok (.astore_n 1, 1) by decide +kernel) rfl (by decide +kernel) ?_
  refine e_H (st' := [aR 188]) (h' := sS (k_h3 h2) (L, xs)) (show decode (mC 271) 8 = .ok (.new 20, 3) by decide +kernel) rfl rfl rfl rfl ?_ ?_
  · exact k_stN p20 (by decide) n2
  refine e_P (st' := [aR 188, aR 188]) (show decode (mC 271) 11 = .ok (.dup, 1) by decide +kernel) rfl rfl rfl ?_
  refine e_C (d := 59) (t := 4) (k := 168) (as := [aR 188]) (rest := [aR 188]) (ins := .invokespecial 22) (show decode (mC 271) 12 = .ok (.invokespecial 22, 3) by decide +kernel) rfl rfl rfl rfl ?_ rfl (k_stC p22 (by decide +kernel)) (by decide) ?_ (by decide +kernel) ?_
  · unfold stH
    dsimp only
    rw [p22]
    dsimp only
    rw [if_neg (fun z => absurd z.1 (by decide))]
  · rw [recvS]
    show q_ok (k_h3 h2) 188 (mO 168) = true
    unfold q_ok
    rw [show gN (k_h3 h2) = h2.1.1 + 1 from rfl, show gS (k_h3 h2) 188 = (if 188 = h2.1.1 + 1 then (12, q_N 12) else h2.1.2.2.1 188) from rfl, f1, if_pos rfl]
    decide +kernel
  refine ⟨_, _, _, s2, ?_⟩
  refine e_L (L' := [some (aR q_S), some (aR 1), some (aR 188), none, none, none, none]) (st' := []) (show decode (mC 271) 15 = .ok (.astore_n 2, 1) by decide +kernel) rfl (by decide +kernel) ?_
  refine e_P (st' := [aI 1]) (show decode (mC 271) 16 = .ok (.iconst 1, 1) by decide +kernel) rfl rfl rfl ?_
  refine e_H (st' := [aR 211]) (h' := q_nw (sS h4 (L, xs)) 21 1 (fun _ => 0)) (show decode (mC 271) 17 = .ok (.newarray .long, 2) by decide +kernel) rfl rfl rfl rfl ?_ ?_
  · exact k_stA n3
  refine e_L (L' := [some (aR q_S), some (aR 1), some (aR 188), some (aR 211), none, none, none]) (st' := []) (show decode (mC 271) 19 = .ok (.astore_n 3, 1) by decide +kernel) rfl (by decide +kernel) ?_
  refine e_P (st' := [aI 0]) (show decode (mC 271) 20 = .ok (.iconst 0, 1) by decide +kernel) rfl rfl rfl ?_
  refine e_L (L' := [some (aR q_S), some (aR 1), some (aR 188), some (aR 211), some (aI 0), none, none]) (st' := []) (show decode (mC 271) 21 = .ok (.istore 4, 2) by decide +kernel) rfl (by decide +kernel) ?_
  exact k_loop hL a4 b4
theorem q_law_holds : q_Law := by
  intro L xs hL
  obtain ⟨n, o, h', e, q⟩ := k_law (xs := xs) hL
  cases o with
  | inr w => exact False.elim q
  | inl r =>
    obtain ⟨q1, q2, q3⟩ := (show r = some (aI 1) ∧ nC h' ≤ 601024 ∧ nU h' ≤ 7293034 from q)
    subst q1
    exact ⟨n, h', e, q2, q3⟩
end SPjm
