section SPjb
variable {d kx km mi pc : Nat} {G : GG} {c c' cA cB cA' cB' : CC} {ax : List AV} {v : Int} {L : LV} {st : List AV} {h : HH} {Q : OO → HH → Prop} {ins : Instr}
theorem e_XC {t k x o : Nat} {as rest as' : List AV} (hd : decode (mC mi) pc = .ok (ins, 3)) (hl : q_ln ins 3 = true) (h0 : stL ins L st = none) (h2 : stP ins st = none) (h3 : stJ ins pc st = none) (h4 : stH mi ins st h = none) (h5 : stR mi ins st = none) (hs : stC mi ins st = some (t, k, as, rest)) (ht : t = 13 ∨ t = 14) (e1 : as.dropLast = aR x :: as') (e2 : as.getLast? = some (aR o)) (hx : (q_ok h x 11 && q_ok h o 21 && q_ints as' && decide ((q_al (aR x :: as')).length ≤ mL k)) = true)
    (hm : T d k 0 (q_ent k (aR x :: as')) [] h (QX (fun r h1 => ∃ v : Int, r = some (aI v) ∧ (q_in v && q_ok h1 o 21 && q_ix h1 o 0) = true ∧ T (d + 2) mi (pc + 3) L (aI 0 :: rest) (q_sc h1 (q_up h1.2 o 0 v)) Q) (fun h1 => T (d + 2) mi (pc + 3) L (aI 1 :: rest) (q_x1 h1) Q))) : T (d + 2) mi pc L st h Q := by
  obtain ⟨n, oo, h', he, h1⟩ := hm
  rcases oo with r | z
  · obtain ⟨v, hr, hv, n2, o2, h2', he2, hq⟩ := h1
    refine ⟨n + n2 + 1, o2, h2', ?_, hq⟩
    unfold ev
    rw [hd]
    dsimp only
    rw [if_neg (q_nf hl), h0]
    dsimp only
    rw [h2]
    dsimp only
    rw [h3]
    dsimp only
    rw [h4]
    dsimp only
    rw [h5]
    dsimp only
    rw [hs]
    dsimp only
    rw [if_pos ht, e1, e2]
    dsimp only
    rw [if_pos hx, ev_more (show n ≤ n + n2 by omega) he, hr]
    dsimp only
    rw [if_pos hv]
    exact ev_more (by omega) he2
  · obtain ⟨n2, o2, h2', he2, hq⟩ := h1
    refine ⟨n + n2 + 1, o2, h2', ?_, hq⟩
    unfold ev
    rw [hd]
    dsimp only
    rw [if_neg (q_nf hl), h0]
    dsimp only
    rw [h2]
    dsimp only
    rw [h3]
    dsimp only
    rw [h4]
    dsimp only
    rw [h5]
    dsimp only
    rw [hs]
    dsimp only
    rw [if_pos ht, e1, e2]
    dsimp only
    rw [if_pos hx, ev_more (show n ≤ n + n2 by omega) he]
    exact ev_more (by omega) he2
end SPjb
