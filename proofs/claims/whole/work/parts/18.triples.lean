/-! runs of the evaluator, as triples -/
section Q19
variable {mi d pc pc' len : Nat} {ins : Instr} {L L' : LV} {st st' : List AV} {h h' : HH} {r : Nat} {i n : Nat}
set_option maxHeartbeats 2000000 in
theorem ev_fuel : ∀ (n d mi pc : Nat) (L : LV) (st : List AV) (h : HH) (x : OO × HH), ev n d mi pc L st h = some x → ev (n + 1) d mi pc L st h = some x := by
  intro n
  induction n with
  | zero => intro d mi pc L st h x he; cases he
  | succ n ih =>
    intro d mi pc L st h x he
    unfold ev at he
    unfold ev
    cases hd : decode (mC mi) pc with
    | error e => rw [hd] at he; cases he
    | ok q =>
      obtain ⟨ins, len⟩ := q
      rw [hd] at he
      dsimp only at he ⊢
      by_cases hl : q_ln ins len = false
      · rw [if_pos hl] at he; cases he
      rw [if_neg hl] at he ⊢
      cases h1 : stL ins L st with
      | some q => rw [h1] at he; exact ih _ _ _ _ _ _ _ he
      | none =>
      rw [h1] at he
      dsimp only at he ⊢
      cases h2 : stP ins st with
      | some q => rw [h2] at he; exact ih _ _ _ _ _ _ _ he
      | none =>
      rw [h2] at he
      dsimp only at he ⊢
      cases h3 : stJ ins pc st with
      | some q => rw [h3] at he; exact ih _ _ _ _ _ _ _ he
      | none =>
      rw [h3] at he
      dsimp only at he ⊢
      cases h4 : stH mi ins st h with
      | some q => rw [h4] at he; exact ih _ _ _ _ _ _ _ he
      | none =>
      rw [h4] at he
      dsimp only at he ⊢
      cases h5 : stR mi ins st with
      | some q => rw [h5] at he; exact he
      | none =>
      rw [h5] at he
      dsimp only at he ⊢
      cases h6 : stC mi ins st with
      | none => rw [h6] at he; exact he
      | some q =>
        obtain ⟨t, k, as, rest⟩ := q
        rw [h6] at he
        dsimp only at he ⊢
        cases d with
        | zero => cases he
        | succ d' =>
          dsimp only at he ⊢
          by_cases ht : t = 13 ∨ t = 14
          · rw [if_pos ht] at he ⊢
            cases d' with
            | zero => cases he
            | succ d2 =>
              dsimp only at he ⊢
              split at he
              · rename_i x0 as' o0 e1 e2
                split at he
                · rename_i hg
                  rw [if_pos hg]
                  split at he
                  · rename_i v h1' hv
                    rw [ih _ _ _ _ _ _ _ hv]
                    dsimp only
                    split at he
                    · rename_i hg2
                      rw [if_pos hg2]
                      exact ih _ _ _ _ _ _ _ he
                    · cases he
                  · rename_i z h1' hv
                    rw [ih _ _ _ _ _ _ _ hv]
                    exact ih _ _ _ _ _ _ _ he
                  · cases he
                · cases he
              · cases he
          · rw [if_neg ht] at he ⊢
            split at he
            · rename_i hg
              rw [if_pos hg]
              split at he
              · rename_i r0 h1' hv
                rw [ih _ _ _ _ _ _ _ hv]
                exact ih _ _ _ _ _ _ _ he
              · cases he
            · cases he
theorem ev_more {m : Nat} (hm : n ≤ m) {x : OO × HH} (he : ev n d mi pc L st h = some x) : ev m d mi pc L st h = some x := by
  induction hm with
  | refl => exact he
  | step _ ih => exact ev_fuel _ _ _ _ _ _ _ _ ih
/-- it comes to an end, and so -/
def T (d mi pc : Nat) (L : LV) (st : List AV) (h : HH) (Q : OO → HH → Prop) : Prop := ∃ (n : Nat) (o : OO) (h' : HH), ev n d mi pc L st h = some (o, h') ∧ Q o h'
variable {Q Q' : OO → HH → Prop}
theorem T_mono (hq : ∀ o h', Q o h' → Q' o h') (k : T d mi pc L st h Q) : T d mi pc L st h Q' := by
  obtain ⟨n, o, h', he, h1⟩ := k
  exact ⟨n, o, h', he, hq o h' h1⟩
theorem q_nf (hl : q_ln ins len = true) : ¬ q_ln ins len = false := by rw [hl]; decide
theorem e_L (hd : decode (mC mi) pc = .ok (ins, len)) (hl : q_ln ins len = true) (hs : stL ins L st = some (L', st')) (k : T d mi (pc + len) L' st' h Q) : T d mi pc L st h Q := by
  obtain ⟨n, o, h', he, h1⟩ := k
  refine ⟨n + 1, o, h', ?_, h1⟩
  unfold ev
  rw [hd]
  dsimp only
  rw [if_neg (q_nf hl), hs]
  exact he
theorem e_P (hd : decode (mC mi) pc = .ok (ins, len)) (hl : q_ln ins len = true) (h0 : stL ins L st = none) (hs : stP ins st = some st') (k : T d mi (pc + len) L st' h Q) : T d mi pc L st h Q := by
  obtain ⟨n, o, h', he, h1⟩ := k
  refine ⟨n + 1, o, h', ?_, h1⟩
  unfold ev
  rw [hd]
  dsimp only
  rw [if_neg (q_nf hl), h0, hs]
  exact he
theorem e_J (hd : decode (mC mi) pc = .ok (ins, len)) (hl : q_ln ins len = true) (h0 : stL ins L st = none) (h2 : stP ins st = none) (hs : stJ ins pc st = some (pc', st')) (k : T d mi pc' L st' h Q) : T d mi pc L st h Q := by
  obtain ⟨n, o, h', he, h1⟩ := k
  refine ⟨n + 1, o, h', ?_, h1⟩
  unfold ev
  rw [hd]
  dsimp only
  rw [if_neg (q_nf hl), h0]
  dsimp only
  rw [h2]
  dsimp only
  rw [hs]
  exact he
theorem e_H (hd : decode (mC mi) pc = .ok (ins, len)) (hl : q_ln ins len = true) (h0 : stL ins L st = none) (h2 : stP ins st = none) (h3 : stJ ins pc st = none) (hs : stH mi ins st h = some (st', h')) (k : T d mi (pc + len) L st' h' Q) : T d mi pc L st h Q := by
  obtain ⟨n, o, h', he, h1⟩ := k
  refine ⟨n + 1, o, h', ?_, h1⟩
  unfold ev
  rw [hd]
  dsimp only
  rw [if_neg (q_nf hl), h0]
  dsimp only
  rw [h2]
  dsimp only
  rw [h3]
  dsimp only
  rw [hs]
  exact he
theorem e_R {x : Option AV} (hd : decode (mC mi) pc = .ok (ins, len)) (hl : q_ln ins len = true) (h0 : stL ins L st = none) (h2 : stP ins st = none) (h3 : stJ ins pc st = none) (h4 : stH mi ins st h = none) (hs : stR mi ins st = some x) (k : Q (.inl x) h) : T d mi pc L st h Q := by
  refine ⟨1, .inl x, h, ?_, k⟩
  unfold ev
  rw [hd]
  dsimp only
  rw [if_neg (q_nf hl), h0]
  dsimp only
  rw [h2]
  dsimp only
  rw [h3]
  dsimp only
  rw [h4]
  dsimp only
  rw [hs]
/-- a method, by its arguments -/
def TM (d k : Nat) (as : List AV) (h : HH) (Q : Option AV → HH → Prop) : Prop := T d k 0 (q_ent k as) [] h (fun o h' => match o with | .inl r => Q r h' | .inr _ => False)
theorem e_C {t k : Nat} {as rest : List AV} (hd : decode (mC mi) pc = .ok (ins, 3)) (hl : q_ln ins 3 = true) (h0 : stL ins L st = none) (h2 : stP ins st = none) (h3 : stJ ins pc st = none) (h4 : stH mi ins st h = none) (h5 : stR mi ins st = none) (hs : stC mi ins st = some (t, k, as, rest)) (ht : ¬ (t = 13 ∨ t = 14)) (hrv : q_recv h t k as = true) (hle : (q_al as).length ≤ mL k)
    (hm : TM d k as h (fun r h' => T (d + 1) mi (pc + 3) L (r.toList ++ rest) h' Q)) : T (d + 1) mi pc L st h Q := by
  obtain ⟨n, o, h', he, h1⟩ := hm
  rcases o with r | z
  · obtain ⟨n2, o2, h2', he2, hq⟩ := h1
    refine ⟨n + n2 + 1, o2, h2', ?_, hq⟩
    unfold ev
    rw [hd]
    dsimp only
    rw [if_neg (q_nf hl), h0]
    dsimp only
    rw [h2]
    dsimp only
    rw [h3]
    dsimp only
    rw [h4]
    dsimp only
    rw [h5]
    dsimp only
    rw [hs]
    dsimp only
    rw [if_neg ht, if_pos (by rw [hrv, decide_eq_true hle]; rfl), ev_more (show n ≤ n + n2 by omega) he]
    exact ev_more (by omega) he2
  · cases h1
end Q19
