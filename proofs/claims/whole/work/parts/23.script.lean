/-! the script plays no part outside the law -/
section Q57
variable {mi d pc : Nat} {ins : Instr} {L L' : LV} {st st' : List AV} {h h' : HH} {sc : Nat × (Nat → Int32)}
def sS (h : HH) (sc : Nat × (Nat → Int32)) : HH := ((h.1.1, h.1.2.1, h.1.2.2.1, h.1.2.2.2.1, sc), h.2)
theorem sS_new {k n : Nat} {f : Int → Int} : q_new (sS h sc) k n f = (q_new h k n f).map (fun q => (q.1, sS q.2 sc)) := by
  unfold q_new
  by_cases hc : h.1.1 < 2000 ∧ n ≤ 2000 ∧ h.2 0 0 = 0
  · rw [if_pos hc, if_pos (show (sS h sc).1.1 < 2000 ∧ n ≤ 2000 ∧ (sS h sc).2 0 0 = 0 from hc)]
    rfl
  · rw [if_neg hc, if_neg (show ¬ ((sS h sc).1.1 < 2000 ∧ n ≤ 2000 ∧ (sS h sc).2 0 0 = 0) from hc)]
    rfl
theorem sS_H (hm : ¬ mi = q_law) (hs : stH mi ins st h = some (st', h')) : stH mi ins st (sS h sc) = some (st', sS h' sc) := by
  have nm : ∀ {k n : Nat} {f : Int → Int} {rest : List AV}, (q_new h k n f).map (fun q => (aR q.1 :: rest, q.2)) = some (st', h') → (q_new (sS h sc) k n f).map (fun q => (aR q.1 :: rest, q.2)) = some (st', sS h' sc) := by
    intro k n f rest hq
    rw [sS_new]
    obtain ⟨q, h1, h2⟩ := q_map_some hq
    rw [h1]
    cases h2
    rfl
  unfold stH at hs ⊢
  split at hs
  case h_1 =>
    unfold q_get at hs ⊢
    split at hs
    · split at hs
      · rename_i hg; cases hs; exact if_pos hg
      · cases hs
    · cases hs
  case h_2 =>
    unfold q_put at hs ⊢
    split at hs
    · split at hs
      · rename_i hg
        rw [if_pos (show _ ∧ _ ∧ q_ok (sS h sc) _ _ = true ∧ _ from hg)]
        split at hs
        · split at hs
          · rename_i hg2; cases hs; exact if_pos hg2
          · cases hs
        · split at hs
          · rename_i hg2; cases hs; exact if_pos hg2
          · cases hs
        · split at hs
          · rename_i hg2; cases hs; exact if_pos hg2
          · cases hs
      · cases hs
    · cases hs
  case h_3 =>
    split at hs
    · rw [if_neg (fun q => hm q.1)] at hs; cases hs
    · rename_i hr
      rw [if_neg hr]
      split at hs
      · rename_i hg; cases hs; exact if_pos hg
      · cases hs
  case h_4 => split at hs; (rename_i hg; cases hs; exact if_pos hg); cases hs
  case h_5 => split at hs; (rename_i hg; cases hs; exact if_pos hg); cases hs
  case h_6 => split at hs; (rename_i hg; cases hs; exact if_pos hg); cases hs
  case h_7 => split at hs; (rename_i hg; cases hs; exact if_pos hg); cases hs
  case h_8 => split at hs; (rename_i hg; cases hs; exact if_pos hg); cases hs
  case h_9 => split at hs; (rename_i hg; cases hs; exact if_pos hg); cases hs
  case h_10 => split at hs; (rename_i hg; cases hs; exact if_pos hg); cases hs
  case h_11 =>
    split at hs
    · cases hs
    · rename_i hr
      rw [if_neg hr]
      split at hs
      · rename_i hg; cases hs; exact if_pos hg
      · cases hs
  case h_12 =>
    split at hs
    · rename_i hp
      split at hs
      · rename_i hg; rw [if_pos hg]; exact nm hs
      · cases hs
    · cases hs
  case h_13 =>
    split at hs
    · rename_i hg
      rw [if_pos hg]
      split at hs
      · exact nm hs
      · exact nm hs
      · exact nm hs
      · exact nm hs
      · cases hs
    · cases hs
  case h_14 =>
    split at hs
    · rename_i hp
      split at hs
      · rename_i hg; rw [if_pos hg]; exact nm hs
      · cases hs
    · cases hs
  case h_15 =>
    split at hs
    · rename_i hp
      split at hs
      · rename_i hg; cases hs; exact if_pos hg
      · cases hs
    · cases hs
  case h_16 =>
    split at hs
    · rename_i hp
      split at hs
      · rename_i hg; cases hs; exact if_pos hg
      · cases hs
    · cases hs
  case h_17 =>
    split at hs
    · rename_i hp
      split at hs
      · rename_i hg; cases hs; exact if_pos hg
      · cases hs
    · cases hs
  case h_18 =>
    split at hs
    · rename_i hp
      split at hs
      · rename_i hg; cases hs; exact if_pos hg
      · cases hs
    · cases hs
  case h_19 =>
    split at hs
    · rename_i hp
      split at hs
      · rename_i ht
        rw [if_pos ht]
        unfold q_ac at hs ⊢
        split at hs
        · split at hs
          · rename_i hg; cases hs; exact if_pos hg
          · cases hs
        · cases hs
      · rename_i ht
        rw [if_neg ht]
        split at hs
        · rename_i ht2
          rw [if_pos ht2]
          split at hs
          · rename_i hg; rw [if_pos hg]; exact nm hs
          · cases hs
        · rename_i ht2
          rw [if_neg ht2]
          split at hs
          · rename_i ht3
            rw [if_pos ht3]
            split at hs
            · split at hs
              · rename_i hg; cases hs; exact if_pos hg
              · cases hs
            · cases hs
          · cases hs
    · cases hs
  case h_20 => cases hs
end Q57
section Q58
variable {sc : Nat × (Nat → Int32)}
theorem okS {h : HH} {r k : Nat} : q_ok (sS h sc) r k = q_ok h r k := rfl
theorem ixS {h : HH} {r : Nat} {i : Int} : q_ix (sS h sc) r i = q_ix h r i := rfl
theorem recvS {h : HH} {t k : Nat} {as : List AV} : q_recv (sS h sc) t k as = q_recv h t k as := by
  unfold q_recv
  rfl
set_option maxHeartbeats 2000000 in
theorem ev_scr : ∀ (n d mi pc : Nat) (L : LV) (st : List AV) (h : HH) (o : OO) (h' : HH), mi < q_law → ev n d mi pc L st h = some (o, h') → ev n d mi pc L st (sS h sc) = some (o, sS h' sc) := by
  intro n
  induction n with
  | zero => intro d mi pc L st h o h' hm he; cases he
  | succ n ih =>
    intro d mi pc L st h o h' hm he
    have hm2 : ¬ mi = q_law := by omega
    unfold ev at he
    unfold ev
    cases hd : decode (mC mi) pc with
    | error e => rw [hd] at he; cases he
    | ok q =>
      obtain ⟨ins, len⟩ := q
      rw [hd] at he
      dsimp only at he ⊢
      by_cases hl : q_ln ins len = false
      · rw [if_pos hl] at he; cases he
      rw [if_neg hl] at he ⊢
      cases h1 : stL ins L st with
      | some q => rw [h1] at he; exact ih _ _ _ _ _ _ _ _ hm he
      | none =>
      rw [h1] at he
      dsimp only at he ⊢
      cases h2 : stP ins st with
      | some q => rw [h2] at he; exact ih _ _ _ _ _ _ _ _ hm he
      | none =>
      rw [h2] at he
      dsimp only at he ⊢
      cases h3 : stJ ins pc st with
      | some q => rw [h3] at he; exact ih _ _ _ _ _ _ _ _ hm he
      | none =>
      rw [h3] at he
      dsimp only at he ⊢
      cases h4 : stH mi ins st h with
      | some q =>
        rw [h4] at he
        rw [sS_H hm2 h4]
        exact ih _ _ _ _ _ _ _ _ hm he
      | none =>
      rw [h4] at he
      have h4' : stH mi ins st (sS h sc) = none := by
        cases h9 : stH mi ins st (sS h sc) with
        | none => rfl
        | some q =>
          have h10 := sS_H (sc := h.1.2.2.2.2) hm2 h9
          rw [show sS (sS h sc) h.1.2.2.2.2 = h from rfl, h4] at h10
          cases h10
      rw [h4']
      dsimp only at he ⊢
      cases h5 : stR mi ins st with
      | some q => rw [h5] at he; cases he; rfl
      | none =>
      rw [h5] at he
      dsimp only at he ⊢
      cases h6 : stC mi ins st with
      | none =>
        rw [h6] at he
        dsimp only at he ⊢
        split at he
        · rename_i hx
          cases he
          exact if_pos hx
        · cases he
      | some q =>
        obtain ⟨t, k, as, rest⟩ := q
        obtain ⟨-, -, -, -, -, -, -, -, hk⟩ := q_stC h6
        rw [h6] at he
        dsimp only at he ⊢
        cases d with
        | zero => cases he
        | succ d' =>
          dsimp only at he ⊢
          by_cases ht : t = 13 ∨ t = 14
          · rw [if_pos ht] at he ⊢
            cases d' with
            | zero => cases he
            | succ d2 =>
              dsimp only at he ⊢
              split at he
              · split at he
                · rename_i hg
                  rw [okS, okS, if_pos hg]
                  split at he
                  · rename_i hv
                    rw [ih _ _ _ _ _ _ _ _ hk hv]
                    dsimp only
                    split at he
                    · rename_i hg2
                      rw [okS, ixS, if_pos hg2]
                      exact ih _ _ _ _ _ _ _ _ hm he
                    · cases he
                  · rename_i hv
                    rw [ih _ _ _ _ _ _ _ _ hk hv]
                    exact ih _ _ _ _ _ _ _ _ hm he
                  · cases he
                · cases he
              · cases he
          · rw [if_neg ht] at he ⊢
            split at he
            · rename_i hg
              rw [recvS, if_pos hg]
              split at he
              · rename_i hv
                rw [ih _ _ _ _ _ _ _ _ hk hv]
                exact ih _ _ _ _ _ _ _ _ hm he
              · cases he
            · cases he
end Q58
