section SPjd
variable {d kx km mi pc : Nat} {G : GG} {c c' : CC} {ax : List AV} {v v4 : Int} {L : LV} {st : List AV} {h : HH} {Q : OO → HH → Prop}
set_option maxHeartbeats 2000000 in
theorem ev_deep : ∀ (n d mi pc : Nat) (L : LV) (st : List AV) (h : HH) (x : OO × HH), ev n d mi pc L st h = some x → ev n (d + 1) mi pc L st h = some x := by
  intro n
  induction n with
  | zero => intro d mi pc L st h x he; cases he
  | succ n ih =>
    intro d mi pc L st h x he
    unfold ev at he
    unfold ev
    cases hd : decode (mC mi) pc with
    | error e => rw [hd] at he; cases he
    | ok q =>
      obtain ⟨ins, len⟩ := q
      rw [hd] at he
      dsimp only at he ⊢
      by_cases hl : q_ln ins len = false
      · rw [if_pos hl] at he; cases he
      rw [if_neg hl] at he ⊢
      cases h1 : stL ins L st with
      | some q => rw [h1] at he; exact ih _ _ _ _ _ _ _ he
      | none =>
      rw [h1] at he
      dsimp only at he ⊢
      cases h2 : stP ins st with
      | some q => rw [h2] at he; exact ih _ _ _ _ _ _ _ he
      | none =>
      rw [h2] at he
      dsimp only at he ⊢
      cases h3 : stJ ins pc st with
      | some q => rw [h3] at he; exact ih _ _ _ _ _ _ _ he
      | none =>
      rw [h3] at he
      dsimp only at he ⊢
      cases h4 : stH mi ins st h with
      | some q => rw [h4] at he; exact ih _ _ _ _ _ _ _ he
      | none =>
      rw [h4] at he
      dsimp only at he ⊢
      cases h5 : stR mi ins st with
      | some q => rw [h5] at he; exact he
      | none =>
      rw [h5] at he
      dsimp only at he ⊢
      cases h6 : stC mi ins st with
      | none => rw [h6] at he; exact he
      | some q =>
        obtain ⟨t, k, as, rest⟩ := q
        rw [h6] at he
        dsimp only at he ⊢
        cases d with
        | zero => cases he
        | succ d' =>
          dsimp only at he ⊢
          by_cases ht : t = 13 ∨ t = 14
          · rw [if_pos ht] at he ⊢
            cases d' with
            | zero => cases he
            | succ d2 =>
              dsimp only at he ⊢
              split at he
              · rename_i x0 as' o0 e1 e2
                split at he
                · rename_i hg
                  rw [if_pos hg]
                  split at he
                  · rename_i v h1' hv
                    rw [ih _ _ _ _ _ _ _ hv]
                    dsimp only
                    split at he
                    · rename_i hg2
                      rw [if_pos hg2]
                      exact ih _ _ _ _ _ _ _ he
                    · cases he
                  · rename_i z h1' hv
                    rw [ih _ _ _ _ _ _ _ hv]
                    exact ih _ _ _ _ _ _ _ he
                  · cases he
                · cases he
              · cases he
          · rw [if_neg ht] at he ⊢
            split at he
            · rename_i hg
              rw [if_pos hg]
              split at he
              · rename_i r0 h1' hv
                rw [ih _ _ _ _ _ _ _ hv]
                exact ih _ _ _ _ _ _ _ he
              · cases he
            · cases he
theorem T_deep (k : T d mi pc L st h Q) : T (d + 1) mi pc L st h Q := by
  obtain ⟨n, o, h', e, q⟩ := k
  exact ⟨n, o, h', ev_deep _ _ _ _ _ _ _ _ e, q⟩
theorem TM_deep {d k : Nat} {as : List AV} {Q : Option AV → HH → Prop} (x : TM d k as h Q) : TM (d + 1) k as h Q := T_deep x
theorem T_all {ι : Type} {Qi : ι → OO → HH → Prop} (i0 : ι) (k : ∀ i, T d mi pc L st h (Qi i)) : T d mi pc L st h (fun o h' => ∀ i, Qi i o h') := by
  obtain ⟨n, o, h', e, _⟩ := k i0
  refine ⟨n, o, h', e, fun i => ?_⟩
  obtain ⟨n2, o2, h2, e2, q2⟩ := k i
  have a := ev_more (show n ≤ n + n2 by omega) e
  have b := ev_more (show n2 ≤ n + n2 by omega) e2
  rw [a] at b
  have c := Option.some.inj b
  have c1 : o = o2 := congrArg Prod.fst c
  have c2 : h' = h2 := congrArg Prod.snd c
  rw [c1, c2]; exact q2
theorem GR_out {cA cB cA' cB' : CC} (h : GR cA cB) (a : ∀ r, r < 188 → ¬ r = 0 → cA' r = cA r) (b : ∀ r, 188 ≤ r → r < 211 → cB' r = cB r) : GR cA' cB' :=
  GR_keep h ⟨fun r p => a r (by omega) (by omega), by rw [a 2 (by omega) (by omega)], by rw [a 2 (by omega) (by omega)], fun i _ _ => by rw [a 120 (by omega) (by omega)]⟩ (fun r p => a r (by omega) (by omega)) ⟨fun r p => b r (by omega) (by omega), fun i p => by rw [b 188 (by omega) (by omega)], fun j _ _ => by rw [b 193 (by omega) (by omega)], by rw [b 190 (by omega) (by omega)]; exact SmR_refl _⟩ (b 190 (by omega) (by omega)) (by rw [b 188 (by omega) (by omega)]) (b 195 (by omega) (by omega))
end SPjd
