section SPkj
def k_lk {α : Type} (i : Nat) : List (Nat × α) → Option α
  | [] => none
  | q :: l => if q.1 = i then some q.2 else k_lk i l
theorem k_lk_mem {α : Type} {i : Nat} {x : α} : ∀ {l : List (Nat × α)}, k_lk i l = some x → (i, x) ∈ l := by
  intro l
  induction l with
  | nil => intro h; cases h
  | cons q l ih =>
    intro h
    unfold k_lk at h
    split at h
    · rename_i e
      cases h
      subst e
      exact List.mem_cons_self
    · exact List.mem_cons_of_mem _ (ih h)
def k_D (mi pc : Nat) : List (Nat × List (Nat × Instr × Nat)) → Option (Instr × Nat)
  | [] => none
  | p :: l => if p.1 = mi then (match k_lk pc p.2 with | some q => some q | none => k_D mi pc l) else k_D mi pc l
theorem k_D_ok {mi pc : Nat} {q : Instr × Nat} : ∀ {l : List (Nat × List (Nat × Instr × Nat))}, (∀ p ∈ l, ∀ q ∈ p.2, decode (mC p.1) q.1 = .ok q.2) → k_D mi pc l = some q → decode (mC mi) pc = .ok q := by
  intro l
  induction l with
  | nil => intro _ h; cases h
  | cons p l ih =>
    intro ho h
    have ho2 : ∀ p ∈ l, ∀ q ∈ p.2, decode (mC p.1) q.1 = .ok q.2 := fun p hp => ho p (List.mem_cons_of_mem _ hp)
    unfold k_D at h
    split at h
    · rename_i e
      split at h
      · rename_i q' hq
        cases h
        have := ho p List.mem_cons_self _ (k_lk_mem hq)
        rw [e] at this
        exact this
      · exact ih ho2 h
    · exact ih ho2 h
def evD : Nat → Nat → Nat → Nat → LV → List AV → HH → Option (OO × HH)
  | 0, _, _, _, _, _, _ => none
  | n + 1, d, mi, pc, L, st, h =>
    match k_D mi pc k_tab with
    | none => none
    | some (ins, len) =>
      if q_ln ins len = false then none else
      match stL ins L st with
      | some (L', st') => evD n d mi (pc + len) L' st' h
      | none =>
        match stP ins st with
        | some st' => evD n d mi (pc + len) L st' h
        | none =>
          match stJ ins pc st with
          | some (pc', st') => evD n d mi pc' L st' h
          | none =>
            match stH mi ins st h with
            | some (st', h') => evD n d mi (pc + len) L st' h'
            | none =>
              match stR mi ins st with
              | some r => some (.inl r, h)
              | none =>
                match stC mi ins st with
                | some (t, k, as, rest) =>
                  match d with
                  | 0 => none
                  | d' + 1 =>
                    if t = 13 ∨ t = 14 then none
                    else if q_recv h t k as && decide ((q_al as).length ≤ mL k) then
                      match evD n d' k 0 (q_ent k as) [] h with
                      | some (.inl r, h1) => evD n d mi (pc + 3) L (r.toList ++ rest) h1
                      | _ => none
                    else none
                | none => none
set_option maxHeartbeats 2000000 in
theorem evD_ev : ∀ (n d mi pc : Nat) (L : LV) (st : List AV) (h : HH) (x : OO × HH), evD n d mi pc L st h = some x → ev n d mi pc L st h = some x := by
  intro n
  induction n with
  | zero => intro d mi pc L st h x he; cases he
  | succ n ih =>
    intro d mi pc L st h x he
    unfold evD at he
    unfold ev
    cases hd : k_D mi pc k_tab with
    | none => rw [hd] at he; cases he
    | some q =>
      obtain ⟨ins, len⟩ := q
      rw [k_D_ok k_tab_ok hd]
      rw [hd] at he
      dsimp only at he ⊢
      by_cases hl : q_ln ins len = false
      · rw [if_pos hl] at he; cases he
      rw [if_neg hl] at he ⊢
      cases h1 : stL ins L st with
      | some q => rw [h1] at he; exact ih _ _ _ _ _ _ _ he
      | none =>
      rw [h1] at he
      dsimp only at he ⊢
      cases h2 : stP ins st with
      | some q => rw [h2] at he; exact ih _ _ _ _ _ _ _ he
      | none =>
      rw [h2] at he
      dsimp only at he ⊢
      cases h3 : stJ ins pc st with
      | some q => rw [h3] at he; exact ih _ _ _ _ _ _ _ he
      | none =>
      rw [h3] at he
      dsimp only at he ⊢
      cases h4 : stH mi ins st h with
      | some q => rw [h4] at he; exact ih _ _ _ _ _ _ _ he
      | none =>
      rw [h4] at he
      dsimp only at he ⊢
      cases h5 : stR mi ins st with
      | some q => rw [h5] at he; exact he
      | none =>
      rw [h5] at he
      dsimp only at he ⊢
      cases h6 : stC mi ins st with
      | none => rw [h6] at he; cases he
      | some q =>
        obtain ⟨t, k, as, rest⟩ := q
        rw [h6] at he
        dsimp only at he ⊢
        cases d with
        | zero => cases he
        | succ d' =>
          dsimp only at he ⊢
          by_cases ht : t = 13 ∨ t = 14
          · rw [if_pos ht] at he; cases he
          · rw [if_neg ht] at he ⊢
            split at he
            · rename_i hg
              rw [if_pos hg]
              split at he
              · rename_i r0 h1' hv
                rw [ih _ _ _ _ _ _ _ hv]
                exact ih _ _ _ _ _ _ _ he
              · cases he
            · cases he
end SPkj
