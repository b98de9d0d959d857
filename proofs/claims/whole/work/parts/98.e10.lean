section SPtb
variable {d r n0 T : Nat} {G : GG} {c c' : CC} {Q : Option AV → HH → Prop} {v1 i k n s t p w x y q len N m stop : Int} {j : Nat} {B f : Int → Int}
def spN (B : Int → Int) (stop : Int) : Nat → Int → Int
  | 0, i => i
  | n + 1, i => if i < stop ∧ (B i = 32 ∨ B i = 10) then spN B stop n (i + 1) else i
def skE (B : Int → Int) (stop i : Int) : Int := spN B stop (stop - i).toNat i
theorem skE_y (h : i < stop ∧ (B i = 32 ∨ B i = 10)) : skE B stop i = skE B stop (i + 1) := by
  unfold skE
  have : (stop - i).toNat = (stop - (i + 1)).toNat + 1 := by omega
  rw [this]
  show (if i < stop ∧ (B i = 32 ∨ B i = 10) then _ else _) = _
  rw [if_pos h]
theorem skE_n (h : ¬ (i < stop ∧ (B i = 32 ∨ B i = 10))) : skE B stop i = i := by
  unfold skE
  cases (stop - i).toNat with
  | zero => rfl
  | succ n =>
    show (if i < stop ∧ (B i = 32 ∨ B i = 10) then _ else _) = _
    rw [if_neg h]
def isRn (b : Int) : Prop := (97 ≤ b ∧ b ≤ 122) ∨ (48 ≤ b ∧ b ≤ 57)
def sgF (b : Int) : Int := if b = 59 ∨ b = 60 ∨ b = 61 ∨ b = 62 ∨ b = 40 ∨ b = 41 then 4 else 5
def tKn (B : Int → Int) (len q : Int) : Nat := (reE B len q - q).toNat
def tS (B : Int → Int) (len stop q : Int) : Int := if q < stop then (if (97 ≤ B q ∧ B q ≤ 122) ∨ (48 ≤ B q ∧ B q ≤ 57) then tkS B q (tKn B len q) else sgF (B q)) else 0
def tN (B : Int → Int) (len stop q : Int) : Int := if q < stop then (if (97 ≤ B q ∧ B q ≤ 122) ∨ (48 ≤ B q ∧ B q ≤ 57) then tkN B q (tKn B len q) else B q) else 0
def tW (B : Int → Int) (len stop q : Int) : Int := if q < stop then (if (97 ≤ B q ∧ B q ≤ 122) ∨ (48 ≤ B q ∧ B q ≤ 57) then tkW B q (tKn B len q) else 0) else 0
def tE (B : Int → Int) (len stop q : Int) : Int := if q < stop then (if (97 ≤ B q ∧ B q ≤ 122) ∨ (48 ≤ B q ∧ B q ≤ 57) then reE B len q else q + 1) else q
def tP (stop q : Int) : Int := if q < stop then q else stop
def PP (B : Int → Int) (len stop : Int) : Nat → Int
  | 0 => skE B stop 0
  | j + 1 => skE B stop (tE B len stop (PP B len stop j))
theorem PP_end (h : stop ≤ PP B len stop j) : PP B len stop (j + 1) = PP B len stop j := by
  have e : PP B len stop (j + 1) = skE B stop (tE B len stop (PP B len stop j)) := rfl
  rw [e]
  unfold tE
  rw [if_neg (by omega)]
  exact skE_n (by omega)
theorem PP_ends (h : stop ≤ PP B len stop j) : ∀ k : Nat, PP B len stop (j + k) = PP B len stop j := by
  intro k
  induction k with
  | zero => rfl
  | succ k ih =>
    have e : j + (k + 1) = (j + k) + 1 := by omega
    rw [e, PP_end (by rw [ih]; exact h), ih]
def TR (c : CC) (B : Int → Int) (len stop : Int) (T : Nat) : Prop := ∀ i : Nat, i < T → c 5 i = tS B len stop (PP B len stop i) ∧ c 6 i = tP stop (PP B len stop i) ∧ c 7 i = tN B len stop (PP B len stop i) ∧ c 8 i = tW B len stop (PP B len stop i)
def TA (c : CC) (B : Int → Int) (len stop : Int) (j : Nat) : Prop := ∃ T : Nat, c 2 7 = T ∧ 1 ≤ T ∧ T ≤ 941 ∧ TR c B len stop T ∧ stop ≤ PP B len stop (T - 1) ∧ (∀ i : Nat, i + 1 < T → PP B len stop i < stop) ∧ c 2 10 = tS B len stop (PP B len stop j) ∧ c 2 11 = tP stop (PP B len stop j) ∧ c 2 12 = tN B len stop (PP B len stop j) ∧ c 2 13 = tW B len stop (PP B len stop j) ∧ c 2 8 = (if j + 1 < T then (j : Int) + 1 else T)
def ldT (c : CC) (m : Int) : CC := q_up (q_up (q_up (q_up (q_up c 2 10 (c 5 m)) 2 11 (c 6 m)) 2 12 (c 7 m)) 2 13 (c 8 m)) 2 8 (m + 1)
theorem c_adv (hG : Shp G) (e7 : c 2 7 = t) (e8 : c 2 8 = m) (h1 : 0 ≤ m) (h2 : t ≤ 941) (hz1 : m < t → Q none (G, ldT c m)) (hz2 : t ≤ m → m ≤ 2000 → 0 ≤ t → Q none (G, c)) (hm : m ≤ 2000) (ht : 0 ≤ t) : TM d 98 [aR 2] (G, c) Q := by
  refine b98_0 hG (e8) (e7) (by intros; omega) (by intros; omega) ?_ (e8) (by intros; omega) ?_ (e8) (by intros; omega) (by intros; omega) (rfl) ((up_n (by omega)).trans e8) (by intros; omega) (by intros; omega) (up_n (by omega)) ((up_n (by omega)).trans ((up_n (by omega)).trans e8)) (by intros; omega) (by intros; omega) ((up_n (by omega)).trans (up_n (by omega))) ((up_n (by omega)).trans ((up_n (by omega)).trans ((up_n (by omega)).trans e8))) (by intros; omega) (by intros; omega) ((up_n (by omega)).trans ((up_n (by omega)).trans (up_n (by omega)))) ((up_n (by omega)).trans ((up_n (by omega)).trans ((up_n (by omega)).trans ((up_n (by omega)).trans e8)))) ?_
  · intro q; exact hz2 q hm ht
  · intro q1 q2; omega
  · intro q1 q2; exact hz1 q1
theorem ad_5 : adT c t s p n w 5 i = if i = t then s else c 5 i := by
  unfold adT
  rw [up_n (by omega), up_n (by omega), up_n (by omega), up_n (by omega)]
  by_cases h : i = t
  · rw [if_pos h, h, up_e]
  · rw [if_neg h, up_n (by omega)]
theorem ad_6 : adT c t s p n w 6 i = if i = t then p else c 6 i := by
  unfold adT
  rw [up_n (by omega), up_n (by omega), up_n (by omega)]
  by_cases h : i = t
  · rw [if_pos h, h, up_e]
  · rw [if_neg h, up_n (by omega), up_n (by omega)]
theorem ad_7 : adT c t s p n w 7 i = if i = t then n else c 7 i := by
  unfold adT
  rw [up_n (by omega), up_n (by omega)]
  by_cases h : i = t
  · rw [if_pos h, h, up_e]
  · rw [if_neg h, up_n (by omega), up_n (by omega), up_n (by omega)]
theorem ad_8 : adT c t s p n w 8 i = if i = t then w else c 8 i := by
  unfold adT
  rw [up_n (by omega)]
  by_cases h : i = t
  · rw [if_pos h, h, up_e]
  · rw [if_neg h, up_n (by omega), up_n (by omega), up_n (by omega), up_n (by omega)]
theorem ad_27 : adT c t s p n w 2 7 = t + 1 := up_e
theorem ad_2 (h : ¬ i = 7) : adT c t s p n w 2 i = c 2 i := by
  unfold adT
  rw [up_n (by omega), up_n (by omega), up_n (by omega), up_n (by omega), up_n (by omega)]
theorem ad_r (h1 : ¬ r = 2) (h2 : ¬ r = 5) (h3 : ¬ r = 6) (h4 : ¬ r = 7) (h5 : ¬ r = 8) : adT c t s p n w r = c r := by
  unfold adT
  rw [up_r h1, up_r h5, up_r h4, up_r h3, up_r h2]
theorem TR_ad (h : TR c B len stop T) (ht : t = T) (e1 : s = tS B len stop (PP B len stop T)) (e2 : p = tP stop (PP B len stop T)) (e3 : n = tN B len stop (PP B len stop T)) (e4 : w = tW B len stop (PP B len stop T)) : TR (adT c t s p n w) B len stop (T + 1) := by
  intro i hi
  rw [ad_5, ad_6, ad_7, ad_8]
  by_cases h5 : i = T
  · subst h5
    have h6 : (i : Int) = t := ht.symm
    rw [if_pos h6, if_pos h6, if_pos h6, if_pos h6]
    exact ⟨e1, e2, e3, e4⟩
  · have h6 : ¬ (i : Int) = t := by omega
    rw [if_neg h6, if_neg h6, if_neg h6, if_neg h6]
    exact h i (by omega)
def FrB (c c' : CC) : Prop := (∀ r, ¬ r = 2 → ¬ r = 5 → ¬ r = 6 → ¬ r = 7 → ¬ r = 8 → c' r = c r) ∧ ∀ i, (i < 7 ∨ 14 < i) → c' 2 i = c 2 i
def FrK (c c' : CC) : Prop := (∀ r, ¬ r = 2 → ¬ r = 5 → ¬ r = 6 → ¬ r = 7 → ¬ r = 8 → c' r = c r) ∧ ∀ i, ¬ i = 7 → c' 2 i = c 2 i
theorem FrK_ad {cb : CC} (h : FrK cb c) : FrK cb (adT c t s p n w) := ⟨fun r h1 h2 h3 h4 h5 => (ad_r h1 h2 h3 h4 h5).trans (h.1 r h1 h2 h3 h4 h5), fun i h1 => (ad_2 h1).trans (h.2 i h1)⟩
theorem sign01 (hG : Shp G) (h : Q (some (aI (if v1 = 59 ∨ v1 = 60 ∨ v1 = 61 ∨ v1 = 62 ∨ v1 = 40 ∨ v1 = 41 then 1 else 0))) (G, c)) (hb : 0 ≤ v1 ∧ v1 ≤ 255) : TM d 155 [aI v1] (G, c) Q := by
  by_cases hs : v1 = 59 ∨ v1 = 60 ∨ v1 = 61 ∨ v1 = 62 ∨ v1 = 40 ∨ v1 = 41
  · rw [if_pos hs] at h
    refine b155_0 hG (by intros; omega) ?_ ?_ ?_ ?_ ?_ ?_ ?_
    all_goals intros
    all_goals first | exact h | omega
  · rw [if_neg hs] at h
    refine b155_0 hG (by intros; omega) ?_ ?_ ?_ ?_ ?_ ?_ ?_
    all_goals intros
    all_goals first | exact h | omega
theorem c_begin (hG : Shp G) (hB : ∀ i, 0 ≤ i → i < len → c 3 i = B i ∧ 0 ≤ B i ∧ B i ≤ 255) (e1 : c 2 1 = len) (hl : 0 ≤ len ∧ len ≤ 940) (hk : ∀ i, 0 ≤ i → i < 20 → c 4 i = q_keys i) (hst : stop = if v1 < len then v1 else len) (hv : 0 ≤ v1 ∧ v1 ≤ 940) (hz : ∀ c', FrB c c' → TA c' B len stop 0 → c' 2 9 = (if v1 < len then 1 else 0) → c' 2 14 = 0 → Q none (G, c')) : TM (d + 2) 95 [aR 2, aI v1] (G, c) Q := by
  have hs : 0 ≤ stop ∧ stop ≤ len := by rw [hst]; split <;> omega
  have main : ∀ fl : Int, fl = (if v1 < len then 1 else 0) → T (d + 2) 95 48 [some (aR 2), none, some (aI stop), some (aI 0), some (aI 0), none] [] (G, q_up (q_up (q_up c 2 14 0) 2 9 fl) 2 7 0) (QM Q) := by
    intro fl hfl
    generalize hcb : q_up (q_up (q_up c 2 14 0) 2 9 fl) 2 7 0 = cb
    have b1 : ∀ r, ¬ r = 2 → cb r = c r := fun r h => by rw [← hcb, up_r h, up_r h, up_r h]
    have b2 : ∀ i, ¬ i = 7 → ¬ i = 9 → ¬ i = 14 → cb 2 i = c 2 i := fun i h1 h2 h3 => by rw [← hcb, up_n (by omega), up_n (by omega), up_n (by omega)]
    have b7 : cb 2 7 = 0 := by rw [← hcb, up_e]
    have b9 : cb 2 9 = fl := by rw [← hcb, up_n (by omega), up_e]
    have b14 : cb 2 14 = 0 := by rw [← hcb, up_n (by omega), up_n (by omega), up_e]
    clear hcb
    have out : ∀ (T0 : Nat) (c1 : CC), T0 ≤ 940 → c1 2 7 = T0 → TR c1 B len stop T0 → (∀ j : Nat, j < T0 → PP B len stop j < stop) → stop ≤ PP B len stop T0 → FrK cb c1 → TM (d + 1) 97 [aR 2, aI 0, aI stop, aI 0, aL 0] (G, c1) (fun r h' => T (d + 2) 95 153 [some (aR 2), none, none, none, none, none] (r.toList ++ []) h' (QM Q)) := by
      intro T0 c1 g1 g2 g3 g4 g5 g6
      refine c_addTok hG g2 (by omega) ?_
      have hTR := TR_ad (s := 0) (p := stop) (n := 0) (w := 0) g3 rfl (by unfold tS; rw [if_neg (by omega)]) (by unfold tP; rw [if_neg (by omega)]) (by unfold tN; rw [if_neg (by omega)]) (by unfold tW; rw [if_neg (by omega)])
      have hFr := FrK_ad (t := (T0 : Int)) (s := 0) (p := stop) (n := 0) (w := 0) g6
      have h7 : adT c1 T0 0 stop 0 0 2 7 = (T0 : Int) + 1 := ad_27
      generalize adT c1 T0 0 stop 0 0 = c2 at *
      refine b95_153 hG TM_eqo ?_
      refine c_adv hG (t := (T0 : Int) + 1) (m := 0) (by rw [up_n (by omega)]; exact h7) up_e (by omega) (by omega) (fun _ => ?_) (fun q => by omega) (by omega) (by omega)
      refine b95_162 hG ?_
      obtain ⟨r5, r6, r7, r8⟩ := hTR 0 (by omega)
      have rd : ∀ r i, ¬ r = 2 → ldT (q_up c2 2 8 0) 0 r i = c2 r i := fun r i h => by
        unfold ldT
        rw [up_r h, up_r h, up_r h, up_r h, up_r h, up_r h]
      have rr : ∀ r, ¬ r = 2 → ldT (q_up c2 2 8 0) 0 r = c2 r := fun r h => funext fun i => rd r i h
      have rc : ∀ i, ¬ i = 8 → ¬ i = 10 → ¬ i = 11 → ¬ i = 12 → ¬ i = 13 → ldT (q_up c2 2 8 0) 0 2 i = c2 2 i := fun i h1 h2 h3 h4 h5 => by
        unfold ldT
        rw [up_n (by omega), up_n (by omega), up_n (by omega), up_n (by omega), up_n (by omega), up_n (by omega)]
      refine hz _ ⟨fun r h1 h2 h3 h4 h5 => ?_, fun i h1 => ?_⟩ ⟨T0 + 1, ?_, by omega, by omega, ?_, ?_, ?_, ?_, ?_, ?_, ?_, ?_⟩ ?_ ?_
      · rw [rr r h1, hFr.1 r h1 h2 h3 h4 h5, b1 r h1]
      · rw [rc i (by omega) (by omega) (by omega) (by omega) (by omega), hFr.2 i (by omega), b2 i (by omega) (by omega) (by omega)]
      · rw [rc 7 (by omega) (by omega) (by omega) (by omega) (by omega), h7]; omega
      · intro i hi
        rw [rd 5 _ (by omega), rd 6 _ (by omega), rd 7 _ (by omega), rd 8 _ (by omega)]
        exact hTR i hi
      · exact g5
      · intro i hi
        exact g4 i (by omega)
      · unfold ldT
        rw [up_n (by omega), up_n (by omega), up_n (by omega), up_n (by omega), up_e, up_r (by omega)]
        exact r5
      · unfold ldT
        rw [up_n (by omega), up_n (by omega), up_n (by omega), up_e, up_r (by omega)]
        exact r6
      · unfold ldT
        rw [up_n (by omega), up_n (by omega), up_e, up_r (by omega)]
        exact r7
      · unfold ldT
        rw [up_n (by omega), up_e, up_r (by omega)]
        exact r8
      · have : ldT (q_up c2 2 8 0) 0 2 8 = 0 + 1 := up_e
        rw [this]
        split <;> omega
      · rw [rc 9 (by omega) (by omega) (by omega) (by omega) (by omega), hFr.2 9 (by omega), b9, hfl]
      · rw [rc 14 (by omega) (by omega) (by omega) (by omega) (by omega), hFr.2 14 (by omega), b14]
    have key : ∀ (n : Nat) (i tn : Int) (T0 : Nat) (c1 : CC), stop - i ≤ n → 0 ≤ i → i ≤ len → 0 ≤ tn → tn ≤ i → (T0 : Int) ≤ tn → c1 2 7 = T0 → TR c1 B len stop T0 → (∀ j : Nat, j < T0 → PP B len stop j < stop) → skE B stop i = PP B len stop T0 → FrK cb c1 → T (d + 2) 95 48 [some (aR 2), none, some (aI stop), some (aI i), some (aI tn), none] [] (G, c1) (QM Q) := by
      intro n
      induction n with
      | zero =>
        intro i tn T0 c1 g1 g2 g3 g4 g5 g6 g7 g8 g9 g10 g11
        rw [skE_n (by omega)] at g10
        have o := out T0 c1 (by omega) g7 g8 g9 (by omega) g11
        have hx : c1 3 i = c1 3 i := rfl
        refine b95_48 hG TM_eqo (by intros; omega) ?_ (by intros; omega) (by intros; omega) ?_ ?_ (by intros; omega) (by intros; omega) rfl ?_
        all_goals intros
        all_goals first | exact o | omega
      | succ n ih =>
        intro i tn T0 c1 g1 g2 g3 g4 g5 g6 g7 g8 g9 g10 g11
        by_cases hi : stop ≤ i
        · rw [skE_n (by omega)] at g10
          have o := out T0 c1 (by omega) g7 g8 g9 (by omega) g11
          refine b95_48 hG TM_eqo (by intros; omega) ?_ (by intros; omega) (by intros; omega) ?_ ?_ (by intros; omega) (by intros; omega) rfl ?_
          all_goals intros
          all_goals first | exact o | omega
        · obtain ⟨k1, k2, k3⟩ := hB i g2 (by omega)
          have e3 : c1 3 i = B i := by rw [g11.1 3 (by omega) (by omega) (by omega) (by omega) (by omega), b1 3 (by omega)]; exact k1
          have run : (97 ≤ B i ∧ B i ≤ 122) ∨ (48 ≤ B i ∧ B i ≤ 57) → TM (d + 1) 96 [aR 2, aI i] (G, c1) (fun r h' => T (d + 2) 95 97 [some (aR 2), none, some (aI stop), none, some (aI tn), none] (r.toList ++ []) h' (QM Q)) := by
            intro hr
            have hsk : ¬ (i < stop ∧ (B i = 32 ∨ B i = 10)) := by omega
            rw [skE_n hsk] at g10
            refine c_addRun hG (B := B) (len := len) (fun j q1 q2 => ?_) ?_ hl.2 (fun j q1 q2 => ?_) g7 (by omega) ⟨g2, by omega⟩ ?_
            · rw [g11.1 3 (by omega) (by omega) (by omega) (by omega) (by omega), b1 3 (by omega)]; exact hB j q1 q2
            · rw [g11.2 1 (by omega), b2 1 (by omega) (by omega) (by omega)]; exact e1
            · rw [g11.1 4 (by omega) (by omega) (by omega) (by omega) (by omega), b1 4 (by omega)]; exact hk j q1 q2
            · refine b95_97 hG ?_
              have hre : i + 1 ≤ reE B len i ∧ reE B len i ≤ len := by
                unfold reE
                have e5 : (len - i).toNat = (len - (i + 1)).toNat + 1 := by omega
                rw [e5]
                unfold rnE
                rw [if_pos ⟨by omega, hr⟩]
                have := rnE_b (B := B) (len := len) (len - (i + 1)).toNat (i + 1)
                omega
              refine ih (reE B len i) (tn + 1) (T0 + 1) _ (by omega) (by omega) hre.2 (by omega) (by omega) (by omega) (by rw [ad_27]; omega) (TR_ad g8 rfl ?_ ?_ ?_ ?_) (fun j hj => ?_) ?_ (FrK_ad g11)
              · rw [← g10]; unfold tS tKn; rw [if_pos (by omega), if_pos hr]
              · rw [← g10]; unfold tP; rw [if_pos (by omega)]
              · rw [← g10]; unfold tN tKn; rw [if_pos (by omega), if_pos hr]
              · rw [← g10]; unfold tW tKn; rw [if_pos (by omega), if_pos hr]
              · by_cases h : j = T0
                · rw [h, ← g10]; omega
                · exact g9 j (by omega)
              · show _ = skE B stop (tE B len stop (PP B len stop T0))
                rw [← g10]
                unfold tE
                rw [if_pos (by omega), if_pos hr]
          have oth : ¬ ((97 ≤ B i ∧ B i ≤ 122) ∨ (48 ≤ B i ∧ B i ≤ 57)) → T (d + 2) 95 89 [some (aR 2), none, some (aI stop), some (aI i), some (aI tn), some (aI (B i))] [aI 0] (G, c1) (QM Q) := by
            intro hr
            have bl : B i = 32 ∨ B i = 10 → T (d + 2) 95 136 [some (aR 2), none, some (aI stop), some (aI i), some (aI tn), none] [] (G, c1) (QM Q) := by
              intro hb
              rw [skE_y ⟨by omega, hb⟩] at g10
              refine b95_136 hG ?_
              exact ih (i + 1) (tn + 1) T0 c1 (by omega) (by omega) (by omega) (by omega) (by omega) (by omega) g7 g8 g9 g10 g11
            refine b95_89 hG TM_eqo (by intros; omega) (by intros; omega) ?_ ?_ ?_ ?_
            · intro q1 q2; exact bl (by omega)
            · intro q1 q2 q3; exact bl (by omega)
            · intro q1 q2 q3
              have hsk : ¬ (i < stop ∧ (B i = 32 ∨ B i = 10)) := by omega
              rw [skE_n hsk] at g10
              have nxt : ∀ s, s = sgF (B i) → T (d + 2) 95 136 [some (aR 2), none, some (aI stop), some (aI i), some (aI tn), none] [] (G, adT c1 T0 s i (B i) 0) (QM Q) := by
                intro s hs
                refine b95_136 hG ?_
                refine ih (i + 1) (tn + 1) (T0 + 1) _ (by omega) (by omega) (by omega) (by omega) (by omega) (by omega) (by rw [ad_27]; omega) (TR_ad g8 rfl ?_ ?_ ?_ ?_) (fun j hj => ?_) ?_ (FrK_ad g11)
                · rw [← g10]; unfold tS; rw [if_pos (by omega), if_neg hr]; exact hs
                · rw [← g10]; unfold tP; rw [if_pos (by omega)]
                · rw [← g10]; unfold tN; rw [if_pos (by omega), if_neg hr]
                · rw [← g10]; unfold tW; rw [if_pos (by omega), if_neg hr]
                · by_cases h : j = T0
                  · rw [h, ← g10]; omega
                  · exact g9 j (by omega)
                · show _ = skE B stop (tE B len stop (PP B len stop T0))
                  rw [← g10]
                  unfold tE
                  rw [if_pos (by omega), if_neg hr]
              refine sign01 hG ?_ ⟨k2, k3⟩
              by_cases hsg : B i = 59 ∨ B i = 60 ∨ B i = 61 ∨ B i = 62 ∨ B i = 40 ∨ B i = 41
              · rw [if_pos hsg]
                refine b95_121 hG TM_eqo (by intros; omega) ?_ ?_
                · intro q; omega
                · intro q
                  exact c_addTok hG g7 (by omega) (nxt 4 (by unfold sgF; rw [if_pos hsg]))
              · rw [if_neg hsg]
                refine b95_121 hG TM_eqo (by intros; omega) ?_ ?_
                · intro q
                  exact c_addTok hG g7 (by omega) (nxt 5 (by unfold sgF; rw [if_neg hsg]))
                · intro q; omega
            · intro q; omega
          have mid : ¬ (97 ≤ B i ∧ B i ≤ 122) → T (d + 2) 95 81 [some (aR 2), none, some (aI stop), some (aI i), some (aI tn), some (aI (B i))] [aI 0] (G, c1) (QM Q) := by
            intro hr
            refine b95_81 hG TM_eqo (by intros; omega) ?_ ?_
            · intro q; omega
            · intro q
              have dig : 48 ≤ B i ∧ B i ≤ 57 → T (d + 2) 95 89 [some (aR 2), none, some (aI stop), some (aI i), some (aI tn), some (aI (B i))] [aI 1] (G, c1) (QM Q) := by
                intro hd
                refine b95_89 hG TM_eqo (by intros; omega) (by intros; omega) ?_ ?_ ?_ ?_
                all_goals intros
                all_goals first | exact run (Or.inr hd) | omega
              refine b154_0 hG (by intros; omega) ?_ ?_ ?_
              · intro q3; exact oth (by omega)
              · intro q3 q4; exact oth (by omega)
              · intro q3 q4; exact dig (by omega)
          have let1 : 97 ≤ B i ∧ B i ≤ 122 → T (d + 2) 95 81 [some (aR 2), none, some (aI stop), some (aI i), some (aI tn), some (aI (B i))] [aI 1] (G, c1) (QM Q) := by
            intro hr
            refine b95_81 hG TM_eqo (by intros; omega) ?_ ?_
            · intro q; exact run (Or.inl hr)
            · intro q; omega
          refine b95_48 hG TM_eqo (by intros; omega) ?_ (by intros; omega) (by intros; omega) ?_ ?_ (by intros; omega) (by intros; omega) (e3) ?_
          all_goals intros
          all_goals first | omega | skip
          refine b153_0 hG (by intros; omega) ?_ ?_ ?_
          · intro q3; exact mid (by omega)
          · intro q3 q4; exact mid (by omega)
          · intro q3 q4; exact let1 (by omega)
    exact key len.toNat 0 0 0 cb (by omega) (by omega) (by omega) (by omega) (by omega) (by omega) b7 (fun i hi => by omega) (fun j hj => by omega) rfl ⟨fun _ _ _ _ _ _ => rfl, fun _ _ => rfl⟩
  by_cases hc : v1 < len
  · rw [if_pos hc] at hst
    have main := main 1 (by rw [if_pos hc])
    rw [hst] at main
    refine b95_0 hG TM_eqo ((up_n (by omega)).trans e1) (by intros; omega) (by intros; omega) (up_e) (by intros; omega) ((up_n (by omega)).trans ((up_n (by omega)).trans e1)) ?_ ?_ (up_e) (by intros; omega) ((up_n (by omega)).trans ((up_n (by omega)).trans e1)) ?_ ?_
    all_goals intros
    all_goals first | exact main | omega
  · rw [if_neg hc] at hst
    have main := main 0 (by rw [if_neg hc])
    rw [hst] at main
    refine b95_0 hG TM_eqo ((up_n (by omega)).trans e1) (by intros; omega) (by intros; omega) (up_e) (by intros; omega) ((up_n (by omega)).trans ((up_n (by omega)).trans e1)) ?_ ?_ (up_e) (by intros; omega) ((up_n (by omega)).trans ((up_n (by omega)).trans e1)) ?_ ?_
    all_goals intros
    all_goals first | exact main | omega
end SPtb
