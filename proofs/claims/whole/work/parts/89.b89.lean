section SPY
variable {d : Nat} {G : GG} {c c' cA cB cA1 cB1 cA' cB' : CC} {Q : Option AV → HH → Prop} {v1 v2 v3 v4 n nx i j N x s : Int} {S S' : SS} {a : Nat} {p : SS × Int}
def drK (S : SS) (x : Int) : Int := q_rem (q_ush (x * 1103515245 + 12345) 8) (S 0)
def dr1 (s : Int) (p : SS × Int) : SS × Int := if 0 < p.1 (173 + s) then p else (if whyF p.1 s (drK p.1 p.2) = 0 then bornF p.1 s (drK p.1 p.2) else p.1, p.2 * 1103515245 + 12345)
def yr1 (p : SS × Int) : SS × Int := (dayF (loopI dr1 (p.1 1) p).1, (loopI dr1 (p.1 1) p).2)
def yrsF (n : Int) (p : SS × Int) : SS × Int := loopI (fun _ p => yr1 p) n p
theorem ush_b : 0 ≤ q_ush x 8 ∧ q_ush x 8 < 2147483648 := by
  unfold q_ush
  have h8 : (Int32.ofInt 8).toUInt32 &&& Int32.toUInt32 31 = 8 := by decide
  rw [h8]
  generalize (Int32.ofInt x).toUInt32 = u
  have h1 : (u >>> 8).toNat < 2 ^ 24 := by
    rw [UInt32.toNat_shiftRight]
    have := u.toNat_lt
    have e : (8 : UInt32).toNat % 32 = 8 := by decide
    rw [e, Nat.shiftRight_eq_div_pow]
    omega
  generalize u >>> 8 = w at h1
  have h2 : w.toInt32.toInt = (w.toNat : Int) := by
    rw [← Int32.toInt_toBitVec]
    show (w.toBitVec).toInt = _
    rw [BitVec.toInt_eq_toNat_of_lt]
    · rfl
    · show 2 * w.toNat < 2 ^ 32
      omega
  rw [h2]
  omega
theorem drK_b (h : 1 ≤ S 0 ∧ S 0 ≤ 6) : 0 ≤ drK S x ∧ drK S x < S 0 := by
  unfold drK
  have hb := ush_b (x := x * 1103515245 + 12345)
  rw [rem_eq hb (by omega)]
  exact ⟨Int.emod_nonneg _ (by omega), Int.emod_lt_of_pos _ (by omega)⟩
theorem ofI_ne {x : Int} (h : 1 ≤ x ∧ x ≤ 6) : ¬ Int32.ofInt x = 0 := by
  intro h2
  have h3 := i32_of (x := x) (by omega)
  rw [h2] at h3
  have : (0 : Int32).toInt = 0 := rfl
  omega
def OkB (S X : SS) : Prop := Ok S X ∧ (Bd S → Bd X) ∧ X 168 = S 168
theorem Ok_dr1 (hR : InvR S) (hk : 1 ≤ S 0) (h : OkB S p.1) (h1 : 0 ≤ s) (h2 : s < S 1) : OkB S (dr1 s p).1 := by
  have g := hR.1
  obtain ⟨ho, hb, hd⟩ := h
  unfold dr1
  split
  · exact ⟨ho, hb, hd⟩
  · show OkB S (if _ then _ else _)
    split
    · rename_i hw
      have hd2 := drK_b (S := p.1) (x := p.2) (by rw [Ok_0 ho]; omega)
      rw [Ok_0 ho] at hd2
      refine ⟨Ok_born hR ho h1 h2 hd2.1 hd2.2 hw, fun hB => Bd_born ho.2 (hb hB) h1 (by omega) (why_0 hw).1, ?_⟩
      rw [(born_rd (S := p.1) (s := s) h1 (by omega)).1 168 (by omega) (by omega) (by omega) (by omega) (by omega)]
      exact hd
    · exact ⟨ho, hb, hd⟩
theorem Ok_dr1N (hR : InvR S) (hk : 1 ≤ S 0) (h : OkB S p.1) (hn : n ≤ S 1) : OkB S (loopI dr1 n p).1 :=
  loopI_p (P := fun (p : SS × Int) => OkB S p.1) h (fun i y h1 h2 h3 => Ok_dr1 hR hk h3 h1 (by omega))
theorem OkB_1 {X : SS} (h : OkB S X) : X 1 = S 1 := Ok_1 h.1
theorem Ok_yr1 (hR : InvR S) (hk : 1 ≤ S 0) (h : Ok S p.1) (hb : Bd S → Bd p.1) : Ok S (yr1 p).1 ∧ (Bd S → Bd (yr1 p).1) ∧ (yr1 p).1 168 = p.1 168 + 1 := by
  have hR1 := Ok_R h hR
  have h2 := Ok_dr1N (S := p.1) (p := p) (n := p.1 1) hR1 (by rw [Ok_0 h]; exact hk) ⟨Ok_refl h.2, fun h => h, rfl⟩ (by omega)
  obtain ⟨o1, o2, o3⟩ := h2
  have hR2 := Ok_R o1 hR1
  refine ⟨Ok_tr h (Ok_tr o1 (Ok_day hR2 o1.2)), fun hB => Bd_day hR2 o1.2 (o2 (hb hB)), ?_⟩
  show dayF _ 168 = _
  rw [(day_rd hR2 o1.2).2.2.1, o3]
theorem Ok_yrs (hR : InvR S) (hk : 1 ≤ S 0) (h : Ok S p.1) (hb : Bd S → Bd p.1) (hn : 0 ≤ n) : Ok S (yrsF n p).1 ∧ (Bd S → Bd (yrsF n p).1) ∧ (yrsF n p).1 168 = p.1 168 + n := by
  refine loopI_pi (f := fun _ p => yr1 p) (P := fun n q => Ok S q.1 ∧ (Bd S → Bd q.1) ∧ q.1 168 = p.1 168 + n) hn ⟨h, hb, by omega⟩ ?_
  intro i y h1 h2 h3
  obtain ⟨q1, q2, q3⟩ := h3
  obtain ⟨g1, g2, g3⟩ := Ok_yr1 hR hk q1 q2
  exact ⟨g1, g2, by rw [g3, q3]; omega⟩
theorem c_dr_s (hG : Shp G) (h_a : Life a) (hN : N ≤ 8) (hk0 : 1 ≤ S 0) : ∀ i, 0 ≤ i → i ≤ N → ∀ (c : CC) (p : SS × Int), Ok S p.1 → InvR S → S 1 = N → RR c 9 S → LR c a p.1 → (∀ c', FrL a c c' → LR c' a (loopR dr1 i N p).1 → TM (d + 2) 38 [aR a] (G, c') (fun r h' => T (d + 3) 35 101 [some (aR a), some (aI v1), none, some (aI (loopR dr1 i N p).2), some (aI v4), none, none] (r.toList ++ []) h' (QM Q))) → T (d + 3) 35 26 [some (aR a), some (aI v1), none, some (aI p.2), some (aI v4), some (aI i), none] [] (G, c) (QM Q) := by
  refine int_ind ?_ ?_
  · intro c p ho hR e hr hL hz
    have g := hR.1
    have e1 := hr.1
    rw [loopR_e (by omega)] at hz
    refine b35_26 hG h_a TM_eqo rfl (by intros; omega) (by intros; omega) ?_ (by intros; omega) (by intros; omega) rfl (by intros; omega) ?_ rfl (by intros; omega) ?_
    · intro p1; exact hz c FrL_refl hL
    · intro p1; omega
    · intro p1; omega
  · intro i h1 h2 ih c p ho hR e hr hL hz
    have g := hR.1
    have e1 := hr.1
    have hRp := Ok_R ho hR
    have e0p := Ok_0 ho
    have e1p := Ok_1 ho
    have hi := ho.2.1 i h1 (by omega)
    have li := (hL.1.2.1 i h1 (by omega)).1
    rw [loopR_s h2] at hz
    have hRRp := RR_S hr ho.1 (by omega)
    refine b35_26 hG h_a TM_eqo rfl (by intros; omega) (by intros; omega) ?_ (by intros; omega) (by intros; omega) rfl (by intros; omega) ?_ rfl (by intros; exact ofI_ne (by omega)) ?_
    · intro p1; omega
    · intro p1 p2
      refine b35_91 hG h_a ?_
      have hf : dr1 i p = p := if_pos (by omega)
      rw [hf] at hz
      exact ih c p ho hR e hr hL hz
    · intro p1 p2
      have hdk : q_rem (q_ush (p.2 * 1103515245 + 12345) 8) (c 9 0) = drK p.1 p.2 := by unfold drK; rw [e1.1, e0p]
      rw [hdk]
      have hd2 := drK_b (S := p.1) (x := p.2) (by omega)
      refine c_whyNot hG h_a hRp ho.2 hRRp hL h1 (by omega) hd2.1 hd2.2 ?_
      have hwb := why_b (S := p.1) (s := i) (k := drK p.1 p.2)
      refine b35_80 hG h_a TM_eqo (by intros; omega) ?_ ?_
      · intro p3
        refine b35_91 hG h_a ?_
        have hf : dr1 i p = (p.1, p.2 * 1103515245 + 12345) := by unfold dr1; rw [if_neg (by omega), if_neg p3]
        rw [hf] at hz
        exact ih c (p.1, p.2 * 1103515245 + 12345) ho hR e hr hL hz
      · intro p3
        refine c_giveOut hG h_a hRp ho.2 hRRp hL h1 (by omega) hd2.1 hd2.2 (why_0 p3).1 (fun c1 f1 l1 => ?_)
        refine b35_91 hG h_a ?_
        have hf : dr1 i p = (bornF p.1 i (drK p.1 p.2), p.2 * 1103515245 + 12345) := by unfold dr1; rw [if_neg (by omega), if_pos p3]
        rw [hf] at hz
        exact ih c1 (bornF p.1 i (drK p.1 p.2), p.2 * 1103515245 + 12345) (Ok_born hR ho h1 (by omega) hd2.1 (by omega) p3) hR e (RR_L hr h_a f1) l1 (fun c2 f2 l2 => hz c2 (FrL_tr f1 f2) l2)
theorem c_drawn (hG : Shp G) (h_a : Life a) (hR : InvR S) (hI : InvL S) (hr : RR c 9 S) (hL : LR c a S) (hk0 : 1 ≤ S 0) (h1 : I32 v1) (h0 : 0 ≤ v1) (hz : ∀ c', FrL a c c' → LR c' a (yrsF v1 (S, v2)).1 → Q none (G, c')) : TM (d + 3) 35 [aR a, aI v1, aI v2] (G, c) Q := by
  have g := hR.1
  have e1 := hr.1
  refine b35_0 hG h_a TM_eqo rfl (by intros; omega) ?_ ?_
  · intro p1
    have key : ∀ i, 0 ≤ i → i ≤ v1 → ∀ (c : CC) (p : SS × Int), Ok S p.1 → RR c 9 S → LR c a p.1 → (∀ c', FrL a c c' → LR c' a (loopR (fun _ p => yr1 p) i v1 p).1 → Q none (G, c')) → T (d + 3) 35 17 [some (aR a), some (aI v1), none, some (aI p.2), some (aI i), none, none] [] (G, c) (QM Q) := by
      refine int_ind ?_ ?_
      · intro c p ho hr hL hz
        rw [loopR_e (by omega)] at hz
        refine b35_17 hG h_a (by intros; omega) (by intros; omega) ?_ ?_
        · intro p1; exact hz c FrL_refl hL
        · intro p1; omega
      · intro i h3 h4 ih c p ho hr hL hz
        rw [loopR_s h4] at hz
        have e1p := Ok_1 ho
        refine b35_17 hG h_a (by intros; omega) (by intros; omega) ?_ ?_
        · intro p1; omega
        · intro p1
          refine c_dr_s hG h_a (N := S 1) (by omega) hk0 0 (by omega) (by omega) c p ho hR rfl hr hL (fun c1 f1 l1 => ?_)
          rw [loopR_0] at l1 ⊢
          have hRp := Ok_R ho hR
          have o2 := (Ok_dr1N (S := p.1) (p := p) (n := p.1 1) hRp (by rw [Ok_0 ho]; exact hk0) ⟨Ok_refl ho.2, fun h => h, rfl⟩ (by omega)).1
          rw [e1p] at o2
          have o3 := Ok_tr ho o2
          have hR3 := Ok_R o3 hR
          refine c_passDay hG h_a hR3 o3.2 (RR_S (RR_L hr h_a f1) o3.1 (by omega)) l1 (fun c2 f2 l2 => ?_)
          refine b35_101 hG h_a ?_
          have hy : yr1 p = (dayF (loopI dr1 (S 1) p).1, (loopI dr1 (S 1) p).2) := by unfold yr1; rw [e1p]
          rw [hy] at hz
          exact ih c2 (dayF (loopI dr1 (S 1) p).1, (loopI dr1 (S 1) p).2) (Ok_tr o3 (Ok_day hR3 o3.2)) (RR_L hr h_a (FrL_tr f1 f2)) l2 (fun c3 f3 l3 => hz c3 (FrL_tr (FrL_tr f1 f2) f3) l3)
    have := key 0 (by omega) h0 c (S, v2) (Ok_refl hI) hr hL (fun c' f l => hz c' f (by rw [loopR_0] at l; exact l))
    exact this
  · intro p1; omega
theorem r_draw (hG : Shp G) (e : c 188 35 = x) (hk : 1 ≤ v1 ∧ v1 ≤ 6) (hz : Q (some (aI (q_rem (q_ush (x * 1103515245 + 12345) 8) v1))) (G, q_up c 188 35 (x * 1103515245 + 12345))) : TM d 242 [aR 188, aI v1] (G, c) Q := by
  refine b242_0 hG rfl up_e (ofI_ne hk) ?_
  rw [e]
  exact hz
def FrY (c c' : CC) : Prop := (∀ r, ¬ r = 188 → ¬ r = 190 → c' r = c r) ∧ (∀ i, ¬ i = 35 → c' 188 i = c 188 i)
theorem FrY_tr {c1 c2 : CC} (h1 : FrY c c1) (h2 : FrY c1 c2) : FrY c c2 := ⟨fun r p q => (h2.1 r p q).trans (h1.1 r p q), fun i p => (h2.2 i p).trans (h1.2 i p)⟩
theorem r_yr_s (hG : Shp G) (hN : N ≤ 8) (hk0 : 1 ≤ S 0) (hR : InvR S) (e : S 1 = N) : ∀ i, 0 ≤ i → i ≤ N → ∀ (c : CC) (p : SS × Int), Ok S p.1 → c 190 = p.1 → c 188 35 = p.2 → (∀ c', FrY c c' → c' 190 = (loopR dr1 i N p).1 → c' 188 35 = (loopR dr1 i N p).2 → TM (d + 2) 202 [aR 188] (G, c') (fun r h' => T (d + 3) 243 95 [some (aR 188), some (aI v1), none, some (aI v3), some (aI v4), none, none] (r.toList ++ []) h' (QM Q))) → T (d + 3) 243 26 [some (aR 188), some (aI v1), none, some (aI v3), some (aI v4), some (aI i), none] [] (G, c) (QM Q) := by
  have g := hR.1
  refine int_ind ?_ ?_
  · intro c p ho e1 e2 hz
    have e1p := Ok_1 ho
    rw [← e1] at e1p
    rw [loopR_e (by omega)] at hz
    refine b243_26 hG TM_eqo rfl (by intros; omega) (by intros; omega) ?_ (by intros; omega) (by intros; omega) rfl (by intros; omega) rfl ?_ ?_
    · intro p1; exact hz c ⟨fun _ _ _ => rfl, fun _ _ => rfl⟩ e1 e2
    · intro p1; omega
    · intro p1; omega
  · intro i h1 h2 ih c p ho e1 e2 hz
    have e0p := Ok_0 ho
    have e1p := Ok_1 ho
    have hRp := Ok_R ho hR
    have hi := ho.2.1 i h1 (by omega)
    rw [loopR_s h2] at hz
    have hdk := drK_b (S := p.1) (x := p.2) (by omega)
    have hk6 : p.1 0 ≤ 6 := by omega
    rw [← e1] at e0p e1p hi
    refine b243_26 hG TM_eqo rfl (by intros; omega) (by intros; omega) ?_ (by intros; omega) (by intros; omega) rfl (by intros; omega) rfl ?_ ?_
    · intro p1; omega
    · intro p1 p2
      rw [e1] at p2
      refine r_draw hG e2 (by omega) ?_
      have hd2 : q_rem (q_ush (p.2 * 1103515245 + 12345) 8) (c 190 0) = drK p.1 p.2 := by unfold drK; rw [e1]
      rw [hd2]
      refine b243_64 hG ?_
      have e190 : (q_up c 188 35 (p.2 * 1103515245 + 12345)) 190 = p.1 := by rw [up_r (by omega)]; exact e1
      refine r_whyOf hG (by rw [e190]; exact hRp) (by rw [e190]; exact ho.2) h1 (by omega) hdk.1 (by rw [e190]; exact hdk.2) ?_
      rw [e190]
      have hwb := why_b (S := p.1) (s := i) (k := drK p.1 p.2)
      refine b243_74 hG TM_eqo (by intros; omega) ?_ ?_
      · intro p3
        refine b243_85 hG ?_
        have hf : dr1 i p = (p.1, p.2 * 1103515245 + 12345) := by unfold dr1; rw [if_neg (by omega), if_neg p3]
        rw [hf] at hz
        refine ih _ (p.1, p.2 * 1103515245 + 12345) ho e190 up_e (fun c2 f2 => hz c2 (FrY_tr ⟨fun r q1 q2 => up_r q1, fun i q1 => up_n (by omega)⟩ f2))
      · intro p3
        refine r_born hG h1 (by omega) hdk.1 (by omega) ?_
        rw [e190]
        refine b243_85 hG ?_
        have hf : dr1 i p = (bornF p.1 i (drK p.1 p.2), p.2 * 1103515245 + 12345) := by unfold dr1; rw [if_neg (by omega), if_pos p3]
        rw [hf] at hz
        rw [e1] at e0p e1p
        refine ih _ (bornF p.1 i (drK p.1 p.2), p.2 * 1103515245 + 12345) (Ok_born hR ho h1 (by omega) hdk.1 (by omega) p3) uf_e (by rw [uf_n2 (by omega), up_e]) (fun c2 f2 => hz c2 (FrY_tr ⟨fun r q1 q2 => by rw [uf_n q2, up_r q1], fun i q1 => by rw [uf_n2 (by omega), up_n (by omega)]⟩ f2))
    · intro p1 p2
      refine b243_85 hG ?_
      have hf : dr1 i p = p := if_pos (by rw [← e1]; omega)
      rw [hf] at hz
      exact ih c p ho e1 e2 hz
theorem r_years (hG : Shp G) (hR : InvR (c 190)) (hI : InvL (c 190)) (hk0 : 1 ≤ c 190 0) (h1 : I32 v1) (h0 : 0 ≤ v1) (hz : ∀ c', FrY c c' → c' 190 = (yrsF v1 (c 190, v2)).1 → Q (some (aI ((yrsF v1 (c 190, v2)).1 171 - c 190 171))) (G, c')) : TM (d + 3) 243 [aR 188, aI v1, aI v2] (G, c) Q := by
  obtain ⟨S, hS⟩ : ∃ S, S = c 190 := ⟨_, rfl⟩
  rw [← hS] at hR hI hk0 hz
  have g := hR.1
  refine b243_0 hG TM_eqo ((up_n (by omega)).trans (by rw [← hS])) ?_
  have key : ∀ i, 0 ≤ i → i ≤ v1 → ∀ (c2 : CC) (p : SS × Int), Ok S p.1 → c2 190 = p.1 → c2 188 35 = p.2 → FrY c c2 → yrsF v1 (S, v2) = loopR (fun _ p => yr1 p) i v1 p → T (d + 3) 243 17 [some (aR 188), some (aI v1), none, some (aI (S 171)), some (aI i), none, none] [] (G, c2) (QM Q) := by
    refine int_ind ?_ ?_
    · intro c2 p ho e1 e2 fr he
      rw [loopR_e (by omega)] at he
      have ez := hz c2 fr (by rw [he]; exact e1)
      rw [he, ← e1] at ez
      refine b243_17 hG (by intros; omega) (by intros; omega) rfl ?_ ?_
      · intro p1
        exact ez
      · intro p1; omega
    · intro i h3 h4 ih c2 p ho e1 e2 fr he
      rw [loopR_s h4] at he
      refine b243_17 hG (by intros; omega) (by intros; omega) rfl ?_ ?_
      · intro p1; omega
      · intro p1
        refine r_yr_s hG (N := S 1) (by omega) hk0 hR rfl 0 (by omega) (by omega) c2 p ho e1 e2 (fun c3 f3 q1 q2 => ?_)
        rw [loopR_0] at q1 q2
        have e1p := Ok_1 ho
        have hRp := Ok_R ho hR
        have o2 := (Ok_dr1N (S := p.1) (p := p) (n := p.1 1) hRp (by rw [Ok_0 ho]; exact hk0) ⟨Ok_refl ho.2, fun h => h, rfl⟩ (by omega)).1
        rw [e1p] at o2
        have o3 := Ok_tr ho o2
        have hR3 := Ok_R o3 hR
        refine r_day hG (by rw [q1]; exact hR3) (by rw [q1]; exact o3.2) ?_
        rw [q1]
        refine b243_95 hG ?_
        have hy : yr1 p = (dayF (loopI dr1 (S 1) p).1, (loopI dr1 (S 1) p).2) := by unfold yr1; rw [e1p]
        rw [hy] at he
        refine ih _ (dayF (loopI dr1 (S 1) p).1, (loopI dr1 (S 1) p).2) (Ok_tr o3 (Ok_day hR3 o3.2)) uf_e (by rw [uf_n2 (by omega)]; exact q2) (FrY_tr fr (FrY_tr f3 ⟨fun r q3 q4 => uf_n q4, fun i q3 => uf_n2 (by omega)⟩)) he
  exact key 0 (by omega) h0 _ (S, v2) (Ok_refl hI) (by rw [up_r (by omega), ← hS]) up_e ⟨fun r q1 q2 => up_r q1, fun i q1 => up_n (by omega)⟩ (by rw [loopR_0]; rfl)
theorem op_drawn (hG : Shp G) (h : GR cA cB) (h1 : I32 v1) : OP G (d + 50) 130 244 [aI v1, aI v2] cA cB := by
  have hS := h.1
  have hR := h.1.1
  have hI := h.1.2.1
  have gb := GS_b hS
  have hr := h.2.1.1
  have e1 := hr.1
  have g := hR.1
  have hL := h.2.2.1
  have hn := h.2.2.2.2.1.1
  by_cases hw : (1 ≤ v1 ∧ v1 ≤ 60 ∧ cB 190 168 + v1 ≤ 9999) ∧ 1 ≤ cB 190 0
  · obtain ⟨hw, hk⟩ := hw
    obtain ⟨o1, o2, o3⟩ := Ok_yrs (S := cB 190) (p := (cB 190, v2)) (n := v1) hR hk (Ok_refl hI) (fun h => h) (by omega)
    have hGS : GS (yrsF v1 (cB 190, v2)).1 := ⟨Ok_R o1 hR, o1.2, o2 hS.2.2.1, by rw [o3]; exact hw.2.2⟩
    have gb2 := GS_b hGS
    have hm : ∀ cA1 cA', KpA cA cA1 (cB 188 23) (cA 53 2) → FrL 27 cA1 cA' → LR cA' 27 (yrsF v1 (cB 190, v2)).1 → TM (d + 50) 244 [aR 188, aI v1, aI v2] (G, cB) (fun r2 h2 => ∃ cB', h2 = (G, cB') ∧ GR cA' cB' ∧ ∃ v, (some (aI ((yrsF v1 (cB 190, v2)).1 171 - cB 190 171))) = some (aI v) ∧ r2 = some (aI v) ∧ I32 v) := by
      intro cA1 cA' tA fA lA
      obtain ⟨q1, q2⟩ := thr_e (cB := cB)
      refine b244_0 hG ?_
      generalize hc1 : q_up cB 188 0 0 = c1 at q1 q2 ⊢
      have e190 := q1 190 (by omega)
      refine r_areDays hG (by rw [e190]; exact hI) (by rw [e190]; omega) h1 ?_
      rw [e190, if_pos hw]
      have g190 : c1 190 0 = cB 190 0 := by rw [e190]
      refine b244_10 hG (by intros; omega) ?_ rfl (by intros; omega) ?_ ?_
      · intro p1; omega
      · intro p1 p2
        refine m_keep hG (by rw [q2 23 (by omega)]; omega) (fun c2 tB => ?_)
        have e2 : c2 190 = cB 190 := by rw [tB.1 190 (by omega) (by omega)]; exact e190
        refine b244_28 hG TM_eqo ?_
        refine r_years hG (by rw [e2]; exact hR) (by rw [e2]; exact hI) (by rw [e2]; exact hk) h1 (by omega) (fun c3 f3 e3 => ?_)
        rw [e2] at e3 ⊢
        refine b244_34 hG ?_
        refine ⟨c3, rfl, ?_, _, rfl, rfl, by omega⟩
        have hg := GR_act (S' := (yrsF v1 (cB 190, v2)).1) h tA fA q1 q2 tB o1.1 hGS lA
        refine GR_keep hg KA_refl (fun _ _ => rfl) ⟨fun r p => ?_, fun i p => ?_, fun j _ _ => ?_, ?_⟩ ?_ ?_ ?_
        · rw [uf_n (by omega)]; exact f3.1 r (by omega) (by omega)
        · rw [uf_n2 (by omega)]; exact f3.2 i (by omega)
        · rw [uf_n2 (by omega), f3.1 193 (by omega) (by omega)]
        · rw [uf_e, e3]; exact SmR_refl _
        · rw [uf_e, e3]
        · rw [uf_n2 (by omega)]; exact f3.2 23 (by omega)
        · rw [uf_n (by omega)]; exact f3.1 195 (by omega) (by omega)
      · intro p1 p2; omega
    refine b130_0 hG rfl (by intros; omega) ?_ ?_
    · intro p1; omega
    · intro p1
      refine c_canPass hG lf27 hI hL (by omega) h1 ?_
      rw [if_pos hw]
      refine b130_19 hG (by intros; omega) ?_ ?_
      · intro p1
        refine x_keep hG h (fun cA1 tA r1 l1 => ?_)
        refine b130_35 hG ?_
        refine c_allBirths hG lf27 hR hI r1 l1 ?_
        refine b130_42 hG TM_eqo ?_
        refine c_drawn hG lf27 hR hI r1 l1 hk h1 (by omega) (fun cA2 f2 l2 => ?_)
        refine b130_52 hG TM_eqo ?_
        refine c_allBirths hG lf27 (Ok_R o1 hR) o1.2 (RR_S (RR_L r1 lf27 f2) o1.1 (by omega)) l2 ?_
        refine b130_59 hG ?_
        have hb := wsl_b (nx := cA 53 2) ⟨hn.2.2.2.1, hn.2.2.2.2⟩
        refine ⟨cA2, rfl, fun r hr => ?_, ?_⟩
        · rw [f2 r (by omega)]
          exact tA.1 r (by omega) (by omega)
        · exact hm cA1 cA2 tA f2 l2
      · intro p1; omega
  · refine op_none (v := -1) h (by omega) ?_ ?_
    · intro Q hz
      refine b130_0 hG rfl (by intros; omega) ?_ ?_
      · intro p1; exact hz
      · intro p1
        refine c_canPass hG lf27 hI hL (by omega) h1 ?_
        rw [if_neg (by omega)]
        refine b130_19 hG (by intros; omega) ?_ ?_
        · intro p1; omega
        · intro p1; exact hz
    · intro Q hz
      clear hr hL hn e1
      generalize hc : cB = c at *
      refine b244_0 hG ?_
      generalize hc1 : q_up c 188 0 0 = c1 at hz ⊢
      have e190 : c1 190 = c 190 := by rw [← hc1]; rfl
      rw [← e190] at hR hI hw gb g
      refine r_areDays hG hI (by omega) h1 ?_
      by_cases hw2 : 1 ≤ v1 ∧ v1 ≤ 60 ∧ c1 190 168 + v1 ≤ 9999
      · rw [if_pos hw2]
        refine b244_10 hG (by intros; omega) ?_ rfl (by intros; omega) ?_ ?_
        · intro p1; omega
        · intro p1 p2; omega
        · intro p1 p2; exact hz
      · rw [if_neg hw2]
        refine b244_10 hG (by intros; omega) ?_ rfl (by intros; omega) ?_ ?_
        · intro p1; exact hz
        · intro p1; omega
        · intro p1; omega
end SPY
