section SPof
variable {d r n0 : Nat} {G : GG} {c c' cA cB cA0 cB0 cA' cB' : CC} {Q : Option AV → HH → Prop} {v v1 v2 N k p len most stop a b w w' n to : Int} {j : Nat} {B f fS : Int → Int}
theorem up_er : (q_up c r v w) r = q_u1 (c r) v w := by rw [up_uf, uf_e]
def NF (B : Int → Int) (len stop : Int) (j : Nat) (fK : Int → Int) (nK : Int) (fS : Int → Int) (nS : Int) : Prop := zS B len stop j = 1 ∧ pF B len stop j fK nK = -1 ∧ pF B len stop j fS nS = -1
theorem c_newName {nK nS : Int} (hG : Shp G) (hW : Wt B len most stop) (h : TA c B len stop j) (eK : c 18 0 = nK) (eS : c 18 1 = nS) (bK : 0 ≤ nK ∧ nK ≤ 6) (bS : 0 ≤ nS ∧ nS ≤ 8) (hK : ∀ i, 0 ≤ i → i < nK → I64 (c 19 i)) (hS : ∀ i, 0 ≤ i → i < nS → I64 (c 20 i)) (hz : NF B len stop j (c 19) nK (c 20) nS → ∀ c', FrV c c' → TA c' B len stop (j + 1) → Q (some (aI 1)) (G, c')) (hf : ¬ NF B len stop j (c 19) nK (c 20) nS → ∀ c', FlA c c' (fM (zS B len stop j)) (pP B len stop j) → Q (some (aI 0)) (G, c')) : TM (d + 1) 68 [aR 119] (G, c) Q := by
  obtain ⟨e1, e2, e3, e4⟩ := TA_e h
  have b := p_b hW j
  have pb := pF_b (B := B) (len := len) (stop := stop) (j := j) (f := c 19) bK.1
  have pb2 := pF_b (B := B) (len := len) (stop := stop) (j := j) (f := c 20) bS.1
  refine b68_0 hG TM_eqo (e1) (by intros; omega) (e4) (eK) ?_ ?_
  · intro q1
    rw [show fM (zS B len stop j) = 3 from if_pos q1] at hf
    refine c_place hG (f := c 19) (n0 := 6) (sh_ok hG (by decide +kernel)) (sh_ln hG (by decide +kernel)) (by omega) bK.1 (by omega) (by unfold I64; omega) (fun i g1 g2 => ⟨rfl, hK i g1 g2⟩) ?_
    show T _ 68 44 _ ([aI (pF B len stop j (c 19) nK)]) _ _
    refine b68_44 hG TM_eqo (by intros; omega) ?_ (e4) (eS) ?_
    · intro q2
      refine c_ref hG h (fun c' f1 => ?_)
      refine b68_84 hG (Or.inl rfl) ?_
      exact hf (fun x => q2 x.2.1) c' f1
    · intro q2
      refine c_place hG (f := c 20) (n0 := 8) (sh_ok hG (by decide +kernel)) (sh_ln hG (by decide +kernel)) (by omega) bS.1 (by omega) (by unfold I64; omega) (fun i g1 g2 => ⟨rfl, hS i g1 g2⟩) ?_
      show T _ 68 72 _ ([aI (pF B len stop j (c 20) nS)]) _ _
      refine b68_72 hG TM_eqo (by intros; omega) ?_ ?_
      · intro q3
        refine c_advance hG h (fun c' f1 f2 => ?_)
        refine b68_92 hG ?_
        exact hz ⟨q1, q2, q3⟩ c' f1 f2
      · intro q3
        refine c_ref hG h (fun c' f1 => ?_)
        refine b68_84 hG (Or.inl rfl) ?_
        exact hf (fun x => q3 x.2.2) c' f1
  · intro q1
    rw [show fM (zS B len stop j) = 1 from if_neg q1] at hf
    refine c_ref hG h (fun c' f1 => ?_)
    refine b68_19 hG (Or.inl rfl) ?_
    exact hf (fun x => q1 x.1) c' f1
theorem r_fresh {nK nS : Int} (hG : Shp G) (hW : Wt B len most stop) (h : RT c B len most stop j) (hr : ∀ i, 0 ≤ i → i < 20 → c 194 i = rsvF i) (eK : c 191 0 = nK) (eS : c 191 1 = nS) (bK : 0 ≤ nK ∧ nK ≤ 6) (bS : 0 ≤ nS ∧ nS ≤ 8) (bt : 0 ≤ to ∧ to < 28) (hK : ∀ i, 0 ≤ i → i < nK → NmR (f i) (c 193 (14 + i))) (hS : ∀ i, 0 ≤ i → i < nS → NmR (fS i) (c 193 (20 + i))) (hz : NF B len stop j f nK fS nS → ∀ c' w, NmR (pW B len stop j) w → FrN (q_up c 193 to w) c' → RT c' B len most stop (j + 1) → Q (some (aI 1)) (G, c')) (hf : ¬ NF B len stop j f nK fS nS → ∀ c', FlB c c' (fM (zS B len stop j)) (pP B len stop j) → Q (some (aI 0)) (G, c')) : TM (d + 2) 180 [aR 188, aI to] (G, c) Q := by
  have pb := pF_b (B := B) (len := len) (stop := stop) (j := j) (f := f) bK.1
  have pb2 := pF_b (B := B) (len := len) (stop := stop) (j := j) (f := fS) bS.1
  refine b180_0 hG ?_
  refine r_isName hG hW h hr ?_
  by_cases h1 : zS B len stop j = 1
  · rw [if_pos h1]
    rw [show fM (zS B len stop j) = 3 from if_pos h1] at hf
    have t := RT_tok hW h
    have hw := t.2.2.2.2.2.2 (t.2.2.2.2.2.1.mp (Or.inl h1))
    clear t
    refine b180_4 hG TM_eqo (by intros; omega) (eK) ?_ ?_
    · intro q
      refine r_find hG hW h h1 (by omega) hK ?_
      refine b180_25 hG TM_eqo (by intros; omega) ?_ (eS) ?_
      · intro q2
        refine r_bad hG h (fun c' f1 => ?_)
        refine b180_48 hG (Or.inl rfl) ?_
        exact hf (fun x => by have := x.2.1; omega) c' f1
      · intro q2
        refine r_find hG hW h h1 (by omega) hS ?_
        refine b180_40 hG TM_eqo (by intros; omega) rfl (by intros; omega) (by intros; omega) ?_ ?_
        · intro q3
          refine r_advance hG (RT_row h (by omega) (by omega)) hW.1 hW.2.1 hW.2.2.1 (fun c' f1 f2 => ?_)
          refine b180_63 hG ?_
          exact hz ⟨h1, by omega, by omega⟩ c' _ hw f1 f2
        · intro q3
          refine r_bad hG h (fun c' f1 => ?_)
          refine b180_48 hG (Or.inl rfl) ?_
          exact hf (fun x => by have := x.2.2; omega) c' f1
    · intro q; omega
  · rw [if_neg h1]
    rw [show fM (zS B len stop j) = 1 from if_neg h1] at hf
    refine b180_4 hG TM_eqo (by intros; omega) (eK) ?_ ?_
    · intro q; omega
    · intro q
      refine r_bad hG h (fun c' f1 => ?_)
      refine b180_12 hG (Or.inl rfl) ?_
      exact hf (fun x => h1 x.1) c' f1
def DrR (cA cB : CC) : Prop :=
  (cA 18 0 = cB 191 0 ∧ cA 18 1 = cB 191 1 ∧ 0 ≤ cB 191 0 ∧ cB 191 0 ≤ 6 ∧ 0 ≤ cB 191 1 ∧ cB 191 1 ≤ 8) ∧
  ((cB 188 20 = 0 ∧ cA 18 2 = -1 ∧ cB 191 2 = 0) ∨ (cB 188 20 = 1 ∧ cA 18 2 = cB 191 2 ∧ 0 ≤ cB 191 2 ∧ cB 191 2 ≤ 9)) ∧
  (∀ i, 0 ≤ i → i < cB 191 0 → NmR (cA 19 i) (cB 193 (14 + i)) ∧ (cA 21 i = cB 191 (3 + i) ∧ 1 ≤ cB 191 (3 + i) ∧ cB 191 (3 + i) ≤ 60) ∧ cA 22 i = cB 191 (9 + i) ∧ 1 ≤ cB 191 (9 + i) ∧ cB 191 (9 + i) ≤ 9) ∧
  (∀ i, 0 ≤ i → i < cB 191 1 → NmR (cA 20 i) (cB 193 (20 + i)) ∧ cA 24 i = cB 191 (51 + i) ∧ cA 25 i = cB 191 (59 + i) - 1) ∧
  (∀ i, 0 ≤ i → i < 8 → (0 ≤ cB 191 (51 + i) ∧ cB 191 (51 + i) < 64) ∧ (0 ≤ cB 191 (59 + i) ∧ cB 191 (59 + i) ≤ cB 191 0) ∧ (bt (cB 191 167) i = 1 ↔ ¬ cB 191 (51 + i) = 0) ∧ (cB 191 1 ≤ i → cB 191 (51 + i) = 0 ∧ cB 191 (59 + i) = 0)) ∧
  (0 ≤ cB 191 167 ∧ cB 191 167 < 256) ∧
  (∀ i, 0 ≤ i → i < 36 → (cB 191 (131 + i) = 1 ∧ cA 23 i = cB 191 (15 + i) ∧ 0 ≤ cB 191 (15 + i) ∧ cB 191 (15 + i) ≤ 99) ∨ (cB 191 (131 + i) = 0 ∧ cA 23 i = -1 ∧ cB 191 (15 + i) = 0)) ∧
  (∀ x y, 0 ≤ x → x < 6 → 0 ≤ y → y < 6 → cB 191 (15 + 6 * x + y) = cB 191 (15 + 6 * y + x) ∧ cB 191 (131 + 6 * x + y) = cB 191 (131 + 6 * y + x)) ∧
  (∀ i, 0 ≤ i → i < 64 → cA 26 i = cB 191 (67 + i) ∧ 0 ≤ cB 191 (67 + i) ∧ cB 191 (67 + i) ≤ 999) ∧
  (∀ x y, 0 ≤ x → x < 8 → 0 ≤ y → y < 8 → (cB 191 1 ≤ x ∨ cB 191 1 ≤ y ∨ x = y) → cB 191 (67 + 8 * x + y) = 0)
theorem DrR_fr (h : DrR cA cB) (a : ∀ r, 18 ≤ r → r ≤ 26 → cA' r = cA r) (b1 : cB' 191 = cB 191) (b2 : cB' 193 = cB 193) (b3 : cB' 188 20 = cB 188 20) : DrR cA' cB' := by
  unfold DrR
  rw [a 18 (by omega) (by omega), a 19 (by omega) (by omega), a 20 (by omega) (by omega), a 21 (by omega) (by omega), a 22 (by omega) (by omega), a 23 (by omega) (by omega), a 24 (by omega) (by omega), a 25 (by omega) (by omega), a 26 (by omega) (by omega), b1, b2, b3]
  exact h
def FAo (cA0 cA : CC) : Prop := (∀ r, ¬ r = 2 → ¬ (5 ≤ r ∧ r ≤ 8) → ¬ (18 ≤ r ∧ r ≤ 26) → cA r = cA0 r) ∧ ∀ i, (i < 7 ∨ 14 < i) → cA 2 i = cA0 2 i
def FBo (cB0 cB : CC) : Prop := (∀ r, ¬ r = 188 → ¬ r = 191 → ¬ r = 193 → cB r = cB0 r) ∧ (∀ i, 0 ≤ i → i < 14 → cB 193 i = cB0 193 i) ∧ ∀ i, (i = 2 ∨ i = 19 ∨ 21 ≤ i) → cB 188 i = cB0 188 i
theorem FAo_V (h : FAo cA0 cA) (f : FrV cA cA') : FAo cA0 cA' := ⟨fun r h1 h2 h3 => (f.1 r h1).trans (h.1 r h1 h2 h3), fun i h1 => (f.2 i (by omega) (by omega) (by omega) (by omega) (by omega)).trans (h.2 i h1)⟩
theorem FAo_F (h : FAo cA0 cA) (f : FlA cA cA' k p) : FAo cA0 cA' := ⟨fun r h1 h2 h3 => (f.1 r h1).trans (h.1 r h1 h2 h3), fun i h1 => (f.2.1 i (by omega)).trans (h.2 i h1)⟩
theorem FAo_U {r : Nat} {i : Int} (h : FAo cA0 cA) (hr : 18 ≤ r ∧ r ≤ 26) : FAo cA0 (q_up cA r i v) := ⟨fun q h1 h2 h3 => (up_r (by omega)).trans (h.1 q h1 h2 h3), fun i h1 => (up_n (by omega)).trans (h.2 i h1)⟩
theorem FBo_N (h : FBo cB0 cB) (f : FrN cB cB') : FBo cB0 cB' := ⟨fun r h1 h2 h3 => (f.1 r h1).trans (h.1 r h1 h2 h3), fun i h1 h2 => by rw [f.1 193 (by omega)]; exact h.2.1 i h1 h2, fun i h1 => (f.2 i (by omega) (by omega) (by omega) (by omega) (by omega) (by omega)).trans (h.2.2 i h1)⟩
theorem FBo_G (h : FBo cB0 cB) (f : FrG cB cB') : FBo cB0 cB' := ⟨fun r h1 h2 h3 => (f.1 r h1).trans (h.1 r h1 h2 h3), fun i h1 h2 => by rw [f.1 193 (by omega)]; exact h.2.1 i h1 h2, fun i h1 => (f.2 i (by omega) (by omega) (by omega) (by omega) (by omega) (by omega) (by omega)).trans (h.2.2 i h1)⟩
theorem FBo_F (h : FBo cB0 cB) (f : FlB cB cB' k p) : FBo cB0 cB' := ⟨fun r h1 h2 h3 => (f.1 r h1).trans (h.1 r h1 h2 h3), fun i h1 h2 => by rw [f.1 193 (by omega)]; exact h.2.1 i h1 h2, fun i h1 => (f.2.1 i (by omega) (by omega) (by omega)).trans (h.2.2 i h1)⟩
theorem FBo_U {i : Int} (h : FBo cB0 cB) : FBo cB0 (q_up cB 191 i v) := ⟨fun q h1 h2 h3 => (up_r (by omega)).trans (h.1 q h1 h2 h3), fun i h1 h2 => (up_n (by omega)).trans (h.2.1 i h1 h2), fun i h1 => (up_n (by omega)).trans (h.2.2 i h1)⟩
theorem FBo_W {i : Int} (h : FBo cB0 cB) (hi : 14 ≤ i) : FBo cB0 (q_up cB 193 i v) := ⟨fun q h1 h2 h3 => (up_r (by omega)).trans (h.1 q h1 h2 h3), fun i h1 h2 => (up_n (by omega)).trans (h.2.1 i h1 h2), fun i h1 => (up_n (by omega)).trans (h.2.2 i h1)⟩
theorem FBo_T {i : Int} (h : FBo cB0 cB) (hi : i = 18 ∨ i = 20) : FBo cB0 (q_up cB 188 i v) := ⟨fun q h1 h2 h3 => (up_r (by omega)).trans (h.1 q h1 h2 h3), fun i h1 h2 => (up_n (by omega)).trans (h.2.1 i h1 h2), fun i h1 => (up_n (by omega)).trans (h.2.2 i h1)⟩
def StO (cA0 cB0 : CC) (B : Int → Int) (len most stop : Int) (j : Nat) (cA cB : CC) : Prop := TA cA B len stop j ∧ ((cA 2 9 = if most < len then 1 else 0) ∧ cA 2 14 = 0 ∧ cB 188 15 = 0) ∧ RT cB B len most stop j ∧ FAo cA0 cA ∧ FBo cB0 cB ∧ DrR cA cB ∧ ∀ i, 0 ≤ i → i < 20 → cB0 194 i = rsvF i
def FlX (cA cB : CC) : Prop := cA 2 14 = cB 188 15 ∧ (1 ≤ cB 188 15 ∧ cB 188 15 ≤ 4) ∧ cA 2 11 = cB 188 16 ∧ 0 ≤ cB 188 16 ∧ cB 188 16 ≤ 940
theorem FlX_mk (hW : Wt B len most stop) {cA1 cB1 : CC} (h1 : FlA cA1 cA k (pP B len stop j)) (h2 : FlB cB1 cB k (pP B len stop j)) (hk : 1 ≤ k ∧ k ≤ 4) : FlX cA cB := by
  have := (p_b hW j).2.2.2.2.2
  exact ⟨by rw [h1.2.2.1, h2.2.2.1], by rw [h2.2.2.1]; exact hk, by rw [h1.2.2.2, h2.2.2.2], by rw [h2.2.2.2]; exact this.1, by rw [h2.2.2.2]; exact this.2⟩
theorem fN_b : 1 ≤ fN k ∧ fN k ≤ 4 := by unfold fN; split <;> omega
theorem fM_b : 1 ≤ fM k ∧ fM k ≤ 4 := by unfold fM; split <;> omega
def LnP (G : GG) (cA0 cB0 : CC) (B : Int → Int) (len most stop : Int) (j : Nat) (r1 : Option AV) (h1 : HH) (r2 : Option AV) (h2 : HH) : Prop := ∃ cA cB, h1 = (G, cA) ∧ h2 = (G, cB) ∧ FAo cA0 cA ∧ FBo cB0 cB ∧ ((r1 = some (aI 0) ∧ r2 = some (aI 0) ∧ FlX cA cB) ∨ (r1 = some (aI 1) ∧ r2 = some (aI 1) ∧ ∃ j', StO cA0 cB0 B len most stop j' cA cB ∧ PP B len stop j + 1 ≤ PP B len stop j'))
theorem Ln_f (hW : Wt B len most stop) {cA1 cB1 : CC} {i : Nat} (g1 : FAo cA0 cA1) (g2 : FBo cB0 cB1) (h1 : FlA cA1 cA k (pP B len stop i)) (h2 : FlB cB1 cB k (pP B len stop i)) (hk : 1 ≤ k ∧ k ≤ 4) : LnP G cA0 cB0 B len most stop j (some (aI 0)) (G, cA) (some (aI 0)) (G, cB) :=
  ⟨cA, cB, rfl, rfl, FAo_F g1 h1, FBo_F g2 h2, Or.inl ⟨rfl, rfl, FlX_mk hW h1 h2 hk⟩⟩
theorem Ln_t {i : Nat} (h : StO cA0 cB0 B len most stop i cA cB) (hp : PP B len stop j + 1 ≤ PP B len stop i) : LnP G cA0 cB0 B len most stop j (some (aI 1)) (G, cA) (some (aI 1)) (G, cB) :=
  ⟨cA, cB, rfl, rfl, h.2.2.2.1, h.2.2.2.2.1, Or.inr ⟨rfl, rfl, i, h, hp⟩⟩
end SPof
