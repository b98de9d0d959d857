section SPGr
variable {N N' g g' : Int → Int} {v k j n m : Int}
def rmv (v k : Int) : Int := q_xor v (q_shl 1 k)
theorem bits_a : ∀ v : Fin 256, ∀ k : Fin 8, (bt (v.val : Int) (k.val : Int) = 1 → 0 ≤ rmv v.val k.val ∧ rmv v.val k.val < v.val ∧ q_and v.val (q_xor (q_shl 1 k.val) (-1)) = rmv v.val k.val) := by decide +kernel
theorem bits_b : ∀ v : Fin 256, ∀ k : Fin 8, bt (v.val : Int) (k.val : Int) = 1 → ∀ j : Fin 8, bt (rmv v.val k.val) j.val = if j = k then 0 else bt v.val j.val := by decide +kernel
theorem bits_c : ∀ v : Fin 256, v.val = 0 ∨ ∃ k : Fin 8, bt (v.val : Int) (k.val : Int) = 1 := by decide +kernel
theorem bits_z : ∀ k : Fin 8, bt 0 (k.val : Int) = 0 := by decide +kernel
theorem bits_d : ∀ n : Fin 9, ∀ v : Fin 256, (v.val : Int) < q_shl 1 n.val → ∀ j : Fin 8, n.val ≤ j.val → bt v.val j.val = 0 := by decide +kernel
theorem bits_e : ∀ n : Fin 9, q_shl 1 n.val - 1 ≤ 255 ∧ 0 ≤ q_shl 1 n.val - 1 ∧ ∀ j : Fin 8, bt (q_shl 1 n.val - 1) j.val = if j.val < n.val then 1 else 0 := by decide +kernel
theorem bits_f : ∀ n : Fin 8, ∀ v : Fin 256, (v.val : Int) < q_shl 1 n.val → 0 ≤ q_or v.val (q_shl 1 n.val) ∧ q_or v.val (q_shl 1 n.val) < q_shl 1 (n.val + 1 : Nat) ∧ q_shl 1 (n.val : Nat) < q_shl 1 (n.val + 1 : Nat) ∧ ∀ j : Fin 8, bt (q_or v.val (q_shl 1 n.val)) j.val = if j = n then 1 else bt v.val j.val := by decide +kernel
theorem bx1 (hv : 0 ≤ v ∧ v < 256) (hk : 0 ≤ k ∧ k < 8) (h : bt v k = 1) : 0 ≤ rmv v k ∧ rmv v k < v ∧ q_and v (q_xor (q_shl 1 k) (-1)) = rmv v k := by
  have h1 := bits_a ⟨v.toNat, by omega⟩ ⟨k.toNat, by omega⟩
  rw [show ((⟨v.toNat, by omega⟩ : Fin 256).val : Int) = v by show (v.toNat : Int) = v; omega, show ((⟨k.toNat, by omega⟩ : Fin 8).val : Int) = k by show (k.toNat : Int) = k; omega] at h1
  exact h1 h
theorem bx2 (hv : 0 ≤ v ∧ v < 256) (hk : 0 ≤ k ∧ k < 8) (hj : 0 ≤ j ∧ j < 8) (h : bt v k = 1) : bt (rmv v k) j = if j = k then 0 else bt v j := by
  have h1 := bits_b ⟨v.toNat, by omega⟩ ⟨k.toNat, by omega⟩
  rw [show ((⟨v.toNat, by omega⟩ : Fin 256).val : Int) = v by show (v.toNat : Int) = v; omega, show ((⟨k.toNat, by omega⟩ : Fin 8).val : Int) = k by show (k.toNat : Int) = k; omega] at h1
  have h2 := h1 h ⟨j.toNat, by omega⟩
  rw [show ((⟨j.toNat, by omega⟩ : Fin 8).val : Int) = j by show (j.toNat : Int) = j; omega] at h2
  rw [h2]
  by_cases e : j = k
  · subst e; rw [if_pos rfl, if_pos rfl]
  · rw [if_neg e, if_neg (fun q => e (by have := congrArg (fun x : Fin 8 => x.val) q; dsimp only at this; omega))]
theorem bx3 (hv : 0 ≤ v ∧ v < 256) (h : ¬ v = 0) : ∃ k, 0 ≤ k ∧ k < 8 ∧ bt v k = 1 := by
  have h1 := bits_c ⟨v.toNat, by omega⟩
  rw [show ((⟨v.toNat, by omega⟩ : Fin 256).val : Int) = v by show (v.toNat : Int) = v; omega] at h1
  rcases h1 with h1 | ⟨k, h1⟩
  · exact absurd (show v = 0 by have : v.toNat = 0 := h1; omega) h
  · exact ⟨k.val, by omega, by omega, h1⟩
theorem bx4 (hn : 0 ≤ n ∧ n ≤ 8) (hv : 0 ≤ v ∧ v < 256) (h : v < q_shl 1 n) (hj : n ≤ j ∧ j < 8) : bt v j = 0 := by
  have h1 := bits_d ⟨n.toNat, by omega⟩ ⟨v.toNat, by omega⟩
  rw [show ((⟨v.toNat, by omega⟩ : Fin 256).val : Int) = v by show (v.toNat : Int) = v; omega, show ((⟨n.toNat, by omega⟩ : Fin 9).val : Int) = n by show (n.toNat : Int) = n; omega] at h1
  have h2 := h1 h ⟨j.toNat, by omega⟩ (by show n.toNat ≤ j.toNat; omega)
  rw [show ((⟨j.toNat, by omega⟩ : Fin 8).val : Int) = j by show (j.toNat : Int) = j; omega] at h2
  exact h2
theorem bx5 (hn : 0 ≤ n ∧ n ≤ 8) : q_shl 1 n - 1 ≤ 255 ∧ 0 ≤ q_shl 1 n - 1 ∧ ∀ j, 0 ≤ j → j < 8 → bt (q_shl 1 n - 1) j = if j < n then 1 else 0 := by
  have h1 := bits_e ⟨n.toNat, by omega⟩
  rw [show ((⟨n.toNat, by omega⟩ : Fin 9).val : Int) = n by show (n.toNat : Int) = n; omega] at h1
  refine ⟨h1.1, h1.2.1, fun j p q => ?_⟩
  have h2 := h1.2.2 ⟨j.toNat, by omega⟩
  rw [show ((⟨j.toNat, by omega⟩ : Fin 8).val : Int) = j by show (j.toNat : Int) = j; omega] at h2
  rw [h2]
  by_cases e : j < n
  · rw [if_pos e, if_pos (by show j.toNat < n.toNat; omega)]
  · rw [if_neg e, if_neg (by show ¬ j.toNat < n.toNat; omega)]
theorem bx6 (hn : 0 ≤ n ∧ n < 8) (hv : 0 ≤ v ∧ v < 256) (h : v < q_shl 1 n) : 0 ≤ q_or v (q_shl 1 n) ∧ q_or v (q_shl 1 n) < q_shl 1 (n + 1) ∧ q_shl 1 n < q_shl 1 (n + 1) ∧ ∀ j, 0 ≤ j → j < 8 → bt (q_or v (q_shl 1 n)) j = if j = n then 1 else bt v j := by
  have h1 := bits_f ⟨n.toNat, by omega⟩ ⟨v.toNat, by omega⟩
  rw [show ((⟨v.toNat, by omega⟩ : Fin 256).val : Int) = v by show (v.toNat : Int) = v; omega, show (((⟨n.toNat, by omega⟩ : Fin 8).val + 1 : Nat) : Int) = n + 1 by show ((n.toNat + 1 : Nat) : Int) = n + 1; omega, show ((⟨n.toNat, by omega⟩ : Fin 8).val : Int) = n by show (n.toNat : Int) = n; omega] at h1
  have h2 := h1 h
  refine ⟨h2.1, h2.2.1, h2.2.2.1, fun j p q => ?_⟩
  have h3 := h2.2.2.2 ⟨j.toNat, by omega⟩
  rw [show ((⟨j.toNat, by omega⟩ : Fin 8).val : Int) = j by show (j.toNat : Int) = j; omega] at h3
  rw [h3]
  by_cases e : j = n
  · subst e; rw [if_pos rfl, if_pos rfl]
  · rw [if_neg e, if_neg (fun q => e (by have := congrArg (fun x : Fin 8 => x.val) q; dsimp only at this; omega))]
def SM (N : Int → Int) (v : Int) : Int := sumI (fun j => if bt v j = 1 then N j else 0) 8
theorem SM_rm (hv : 0 ≤ v ∧ v < 256) (hk : 0 ≤ k ∧ k < 8) (h : bt v k = 1) : SM N (rmv v k) + N k = SM N v := by
  unfold SM
  rw [sumI_u (f := fun j => if bt v j = 1 then N j else 0) (g := fun j => if bt (rmv v k) j = 1 then N j else 0) hk.1 hk.2 (fun q p1 p2 p3 => by show (if bt (rmv v k) q = 1 then N q else 0) = _; rw [bx2 hv hk ⟨p1, p2⟩ h, if_neg p3])]
  show _ + ((if bt (rmv v k) k = 1 then N k else 0) - (if bt v k = 1 then N k else 0)) + N k = _
  rw [bx2 hv hk hk h, if_pos rfl, if_neg (by omega), if_pos h]
  omega
theorem SM_0 : SM N 0 = 0 := by
  unfold SM
  have : sumI (fun j => if bt 0 j = 1 then N j else 0) 8 = sumI (fun _ => 0) 8 := sumI_c (fun j p q => by
    have h1 := bits_z ⟨j.toNat, by omega⟩
    rw [show ((⟨j.toNat, by omega⟩ : Fin 8).val : Int) = j by show (j.toNat : Int) = j; omega] at h1
    rw [h1, if_neg (by omega)])
  rw [this]
  exact sumI_z (n := 0) (by omega) (by omega) (fun _ _ _ => rfl) |>.trans (sumI_0 (by omega))
def mx1 (g : Int → Int) (v j M : Int) : Int := if bt v j = 1 then (if M < g (rmv v j) then g (rmv v j) else M) else M
def mxF (g : Int → Int) (v n : Int) : Int := loopI (mx1 g v) n 0
theorem mxF_s (hn : 0 ≤ n) : 0 ≤ mxF g v n ∧ (∀ j, 0 ≤ j → j < n → bt v j = 1 → g (rmv v j) ≤ mxF g v n) ∧ (mxF g v n = 0 ∨ ∃ j, 0 ≤ j ∧ j < n ∧ bt v j = 1 ∧ g (rmv v j) = mxF g v n) := by
  refine loopI_pi (f := mx1 g v) (P := fun n M => 0 ≤ M ∧ (∀ j, 0 ≤ j → j < n → bt v j = 1 → g (rmv v j) ≤ M) ∧ (M = 0 ∨ ∃ j, 0 ≤ j ∧ j < n ∧ bt v j = 1 ∧ g (rmv v j) = M)) hn ⟨by omega, fun j p q => by omega, Or.inl rfl⟩ ?_
  intro i M h1 h2 ⟨h3, h4, h5⟩
  unfold mx1
  by_cases hb : bt v i = 1
  · rw [if_pos hb]
    by_cases hm : M < g (rmv v i)
    · rw [if_pos hm]
      refine ⟨by omega, fun j p q r => ?_, Or.inr ⟨i, h1, by omega, hb, rfl⟩⟩
      by_cases e : j = i
      · rw [e]; omega
      · have := h4 j p (by omega) r; omega
    · rw [if_neg hm]
      refine ⟨h3, fun j p q r => ?_, ?_⟩
      · by_cases e : j = i
        · rw [e]; omega
        · exact h4 j p (by omega) r
      · rcases h5 with h5 | ⟨j, p, q, r, t⟩
        · exact Or.inl h5
        · exact Or.inr ⟨j, p, by omega, r, t⟩
  · rw [if_neg hb]
    refine ⟨h3, fun j p q r => ?_, ?_⟩
    · by_cases e : j = i
      · rw [e] at r; exact absurd r hb
      · exact h4 j p (by omega) r
    · rcases h5 with h5 | ⟨j, p, q, r, t⟩
      · exact Or.inl h5
      · exact Or.inr ⟨j, p, by omega, r, t⟩
def Grp (N g : Int → Int) (n b : Int) : Prop := g 0 = 0 ∧ ∀ v, 1 ≤ v → v < b → g v = mxF g v n + (if SM N v = 0 then 1 else 0)
theorem Grp_b {b : Int} (h : Grp N g n b) (hn : 0 ≤ n ∧ n ≤ 8) (hb : b ≤ 256) : ∀ v, 0 ≤ v → v < b → 0 ≤ g v ∧ g v ≤ v := by
  have key : ∀ (m : Nat) (v : Int), 0 ≤ v → v < b → v.toNat ≤ m → 0 ≤ g v ∧ g v ≤ v := by
    intro m
    induction m with
    | zero =>
      intro v p q r
      obtain rfl : v = 0 := by omega
      rw [h.1]; omega
    | succ m ih =>
      intro v p q r
      by_cases hv : v = 0
      · rw [hv, h.1]; omega
      · rw [h.2 v (by omega) q]
        obtain ⟨s1, s2, s3⟩ := mxF_s (g := g) (v := v) hn.1
        have : mxF g v n ≤ v - 1 := by
          rcases s3 with s3 | ⟨j, p1, p2, p3, p4⟩
          · omega
          · obtain ⟨r1, r2, -⟩ := bx1 (v := v) (k := j) (by omega) (by omega) p3
            have := ih (rmv v j) r1 (by omega) (by omega)
            omega
        split <;> omega
  exact fun v p q => key v.toNat v p q (Nat.le_refl _)
def Ren (sg : Int → Int) (m cs st : Int) : Prop := (∀ i, 0 ≤ i → i < m → bt cs i = bt st (sg i)) ∧ (∀ i, m ≤ i → i < 8 → bt cs i = 0) ∧ ∀ k, 0 ≤ k → k < 8 → bt st k = 1 → ∃ i, 0 ≤ i ∧ i < m ∧ sg i = k
theorem Ren_rm {sg : Int → Int} {cs st : Int} (hm : 0 ≤ m ∧ m ≤ 8) (hs : ∀ i, 0 ≤ i → i < m → 0 ≤ sg i ∧ sg i < 8) (hi : ∀ i j, 0 ≤ i → i < m → 0 ≤ j → j < m → sg i = sg j → i = j) (hc : 0 ≤ cs ∧ cs < 256) (ht : 0 ≤ st ∧ st < 256) (h : Ren sg m cs st) {i : Int} (h0 : 0 ≤ i) (h1 : i < m) (hb : bt cs i = 1) : Ren sg m (rmv cs i) (rmv st (sg i)) := by
  obtain ⟨r1, r2, r3⟩ := h
  have hsi := hs i h0 h1
  have hb2 : bt st (sg i) = 1 := by rw [← r1 i h0 h1]; exact hb
  refine ⟨fun j p q => ?_, fun j p q => ?_, fun k p q r => ?_⟩
  · have hsj := hs j p q
    rw [bx2 hc ⟨h0, by omega⟩ ⟨p, by omega⟩ hb, bx2 ht hsi hsj hb2]
    by_cases e : j = i
    · rw [if_pos e, if_pos (by rw [e])]
    · rw [if_neg e, if_neg (fun q2 => e (hi j i p q h0 h1 q2))]
      exact r1 j p q
  · rw [bx2 hc ⟨h0, by omega⟩ ⟨by omega, q⟩ hb, if_neg (by omega)]
    exact r2 j p q
  · rw [bx2 ht hsi ⟨p, q⟩ hb2] at r
    by_cases e : k = sg i
    · rw [if_pos e] at r; omega
    · rw [if_neg e] at r
      exact r3 k p q r
theorem Grp_ren {sg : Int → Int} (hm : 0 ≤ m ∧ m ≤ 8) (hs : ∀ i, 0 ≤ i → i < m → 0 ≤ sg i ∧ sg i < 8) (hi : ∀ i j, 0 ≤ i → i < m → 0 ≤ j → j < m → sg i = sg j → i = j) (hN : ∀ i, 0 ≤ i → i < m → N' i = N (sg i)) (h : Grp N g 8 256) (h' : Grp N' g' m (q_shl 1 m)) : ∀ (n : Nat) (cs st : Int), 0 ≤ cs → cs < q_shl 1 m → 0 ≤ st → st < 256 → Ren sg m cs st → cs.toNat ≤ n → g' cs = g st ∧ SM N' cs = SM N st := by
  have h5 := bx5 hm
  intro n
  induction n with
  | zero =>
    intro cs st c0 c1 t0 t1 hr hn
    obtain rfl : cs = 0 := by omega
    have hst : st = 0 := by
      by_cases hz : st = 0
      · exact hz
      · obtain ⟨k, k0, k1, k2⟩ := bx3 ⟨t0, t1⟩ hz
        obtain ⟨i, i0, i1, i2⟩ := hr.2.2 k k0 k1 k2
        have := hr.1 i i0 i1
        have z := bits_z ⟨i.toNat, by omega⟩
        rw [show ((⟨i.toNat, by omega⟩ : Fin 8).val : Int) = i by show (i.toNat : Int) = i; omega] at z
        rw [i2] at this
        omega
    rw [hst, h.1, h'.1, SM_0, SM_0]
    exact ⟨rfl, rfl⟩
  | succ n ih =>
    intro cs st c0 c1 t0 t1 hr hn
    by_cases hz : cs = 0
    · exact ih cs st c0 c1 t0 t1 hr (by omega)
    have hcs : 0 ≤ cs ∧ cs < 256 := ⟨c0, by omega⟩
    have step : ∀ i, 0 ≤ i → i < m → bt cs i = 1 → g' (rmv cs i) = g (rmv st (sg i)) ∧ SM N' (rmv cs i) = SM N (rmv st (sg i)) := by
      intro i i0 i1 hb
      have hb2 : bt st (sg i) = 1 := by rw [← hr.1 i i0 i1]; exact hb
      obtain ⟨p1, p2, -⟩ := bx1 hcs ⟨i0, by omega⟩ hb
      obtain ⟨p3, p4, -⟩ := bx1 ⟨t0, t1⟩ (hs i i0 i1) hb2
      exact ih _ _ p1 (by omega) p3 (by omega) (Ren_rm hm hs hi hcs ⟨t0, t1⟩ hr i0 i1 hb) (by omega)
    obtain ⟨k, k0, k1, k2⟩ := bx3 hcs hz
    have km : k < m := by
      by_cases hk : k < m
      · exact hk
      · have := hr.2.1 k (by omega) k1; omega
    have kb : bt st (sg k) = 1 := by rw [← hr.1 k k0 km]; exact k2
    have hsum : SM N' cs = SM N st := by
      rw [← SM_rm hcs ⟨k0, k1⟩ k2, ← SM_rm ⟨t0, t1⟩ (hs k k0 km) kb, (step k k0 km k2).2, hN k k0 km]
    have hst : ¬ st = 0 := by
      intro e
      have z := bits_z ⟨(sg k).toNat, by have := hs k k0 km; omega⟩
      have hk := hs k k0 km
      rw [show ((⟨(sg k).toNat, by omega⟩ : Fin 8).val : Int) = sg k by show ((sg k).toNat : Int) = sg k; omega] at z
      rw [e] at kb; omega
    refine ⟨?_, hsum⟩
    rw [h'.2 cs (by omega) c1, h.2 st (by omega) t1, hsum]
    congr 1
    obtain ⟨m1, m2, m3⟩ := mxF_s (g := g') (v := cs) (n := m) hm.1
    obtain ⟨q1, q2, q3⟩ := mxF_s (g := g) (v := st) (n := 8) (by omega)
    have le1 : mxF g' cs m ≤ mxF g st 8 := by
      rcases m3 with m3 | ⟨i, i0, i1, i2, i3⟩
      · omega
      · rw [← i3, (step i i0 i1 i2).1]
        have := hs i i0 i1
        exact q2 (sg i) this.1 this.2 (by rw [← hr.1 i i0 i1]; exact i2)
    have le2 : mxF g st 8 ≤ mxF g' cs m := by
      rcases q3 with q3 | ⟨j, j0, j1, j2, j3⟩
      · omega
      · obtain ⟨i, i0, i1, i2⟩ := hr.2.2 j j0 j1 j2
        have hb : bt cs i = 1 := by rw [hr.1 i i0 i1, i2]; exact j2
        rw [← j3, ← i2, ← (step i i0 i1 hb).1]
        exact m2 i i0 i1 hb
    omega
end SPGr
