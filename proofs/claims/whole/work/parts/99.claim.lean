def R_law : String := "SoulOfficeLaw"
def lw_P (b : Addr) (xs : List Int32) (args : Array Value) (s : State) : Prop := args = #[.ref b] ∧ s.IntsAt b xs ∧ xs.length ≤ 3072 ∧ (Jvm.Cond.and given_1 narrow_1).before args s = true
def lw_Q (_ : Array Value) (s : State) (o : Outcome) (t : State) : Prop := o = .returned (some (.int 1)) ∧ Framed s o t [] 601024 7293034
def lw_Z (below : List Frame) (a : Array Value) (s : State) : State → Prop := fun t => ∃ o, t.status = .running ∧ Ended t below o ∧ lw_Q a s o t
/-- the law's own end, with 1 on the stack, nothing written that was there before, its room as the claim has it -/
theorem lw_ret {p : Program} {l : Launch} {e : Env} {s : State} {m : MethodId} {below : List Frame} {meth : Method} {c : Code} {b : Nat} (hx : p.tables.exec = Jvm.exec) (hb : c.code = code) (hr : meth.sig.returnType = ret) (hlocks : meth.locks = false) {pc : Nat} {H : Heap} {ls : Array Slot} (hdg : decode code pc = .ok (.ireturn, 1)) : W p l e room_1 s m #[Value.ref b] below meth c H [] 601024 7293034 (lw_Z below #[Value.ref b] s) (F0 m pc ls [.int 1]) := by
  intro T hT X
  obtain ⟨fs, hret, hrun, hended, hW, hframe⟩ := X.leave (v := some (.int 1)) (hlocks := hlocks) (fun h => by rw [hr] at h; cases h)
  have hmeth' : T.vm.method? m = some meth := X.method'
  refine ⟨T.setFrames fs, ?_, .returned (some (.int 1)), hrun, hended, rfl, ⟨_, rfl⟩, hW, hframe⟩
  jvm_step X.here [X.here.top, hx, hb, hdg, hmeth', hr, ret, narrow_b1]
  (try refine ⟨rfl, ?_⟩); (try refine ⟨rfl, ?_⟩)
  first | (intro acts; rw [hret _ acts rfl rfl rfl]) | rw [hret _ _ rfl rfl rfl]
  exact Steps.refl _
/-- what holds at the law's entry: the machine, the code, the tables' words (any of lw_tbl by 'hts w (by decide +kernel)'), the script of L ints xs at the cell b, what the Statement gives of the start (any of its parts by flat_of_before) -/
def lw_At (p : Program) (s : State) (m : MethodId) (meth : Method) (c : Code) (b L : Nat) (xs : Nat → Int32) : Prop :=
  p.tables.exec = Jvm.exec ∧ c.code = code ∧ meth.sig.returnType = ret ∧ c.maxLocals = 7 ∧ s.vm.findClass R_law = some m.cls ∧ (∀ w ∈ lw_tbl, w.before #[Value.ref b] s = true) ∧ va_X b L xs s s.heap ∧ b < s.heap.size ∧ meth.locks = false ∧ (Jvm.Cond.and given_1 narrow_1).before #[Value.ref b] s = true
theorem q_start (hev : q_Law) {p : Program} {e : Env} {s : State} {m : MethodId} {below : List Frame} {meth : Method} {c : Code} (l : Launch) (hflags : l.flags = flags0) {b L : Nat} {xs : Nat → Int32} (hL : L ≤ 3072) (C0 : lw_At p s m meth c b L xs) : W p l e room_1 s m #[Value.ref b] below meth c s.heap [] 0 0 (lw_Z below #[Value.ref b] s) (entryFrame m ([Value.ref b] : List Value).toArray 7) := by
  obtain ⟨hx, hb, hr, hml, hown, hts, hX, hbl, hlocks, hgv⟩ := C0
  obtain ⟨Z, D, z1, z2, hvm, hex⟩ := q_enter hts hgv hbl
  obtain ⟨n, h', he, b1, b2⟩ := hev L xs hL
  have F : q_Fx p room_1 s m #[Value.ref b] meth c Z D (L, xs) q_law 60 := ⟨hx, hb, hml, hown, fun w hw => hts w (q_ws hw), hlocks, hr, fun h => absurd h (by decide), by decide, by decide, hvm, by omega, fun _ => ⟨by rw [z2]; exact hX, by rw [z2]; omega, hL⟩, hex⟩
  rw [lg_entry_eq]
  have hcv : cv Z (aR q_S) = .ref b := by
    show va_rf (cO Z q_S) = _
    unfold cO
    rw [if_neg (by decide), if_pos rfl, z2]
    rfl
  have hRL := (q_ent_RL (Z := Z) (k := q_law) (as := [aR q_S]) (by decide)).1
  rw [show [aR q_S].map (cv Z) = [Value.ref b] by rw [List.map_cons, hcv]; rfl] at hRL
  have hnil : cW Z (q_h0 L xs) = [] := rfl
  refine sim_all n 60 q_law 0 q_L0 [] (q_h0 L xs) _ h' he rfl p l e room_1 s m _ below meth c _ Z D (L, xs) 0 0 (q_key l) (q_flags l hflags) F (by show s.heap.size + 0 ≤ Z.1 + 1 + 0; omega) (by show 0 + nC h' ≤ 601024 + 0; omega) (by show 0 + nU h' ≤ 7293034 + 0; omega) ?_ s.heap [] _ hRL ⟨fun k q hq => by (rw [hnil] at hq; cases hq), ⟨fun i j x y hx => by (rw [hnil] at hx; cases hx), fun k q hq => by (rw [hnil] at hq; cases hq)⟩, va_S.rf, rfl, Int.le_refl 0⟩
  intro pc1 Ls1 H1 locs1 cells1 slots1 hro hWd hc1 hs1
  have e1 : cells1 + 0 = 0 + nC h' := hc1
  have e2 : slots1 + 0 = 0 + nU h' := hs1
  refine va_forget (fun q hq => ?_) (W.widen (k := 601024) (n := 7293034) (by omega) (by omega) ?_)
  · have h1 : Z.1 < q.base := hWd.2.2.1.2.2 q hq
    omega
  · exact lw_ret hx hb hr hlocks hro.1
