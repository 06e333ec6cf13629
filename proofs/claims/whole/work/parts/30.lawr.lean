def R_law : String := "PileMovesLaw"
def lw_P (b : Addr) (xs : List Int32) (args : Array Value) (s : State) : Prop := args = #[.ref b] ∧ s.IntsAt b xs ∧ xs.length ≤ 2560 ∧ (Jvm.Cond.and given_1 narrow_1).before args s = true
def lw_Q (_ : Array Value) (s : State) (o : Outcome) (t : State) : Prop := o = .returned (some (.int 1)) ∧ Framed s o t [] 601024 7293034
def lw_Z (below : List Frame) (a : Array Value) (s : State) : State → Prop := fun t => ∃ o, t.status = .running ∧ Ended t below o ∧ lw_Q a s o t
/-- the law's own end, with 1 on the stack, nothing written that was there before, its room as the claim has it -/
theorem lw_ret {p : Program} {l : Launch} {e : Env} {s : State} {m : MethodId} {below : List Frame} {meth : Method} {c : Code} {b : Nat} (hx : p.tables.exec = Jvm.exec) (hb : c.code = code) (hr : meth.sig.returnType = ret) (hlocks : meth.locks = false) {pc : Nat} {H : Heap} {ls : Array Slot} (hdg : decode code pc = .ok (.ireturn, 1)) : W p l e room_1 s m #[Value.ref b] below meth c H [] 601024 7293034 (lw_Z below #[Value.ref b] s) (F0 m pc ls [.int 1]) := by
  intro T hT X
  obtain ⟨fs, hret, hrun, hended, hW, hframe⟩ := X.leave (v := some (.int 1)) (hlocks := hlocks) (fun h => by rw [hr] at h; cases h)
  have hmeth' : T.vm.method? m = some meth := X.method'
  refine ⟨T.setFrames fs, ?_, .returned (some (.int 1)), hrun, hended, rfl, ⟨_, rfl⟩, hW, hframe⟩
  jvm_step X.here [X.here.top, hx, hb, hdg, hmeth', hr, ret, narrow_b1]
  (try refine ⟨rfl, ?_⟩); (try refine ⟨rfl, ?_⟩)
  first | (intro acts; rw [hret _ acts rfl rfl rfl]) | rw [hret _ _ rfl rfl rfl]
  exact Steps.refl _
/-- what holds at the law's entry: the machine, the code, the tables' words (any of lw_tbl by 'hts w (by decide +kernel)'), the script of L ints xs at the cell b, what the Statement gives of the start (any of its parts by flat_of_before) -/
def lw_At (p : Program) (s : State) (m : MethodId) (meth : Method) (c : Code) (b L : Nat) (xs : Nat → Int32) : Prop :=
  p.tables.exec = Jvm.exec ∧ c.code = code ∧ meth.sig.returnType = ret ∧ c.maxLocals = 7 ∧ s.vm.findClass R_law = some m.cls ∧ (∀ w ∈ lw_tbl, w.before #[Value.ref b] s = true) ∧ va_X b L xs s s.heap ∧ b < s.heap.size ∧ meth.locks = false ∧ (Jvm.Cond.and given_1 narrow_1).before #[Value.ref b] s = true
/-! the law's own rows -/
def zAx (xs : Nat → Int32) (i : Int) : Int := (xs i.toNat).toInt
theorem zAx_r (xs : Nat → Int32) (i : Int) : zr (zAx xs i) := ⟨by have := (xs i.toNat).le_toInt; unfold zAx; omega, by have := (xs i.toNat).toInt_lt; unfold zAx; omega⟩
section ZX2
variable {p : Program} {l : Launch} {e : Env} {R : Room} {s : State} {m : MethodId} {args : Array Value} {below : List Frame} {meth : Method} {c : Code} {H : Heap} {locs : List Loc} {cells slots : Nat} {Q : State → Prop}
variable {cc : ByteArray} {pc : Nat} {ls : Array Slot} {rest : List Value} {G : zG} {A : Nat → Prop} {I : List Nat} {ad : Nat → Nat} {ct : Nat → va_E}
theorem z_sld (hx : p.tables.exec = Jvm.exec) (hb : c.code = cc) {b L : Nat} {xs : Nat → Int32} (hX : va_X b L xs s s.heap) (hbl : b < s.heap.size) (hbA : ¬ A b) (hw : zW G A s.heap H locs I ad ct) {i : Int} (h0 : 0 ≤ i) (h1 : i < L) (hL : L ≤ 2560) (hdg : decode cc pc = .ok (.iaload, 1))
    (kk : W p l e R s m args below meth c H locs cells slots Q (F0 m (pc + 1) ls (zi (zAx xs i) :: rest))) : W p l e R s m args below meth c H locs cells slots Q (F0 m pc ls (zi i :: .ref b :: rest)) :=
  va_sld hx hb hX hbl hbA hw.2.2.1 (zi_ix h0 h1 (by omega)) hdg (by
    rw [zi_cl h0 (by omega)]
    have e9 : zi (zAx xs i) = .int (xs i.toNat) := congrArg Value.int (Int32.ofInt_toInt _)
    rw [← e9]
    exact kk)
theorem z_slen (hx : p.tables.exec = Jvm.exec) (hb : c.code = cc) {b L : Nat} {xs : Nat → Int32} (hX : va_X b L xs s s.heap) (hbl : b < s.heap.size) (hbA : ¬ A b) (hw : zW G A s.heap H locs I ad ct) (hdg : decode cc pc = .ok (.arraylength, 1))
    (kk : W p l e R s m args below meth c H locs cells slots Q (F0 m (pc + 1) ls (zi L :: rest))) : W p l e R s m args below meth c H locs cells slots Q (F0 m pc ls (.ref b :: rest)) :=
  va_slen hx hb hX hbl hbA hw.2.2.1 hdg (by
    rw [← Int32.ofInt_eq_ofNat]
    exact kk)
theorem z_and15 (hx : p.tables.exec = Jvm.exec) (hb : c.code = cc) {a : Int} (hdg : decode cc pc = .ok (.iand, 1))
    (kk : ∀ z : Int, 0 ≤ z → z ≤ 15 → W p l e R s m args below meth c H locs cells slots Q (F0 m (pc + 1) ls (zi z :: rest))) : W p l e R s m args below meth c H locs cells slots Q (F0 m pc ls (zi 15 :: zi a :: rest)) := by
  refine lv_iand hx hb hdg ?_
  have h1 : (Int32.ofInt a &&& Int32.ofInt 15).toBitVec.toNat ≤ 15 := by
    rw [Int32.toBitVec_and, BitVec.toNat_and]
    exact Nat.and_le_right
  have h2 : (Int32.ofInt a &&& Int32.ofInt 15).toInt = ((Int32.ofInt a &&& Int32.ofInt 15).toBitVec.toNat : Int) := by
    show (Int32.ofInt a &&& Int32.ofInt 15).toBitVec.toInt = _
    rw [BitVec.toInt_eq_toNat_of_lt (by omega)]
  have h3 := kk (Int32.ofInt a &&& Int32.ofInt 15).toInt (by rw [h2]; omega) (by rw [h2]; omega)
  have h4 : zi (Int32.ofInt a &&& Int32.ofInt 15).toInt = .int (Int32.ofInt a &&& Int32.ofInt 15) := congrArg Value.int (Int32.ofInt_toInt _)
  rw [h4] at h3
  exact h3
end ZX2
theorem zMst_ad {G : zG} {ad ad1 : Nat → Nat} {ct : Nat → va_E} {n : Nat} {cd bl : Int} {Fmn Fsp Fms Fco Fst Fmo Fsk Fts Ftm Fjn : Int → Int} (h : zMst G ad ct n cd bl Fmn Fsp Fms Fco Fst Fmo Fsk Fts Ftm Fjn) (ea : ∀ j : Nat, j ≤ 25 → ad1 j = ad j) : zMst G ad1 ct n cd bl Fmn Fsp Fms Fco Fst Fmo Fsk Fts Ftm Fjn := by
  refine ⟨h.1.trans ?_, h.2⟩
  unfold zmo
  rw [ea 9 (by decide), ea 10 (by decide), ea 11 (by decide), ea 12 (by decide), ea 13 (by decide), ea 14 (by decide), ea 15 (by decide), ea 16 (by decide), ea 17 (by decide), ea 18 (by decide), ea 19 (by decide), ea 20 (by decide), ea 21 (by decide), ea 22 (by decide), ea 23 (by decide), ea 24 (by decide)]
theorem zLI_ad {G : zG} {I : List Nat} {ad ad1 : Nat → Nat} {ct : Nat → va_E} {n : Nat} {σ : Nat → zPl} {b0 bl : Int} {wv Fwv Fmn Fsp Fms Fco Fst Fmo Fsk Fts Ftm Fjn : Int → Int} (h : zLI G I ad ct n σ b0 bl wv Fwv Fmn Fsp Fms Fco Fst Fmo Fsk Fts Ftm Fjn) (hag : ∀ j ∈ I, ad1 j = ad j) : zLI G I ad1 ct n σ b0 bl wv Fwv Fmn Fsp Fms Fco Fst Fmo Fsk Fts Ftm Fjn := by
  obtain ⟨k1, k2, k3, k4, k5, k6, k7, k8, k9, k10, k11, k12, k13, ⟨b1, f, g, h9, q3, q4⟩, ⟨cd, k15⟩, k16⟩ := h
  have ea : ∀ j : Nat, j ≤ 25 → ad1 j = ad j := fun j hj => hag j (k2 j hj)
  refine ⟨k1, k2, k3, k4, k5, k6, k7, k8, k9, by rw [ea 1 (by decide), ea 2 (by decide), ea 3 (by decide)]; exact k10, by rw [zpf_ad (fun p hp => hag _ (k4 p hp).1)]; exact k11, fun p hp => ?_, k13, ⟨b1, f, g, h9, by rw [ea 4 (by decide), ea 5 (by decide), ea 6 (by decide), ea 7 (by decide)]; exact q3, q4⟩, ⟨cd, zMst_ad k15 ea⟩, k16⟩
  obtain ⟨m0, m1, m2, m3⟩ := k4 p hp
  obtain ⟨o0, o1⟩ := k12 p hp
  refine ⟨?_, o1⟩
  rw [hag _ m1, hag _ m2, hag _ m3]
  exact o0
/-- what comes behind a step -/
def zBk (p : Program) (l : Launch) (e : Env) (s : State) (m : MethodId) (b : Nat) (below : List Frame) (meth : Method) (c : Code) (G : zG) (i : Int) (kc ks : Nat) : Prop :=
  ∀ (I : List Nat) (ad : Nat → Nat) (ct : Nat → va_E) (n : Nat) (σ : Nat → zPl) (b0 bl : Int) (wv Fwv Fmn Fsp Fms Fco Fst Fmo Fsk Fts Ftm Fjn : Int → Int) (H : Heap) (locs : List Loc) (k1 k2 : Nat) (ls : Array Slot),
    zLI G I ad ct n σ b0 bl wv Fwv Fmn Fsp Fms Fco Fst Fmo Fsk Fts Ftm Fjn → zW G (fun q : Nat => s.heap.size ≤ q) s.heap H locs I ad ct → k1 ≤ kc + 50 → k2 ≤ ks + 500 → lv_has ls 7 [(0, .ref b), (1, .ref (ad 0)), (2, .ref (ad 8)), (3, .ref (ad 25)), (4, zi i)] →
    W p l e room_1 s m #[Value.ref b] below meth c H locs k1 k2 (lw_Z below #[Value.ref b] s) (F0 m 1127 ls [])
set_option maxHeartbeats 4000000 in
set_option maxRecDepth 100000 in
theorem k_thr (l : Launch) (hl0 : l.stackTraces = false) (G : zG) (I : List Nat) (ad : Nat → Nat) (ct : Nat → va_E) (sz : Nat) (n : Nat) (cd bl : Int) (hI8 : 8 ∈ I) (h8 : ct 8 = zmo ad n cd bl) : zN l yX4_thrown wsX4_thrown 0 0 0 0 G [.ref (ad (8))] I ad ct zno sz (zk I (zqi fun z u => z = cd ∧ u = ct)) := by
  refine z_ofW (ret := (some .int)) hl0 (by decide +kernel) rfl (Nat.le_of_ble_eq_true rfl) ?_
  intro p e s m args below meth c A ls hA0 hsz hF hr hout hnm hw hl
  obtain ⟨hx, hb, hml, hown, hts, hK, hlk, hst⟩ := hF
  have hown : s.vm.findClass RX4 = some m.cls := hown
  have hl : lv_has ls 1 [(0, .ref (ad (8)))] := hl
  have w_0 := hts (.fieldLink RX4 65 "PileMovesModel" "code" "I") (by decide +kernel)
  have w_1 : ∀ w ∈ wsX40, w ∈ wsX4_thrown := by decide +kernel
  refine lv_aload_n hx hb dX4_thrown_0 rfl (lv_at hl 0 rfl) ?_
  refine z_get (C := RX4) (T := TX4) (N := 19) (fs := [zi (cd), zi (n), .ref (ad (9)), .ref (ad (10)), .ref (ad (11)), .ref (ad (12)), .ref (ad (13)), .ref (ad (14)), .ref (ad (15)), .ref (ad (16)), .ref (ad (17)), .ref (ad (18)), .ref (ad (19)), .ref (ad (20)), .ref (ad (21)), .ref (ad (22)), zi (bl), .ref (ad (23)), .ref (ad (24))]) hx hb hts w_1 hown hK hw hI8 h8 rfl 0 (by decide) w_0 rfl rfl dX4_thrown_1 ?_
  exact z_iret hx hb hlk hr hw dX4_thrown_4 (Nat.le_of_ble_eq_true rfl) (Nat.le_of_ble_eq_true rfl) ⟨rfl, _, rfl, ⟨rfl, rfl⟩⟩

