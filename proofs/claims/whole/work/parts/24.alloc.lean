/-! making cells: rows, and the contracts of what makes some -/
theorem zws_ad {I : List Nat} {ad ad1 : Nat → Nat} {ct : Nat → va_E} (h : ∀ j ∈ I, ad1 j = ad j) : zws I ad1 ct = zws I ad ct := List.map_congr_left (fun k hk => by rw [h k hk])
theorem zIn.ad {G : zG} {I : List Nat} {ad ad1 : Nat → Nat} {ct : Nat → va_E} {H : Heap} (hi : zIn G I ad ct H) (h : ∀ j ∈ I, ad1 j = ad j) : zIn G I ad1 ct H :=
  ⟨by rw [zws_ad h]; exact hi.1, hi.2.1, fun i h1 j h2 e => hi.2.2 i h1 j h2 (by rw [← h i h1, ← h j h2]; exact e)⟩
theorem zW.ad {G : zG} {A : Nat → Prop} {H0 H : Heap} {locs : List Loc} {I : List Nat} {ad ad1 : Nat → Nat} {ct : Nat → va_E} (hw : zW G A H0 H locs I ad ct) (h : ∀ j ∈ I, ad1 j = ad j) : zW G A H0 H locs I ad1 ct :=
  ⟨hw.1.ad h, fun k hk => by rw [h k hk]; exact hw.2.1 k hk, hw.2.2⟩
/-- a new cell at a new place, the places' addresses told anew -/
theorem zW.new {G : zG} {A : Nat → Prop} {H0 H H1 : Heap} {locs : List Loc} {I : List Nat} {ad : Nat → Nat} {ct : Nat → va_E} {k q : Nat} {e : va_E} (hw : zW G A H0 H locs I ad ct) (hk : k ∉ I) (hP : va_P G.1 vwCl (zws I ad ct ++ [(q, e)]) H1) (hD : va_D A (zws I ad ct ++ [(q, e)])) (hS : va_S A H0 H1 locs) :
    ∃ ad1 : Nat → Nat, (∀ j ∈ I, ad1 j = ad j) ∧ ad1 k = q ∧ zW G A H0 H1 locs (I ++ [k]) ad1 (zU ct k e) := by
  have h1 : ∃ ad1 : Nat → Nat, (∀ j ∈ I, ad1 j = ad j) ∧ ad1 k = q := ⟨fun j => if j = k then q else ad j, fun j hj => by
    have hjk : j ≠ k := fun z => hk (by rw [← z]; exact hj)
    simp [hjk], by simp⟩
  obtain ⟨ad1, h, hq⟩ := h1
  refine ⟨ad1, h, hq, (hw.ad h).push hk ?_ ?_ hS⟩
  · rw [zws_ad h, hq]; exact hP
  · rw [zws_ad h, hq]; exact hD
section ZN
variable {p : Program} {l : Launch} {e : Env} {R : Room} {s : State} {m : MethodId} {args : Array Value} {below : List Frame} {meth : Method} {c : Code} {H : Heap} {locs : List Loc} {cells slots : Nat} {Q : State → Prop}
variable {cc : ByteArray} {pc : Nat} {ls : Array Slot} {rest : List Value} {G : zG} {A : Nat → Prop} {H0 : Heap} {I : List Nat} {ad : Nat → Nat} {ct : Nat → va_E}
theorem z_new (hx : p.tables.exec = Jvm.exec) (hb : c.code = cc) {own C : String} {T : u_T} {N ci index : Nat} {Ts : List Cond} (hts : ∀ w ∈ Ts, w.before args s = true) (hin : ∀ w ∈ u_ws C T N, w ∈ Ts) {ty : Nat → FieldType} (hty : ∀ k, k < N → parseFieldDescriptor (T k).2.2.1 = some (ty k)) (hown : s.vm.findClass own = some m.cls) (hcl : (Cond.classLink own index C).before args s = true) (hinst : (Cond.instantiable C N).before args s = true) (hini : (Cond.initialized C).before args s = true)
    (hK : zK G A s H0) (hw : zW G A H0 H locs I ad ct) {k : Nat} (hk : k ∉ I) (hc : vwCl[ci]? = some (C, T, N)) (fs : List Value) (hfs : ∀ j, j < N → defaultValue (ty j) = vp_V fs j) (hcells : cells + 1 ≤ R.cells) (hslots : slots + N ≤ R.slots) (hdg : decode cc pc = .ok (.new index, 3))
    (kk : ∀ (ad1 : Nat → Nat) (H1 : Heap), (∀ j ∈ I, ad1 j = ad j) → zW G A H0 H1 locs (I ++ [k]) ad1 (zU ct k (.inr (ci, fs))) → W p l e R s m args below meth c H1 locs (cells + 1) (slots + N) Q (F0 m (pc + 3) ls (.ref (ad1 k) :: rest))) : W p l e R s m args below meth c H locs cells slots Q (F0 m pc ls rest) :=
  va_new (D := G.1) (cl := vwCl) hx hb hts hin ty hty hown hcl hinst hini hK.1 hw.1.1 (hw.1.D hw.2.1) hw.2.2.1 hw.2.2.2 hc hfs hcells hslots hdg (fun q H1 hP hD hS => by
    obtain ⟨ad1, h1, rfl, h2⟩ := hw.new hk hP hD hS
    exact kk ad1 H1 h1 h2)
theorem z_newi (hx : p.tables.exec = Jvm.exec) (hb : c.code = cc) (harr : (Cond.arrayClass (newarray.typeOf .int)).before args s = true) (hK : zK G A s H0) (hw : zW G A H0 H locs I ad ct) {k : Nat} (hk : k ∉ I) {i : Int} {n : Nat} (hi : i = n) (hn : n < 100000) (hcells : cells + 1 ≤ R.cells) (hslots : slots + n ≤ R.slots) (hdg : decode cc pc = .ok (.newarray .int, 2))
    (kk : ∀ (ad1 : Nat → Nat) (H1 : Heap), (∀ j ∈ I, ad1 j = ad j) → zW G A H0 H1 locs (I ++ [k]) ad1 (zU ct k (zI G n (fun _ => 0))) → W p l e R s m args below meth c H1 locs (cells + 1) (slots + n) Q (F0 m (pc + 2) ls (.ref (ad1 k) :: rest))) : W p l e R s m args below meth c H locs cells slots Q (F0 m pc ls (zi i :: rest)) :=
  va_newa (D := G.1) (cl := vwCl) hx hb harr rfl hK.1 hw.1.1 (hw.1.D hw.2.1) hw.2.2.1 hw.2.2.2 (a0 := (n, .inl (zfi (fun _ => 0)))) (fun _ => rfl) (by rw [zi_0, zi_lt ⟨by omega, by omega⟩ zr_0]; omega) (by rw [zi_cl (by omega) (by omega)]; omega) (by show n * 4 ≤ _; omega) hcells hslots hdg (fun q cA H1 hK2 hP hD hS => by
    have e1 : s.vm.findClass ("[" ++ (FieldType.int).toString) = some cA := (hK2.2 4 (cA, .int) rfl).2
    have e2 : s.vm.findClass ("[" ++ (FieldType.int).toString) = some G.2.1.1 := (hK2.2 0 (G.2.1.1, .int) rfl).2
    have e3 : cA = G.2.1.1 := Option.some.inj (e1.symm.trans e2)
    subst e3
    obtain ⟨ad1, h1, rfl, h2⟩ := hw.new hk hP hD hS
    exact kk ad1 H1 h1 h2)
theorem z_newl (hx : p.tables.exec = Jvm.exec) (hb : c.code = cc) (harr : (Cond.arrayClass (newarray.typeOf .long)).before args s = true) (hK : zK G A s H0) (hw : zW G A H0 H locs I ad ct) {k : Nat} (hk : k ∉ I) {i : Int} {n : Nat} (hi : i = n) (hn : n < 100000) (hcells : cells + 1 ≤ R.cells) (hslots : slots + n ≤ R.slots) (hdg : decode cc pc = .ok (.newarray .long, 2))
    (kk : ∀ (ad1 : Nat → Nat) (H1 : Heap), (∀ j ∈ I, ad1 j = ad j) → zW G A H0 H1 locs (I ++ [k]) ad1 (zU ct k (zL G n (fun _ => 0))) → W p l e R s m args below meth c H1 locs (cells + 1) (slots + n) Q (F0 m (pc + 2) ls (.ref (ad1 k) :: rest))) : W p l e R s m args below meth c H locs cells slots Q (F0 m pc ls (zi i :: rest)) :=
  va_newa (D := G.1) (cl := vwCl) hx hb harr rfl hK.1 hw.1.1 (hw.1.D hw.2.1) hw.2.2.1 hw.2.2.2 (a0 := (n, .inr (.inl (zfl (fun _ => 0))))) (fun _ => rfl) (by rw [zi_0, zi_lt ⟨by omega, by omega⟩ zr_0]; omega) (by rw [zi_cl (by omega) (by omega)]; omega) (by show n * 8 ≤ _; omega) hcells hslots hdg (fun q cA H1 hK2 hP hD hS => by
    have e1 : s.vm.findClass ("[" ++ (FieldType.long).toString) = some cA := (hK2.2 4 (cA, .long) rfl).2
    have e2 : s.vm.findClass ("[" ++ (FieldType.long).toString) = some G.2.1.2.1 := (hK2.2 1 (G.2.1.2.1, .long) rfl).2
    have e3 : cA = G.2.1.2.1 := Option.some.inj (e1.symm.trans e2)
    subst e3
    obtain ⟨ad1, h1, rfl, h2⟩ := hw.new hk hP hD hS
    exact kk ad1 H1 h1 h2)
theorem z_newz (hx : p.tables.exec = Jvm.exec) (hb : c.code = cc) (harr : (Cond.arrayClass (newarray.typeOf .boolean)).before args s = true) (hK : zK G A s H0) (hw : zW G A H0 H locs I ad ct) {k : Nat} (hk : k ∉ I) {i : Int} {n : Nat} (hi : i = n) (hn : n < 100000) (hcells : cells + 1 ≤ R.cells) (hslots : slots + n ≤ R.slots) (hdg : decode cc pc = .ok (.newarray .boolean, 2))
    (kk : ∀ (ad1 : Nat → Nat) (H1 : Heap), (∀ j ∈ I, ad1 j = ad j) → zW G A H0 H1 locs (I ++ [k]) ad1 (zU ct k (zZ G n (fun _ => 0))) → W p l e R s m args below meth c H1 locs (cells + 1) (slots + n) Q (F0 m (pc + 2) ls (.ref (ad1 k) :: rest))) : W p l e R s m args below meth c H locs cells slots Q (F0 m pc ls (zi i :: rest)) :=
  va_newa (D := G.1) (cl := vwCl) hx hb harr rfl hK.1 hw.1.1 (hw.1.D hw.2.1) hw.2.2.1 hw.2.2.2 (a0 := (n, .inl (zfi (fun _ => 0)))) (fun _ => rfl) (by rw [zi_0, zi_lt ⟨by omega, by omega⟩ zr_0]; omega) (by rw [zi_cl (by omega) (by omega)]; omega) (by show n * 1 ≤ _; omega) hcells hslots hdg (fun q cA H1 hK2 hP hD hS => by
    have e1 : s.vm.findClass ("[" ++ (FieldType.boolean).toString) = some cA := (hK2.2 4 (cA, .boolean) rfl).2
    have e2 : s.vm.findClass ("[" ++ (FieldType.boolean).toString) = some G.2.1.2.2.1 := (hK2.2 2 (G.2.1.2.2.1, .boolean) rfl).2
    have e3 : cA = G.2.1.2.2.1 := Option.some.inj (e1.symm.trans e2)
    subst e3
    obtain ⟨ad1, h1, rfl, h2⟩ := hw.new hk hP hD hS
    exact kk ad1 H1 h1 h2)
theorem z_newq (hx : p.tables.exec = Jvm.exec) (hb : c.code = cc) {own : String} {index : Nat} (hown : s.vm.findClass own = some m.cls) (hclink : (Cond.classLink own index "PileMoves$Pile").before args s = true) (hover : va_AO "PileMoves$Pile" s) (hK : zK G A s H0) (hw : zW G A H0 H locs I ad ct) {k : Nat} (hk : k ∉ I) {i : Int} {n : Nat} (hi : i = n) (hn : n < 100000) (hcells : cells + 1 ≤ R.cells) (hslots : slots + n ≤ R.slots) (hdg : decode cc pc = .ok (.anewarray index, 3))
    (kk : ∀ (ad1 : Nat → Nat) (H1 : Heap), (∀ j ∈ I, ad1 j = ad j) → zW G A H0 H1 locs (I ++ [k]) ad1 (zU ct k (zP G n (fun _ => none))) → W p l e R s m args below meth c H1 locs (cells + 1) (slots + n) Q (F0 m (pc + 3) ls (.ref (ad1 k) :: rest))) : W p l e R s m args below meth c H locs cells slots Q (F0 m pc ls (zi i :: rest)) :=
  va_newq (D := G.1) (cl := vwCl) hx hb hown hclink hover hK.1 hw.1.1 (hw.1.D hw.2.1) hw.2.2.1 hw.2.2.2 (N' := n) (by rw [zi_0, zi_lt ⟨by omega, by omega⟩ zr_0]; omega) (by rw [zi_cl (by omega) (by omega)]; omega) (by omega) hcells hslots hdg (fun q cA H1 hK2 hP hD hS => by
    obtain ⟨_, _, _, _, _, e1⟩ := (hK2.2 4 (cA, .object "PileMoves$Pile") rfl).2
    obtain ⟨_, _, _, _, _, e2⟩ := (hK2.2 3 (G.2.1.2.2.2, .object "PileMoves$Pile") rfl).2
    have e3 : cA = G.2.1.2.2.2 := Option.some.inj (e1.symm.trans e2)
    subst e3
    obtain ⟨ad1, h1, rfl, h2⟩ := hw.new hk hP hD hS
    exact kk ad1 H1 h1 h2)
/-- a pile laid into a row of piles -/
theorem z_aast (hx : p.tables.exec = Jvm.exec) (hb : c.code = cc) (hK : zK G A s H0) (hw : zW G A H0 H locs I ad ct) {k k2 : Nat} (hk : k ∈ I) (hk2 : k2 ∈ I) {n : Nat} {f : Int → Option Nat} (he : ct k = zP G n f) {vs : List Value} (he2 : ct k2 = .inr (1, vs)) {i : Int} (h0 : 0 ≤ i) (h1 : i < n) (hn : n < 2147483648) (hdg : decode cc pc = .ok (.aastore, 1))
    (kk : ∀ (H1 : Heap) (locs1 : List Loc), zW G A H0 H1 locs1 I ad (zU ct k (zP G n (fun j => if j = i then some (ad k2) else f j))) → W p l e R s m args below meth c H1 locs1 cells slots Q (F0 m (pc + 1) ls rest)) : W p l e R s m args below meth c H locs cells slots Q (F0 m pc ls (.ref (ad k2) :: zi i :: .ref (ad k) :: rest)) := by
  obtain ⟨j, hj⟩ := List.getElem?_of_mem hk
  obtain ⟨j2, hj2⟩ := List.getElem?_of_mem hk2
  have hp := zws_of (ad := ad) (ct := ct) hj
  have hp2 := zws_of (ad := ad) (ct := ct) hj2
  rw [he] at hp
  rw [he2] at hp2
  refine va_astq (D := G.1) (cl := vwCl) (r := (RX1, TX1, 9)) hx hb hK.1 hw.1.1 (hw.1.D hw.2.1) hw.2.2.1 j 3 j2 1 hp rfl hp2 rfl (zi_ix h0 h1 hn) hdg (fun H1 locs1 hP hD hS => ?_)
  have e9 : va_up (fun k : Nat => f (k : Int)) (Int32.ofInt i).toNatClampNeg (some (ad k2)) = fun k : Nat => (fun j : Int => if j = i then some (ad k2) else f j) (k : Int) := by
    rw [zi_cl h0 (by omega)]
    funext x
    unfold va_up
    by_cases hx : x = i.toNat
    · rw [if_pos hx]; exact (if_pos (show (x : Int) = i by omega)).symm
    · rw [if_neg hx]; exact (if_neg (show ¬ (x : Int) = i by omega)).symm
  rw [e9] at hP
  exact kk H1 locs1 (hw.put hj hP hS)
end ZN
theorem zpf_push {ad : Nat → Nat} {n : Nat} {i : Int} {a : Nat} (hi : i = n) (ha : a = ad (40 + 4 * n)) : (fun j : Int => if j = i then some a else zpf ad n j) = zpf ad (n + 1) := by
  funext j
  unfold zpf
  by_cases h : j = i
  · rw [if_pos h, if_pos (by omega), ha, show j.toNat = n by omega]
  · rw [if_neg h]
    by_cases h2 : 0 ≤ j ∧ j < n
    · rw [if_pos h2, if_pos (by omega)]
    · rw [if_neg h2, if_neg (by omega)]
theorem zpf_ad {ad ad1 : Nat → Nat} {n : Nat} (h : ∀ p : Nat, p < n → ad1 (40 + 4 * p) = ad (40 + 4 * p)) : zpf ad1 n = zpf ad n := by
  funext j
  unfold zpf
  by_cases h2 : 0 ≤ j ∧ j < n
  · rw [if_pos h2, if_pos h2, h _ (by omega)]
  · rw [if_neg h2, if_neg h2]
/-! calls of what makes cells -/
def zQa (G : zG) (A : Nat → Prop) (I : List Nat) (ad : Nat → Nat) (post : Option Value → List Nat → (Nat → Nat) → (Nat → va_E) → Prop) : Array Value → State → Outcome → State → Prop := fun _ st oc t =>
  (∃ (v : Option Value) (I1 : List Nat) (ad1 : Nat → Nat) (ct1 : Nat → va_E), oc = .returned v ∧ (∀ k ∈ I, ad1 k = ad k) ∧ post v I1 ad1 ct1 ∧ zIn G I1 ad1 ct1 t.heap ∧ ∀ k ∈ I1, A (ad1 k)) ∧ va_F A st t
def zNa (l : Launch) (y : MethodName) (ws : List Cond) (fr lo mc ms : Nat) (G : zG) (av : List Value) (I : List Nat) (ad : Nat → Nat) (ct : Nat → va_E) (thr : String → Prop) (sz : Nat) (E : State → Prop) (post : Option Value → List Nat → (Nat → Nat) → (Nat → va_E) → Prop) : Prop :=
  vx_Met l y ws { frames := fr, cells := mc, slots := ms, locals := lo } (fun a U => zPc G av I ad ct sz a U ∧ E U) (zQa G (zA I ad sz) I ad post) (zX G (zA I ad sz) I ad ct thr) mc ms (zA I ad sz)
/-- what is known of the machine's tables alone -/
def zEB (E : State → Prop) : Prop := ∀ s U : State, s.WarmedH U.vm → E s → E U
theorem zEB_t : zEB (fun _ => True) := fun _ _ _ _ => trivial
theorem zEB_ao : zEB (va_AO "PileMoves$Pile") := fun _ _ hW h => va_AO.moved hW.alike h
section ZD
variable {p : Program} {l : Launch} {e : Env} {R : Room} {s : State} {m : MethodId} {args : Array Value} {below : List Frame} {meth : Method} {c : Code} {H : Heap} {locs : List Loc} {cells slots : Nat} {Q : State → Prop}
variable {cc : ByteArray} {pc nL : Nat} {ls : Array Slot} {rest st0 : List Value} {G : zG} {A : Nat → Prop} {I : List Nat} {ad : Nat → Nat} {ct : Nat → va_E}
theorem z_ofWa {y : MethodName} {ws ws' : List Cond} {fr lo mc ms : Nat} {av : List Value} {thr : String → Prop} {sz : Nat} {E : State → Prop} {post : Option Value → List Nat → (Nat → Nat) → (Nat → va_E) → Prop} {ret : Option FieldType} (hl : l.stackTraces = false) (hy : plainFor y = true) (hw : ws = Cond.code y cc nL ret :: ws') (hn : (lg_sl av).length ≤ nL)
    (body : ∀ (p : Program) (e : Env) (s : State) (m : MethodId) (args : Array Value) (below : List Frame) (meth : Method) (c : Code) (A : Nat → Prop) (ls : Array Slot), A = zA I ad sz → s.heap.size = sz → zF l p m c cc nL s args ws y.cls meth G A → meth.sig.returnType = ret → (∀ x ∈ c.exceptionTable.toList, False) → meth.name = y.name → zW G A s.heap s.heap [] I ad ct → lv_has ls nL (lv_args 0 av) → E s →
      W p l e { frames := fr, cells := mc, slots := ms, locals := lo } s m args below meth c s.heap [] 0 0 (vx_MQ below (zQa G A I ad post) (zX G A I ad ct thr) args s mc ms A) (F0 m 0 ls [])) : zNa l y ws fr lo mc ms G av I ad ct thr sz E post := by
  refine z_ofWF hy hw ?_
  intro p e s m args below meth c s₁ B hml ht hP
  obtain ⟨⟨rfl, hsz, hin, hK⟩, hE⟩ := hP
  subst hsz
  have h0 := lv_entry av (n := nL) hn
  rw [lg_entry_eq]
  refine body p e s m _ below meth c (zA I ad s.heap.size) _ rfl rfl ⟨B.exec, B.bytes, hml, findClass_of_methodNamed B.named, atoms_spec (ws := ws) B.pre, hK, B.notSynchronized, hl⟩ B.returns ht ((name_of_methodNamed B.named B.method).1) ?_ h0 hE
  exact ⟨hin, fun k hk => Or.inl ⟨k, hk, rfl⟩, va_S.rf, fun q hq => Or.inr hq⟩
theorem zPreA {E : State → Prop} (hEB : zEB E) (hE : E s) (hEb : ∀ (U : State) (g : JFrame) (mk : MethodId) (a : Array Value), E U → E (U.calling g mk a)) (hK : zK G A s s.heap) (hw : zW G A s.heap H locs I ad ct) (av : List Value) : PreS s H (fun a U => zPc G av I ad ct H.size a U ∧ E U) av :=
  ⟨fun a U g mk q => ⟨zPc.blind a U g mk q.1, hEb U g mk a q.2⟩, fun U hU hW => ⟨(zPre hK hw av).2 U hU hW, hEB s U hW hE⟩⟩
def zRunA (p : Program) (l : Launch) (e : Env) (R : Room) (s : State) (m : MethodId) (args : Array Value) (below : List Frame) (meth : Method) (c : Code) (H : Heap) (locs : List Loc) (cells slots mc ms : Nat) (g : JFrame) (rest : List Value) (G : zG) (I : List Nat) (ad : Nat → Nat) (ct : Nat → va_E) (thr : String → Prop) (post : Option Value → List Nat → (Nat → Nat) → (Nat → va_E) → Prop) : Prop :=
  ∃ a : Array Value, vx_Run p l e R s m args below meth c H locs cells slots mc ms g rest (zQa G (zA I ad H.size) I ad post a) (zX G (zA I ad H.size) I ad ct thr) (zA I ad H.size)
variable {y : MethodName} {bytes : ByteArray} {maxL mc ms fr lo n index : Nat} {ret : Option FieldType} {ws : List Cond} {thr : String → Prop} {E : State → Prop} {post : Option Value → List Nat → (Nat → Nat) → (Nat → va_E) → Prop} {Ts : List Cond} {own C host : String} {As : List Value} {k : Nat}
theorem z_runSa (S : CallFix p m c cc nL s args Ts own) (hM : zNa l y ws fr lo mc ms G As I ad ct thr H.size E post) (hp : PreS s H (fun a U => zPc G As I ad ct H.size a U ∧ E U) As) (cw : CallB R s args own index y bytes maxL ret ws { frames := fr, cells := mc, slots := ms, locals := lo } mc ms n ∧ (Cond.static y).before args s = true)
    (hn : As.length = n) (hls : ls.size = nL) (hst : st0 = As.reverse ++ rest) (hW : (rest.map fun v => v.category).sum ≤ 8) (hdg : decode cc pc = .ok (.invokestatic index, 3)) (hf : cells + mc ≤ R.cells ∧ slots + ms ≤ R.slots) : zRunA p l e R s m args below meth c H locs cells slots mc ms (F0 m pc ls st0) rest G I ad ct thr post :=
  ⟨_, vx_runS S hM cw hp rfl hn hls hst (lv_room hW) hdg hf⟩
theorem z_runVa (S : CallFix p m c cc nL s args Ts own) (hK : zK G A s s.heap) (hw : zW G A s.heap H locs I ad ct) (hM : zNa l y ws fr lo mc ms G (.ref (ad k) :: As) I ad ct thr H.size E post) (hp : PreS s H (fun a U => zPc G (.ref (ad k) :: As) I ad ct H.size a U ∧ E U) (.ref (ad k) :: As)) (cw : CallW R s args own C index y bytes maxL ret ws { frames := fr, cells := mc, slots := ms, locals := lo } mc ms n)
    (hk : k ∈ I) {ci : Nat} {fs : List Value} (he : ct k = .inr (ci, fs)) {r : vw_C} (hc : vwCl[ci]? = some r) (hC : r.1 = C)
    (hn : As.length = n) (hls : ls.size = nL) (hst : st0 = As.reverse ++ .ref (ad k) :: rest) (hW : (rest.map fun v => v.category).sum ≤ 8) (hdg : decode cc pc = .ok (.invokevirtual index, 3)) (hf : cells + mc ≤ R.cells ∧ slots + ms ≤ R.slots) : zRunA p l e R s m args below meth c H locs cells slots mc ms (F0 m pc ls st0) rest G I ad ct thr post := by
  subst hC
  exact ⟨_, vx_runV S hM cw ⟨hp.1, va_recv hK.1 (hw.1.one hk he) hc (q0 := 0) rfl, hp.2⟩ rfl hn hls hst (lv_room hW) hdg hf⟩
theorem z_runIa (S : CallFix p m c cc nL s args Ts own) (hM : zNa l y ws fr lo mc ms G (.ref (ad k) :: As) I ad ct thr H.size E post) (hp : PreS s H (fun a U => zPc G (.ref (ad k) :: As) I ad ct H.size a U ∧ E U) (.ref (ad k) :: As)) (cw : CallB R s args own index y bytes maxL none ws { frames := fr, cells := mc, slots := ms, locals := lo } mc ms n ∧ y.name = "<init>" ∧ (Cond.instanceMethod y).before args s = true)
    (hn : As.length = n) (hls : ls.size = nL) (hst : st0 = As.reverse ++ .ref (ad k) :: rest) (hW : (rest.map fun v => v.category).sum ≤ 8) (hdg : decode cc pc = .ok (.invokespecial index, 3)) (hf : cells + mc ≤ R.cells ∧ slots + ms ≤ R.slots) : zRunA p l e R s m args below meth c H locs cells slots mc ms (F0 m pc ls st0) rest G I ad ct thr post :=
  ⟨_, vx_runI S hM cw hp rfl hn hls hst (lv_room hW) hdg hf⟩
theorem z_calla (hr : zRunA p l e R s m args below meth c H locs cells slots mc ms (F0 m pc ls st0) rest G I ad ct thr post) (hw : zW G A s.heap H locs I ad ct)
    (kx : ∀ (E : String) (ce : Cell) (q : Addr) (H1 : Heap) (locs1 : List Loc), thr E → zW G A s.heap H1 locs1 I ad ct → H1[q]? = some ce → ce.vm = .none → s.vm.findClass E = some ce.cls → vx_W p l e R s m args below meth c H1 locs1 (cells + mc) (slots + ms) Q (F0 m pc ls rest) q)
    (kk : ∀ (v : Option Value) (I1 : List Nat) (ad1 : Nat → Nat) (ct1 : Nat → va_E) (H1 : Heap) (locs1 : List Loc), (∀ k ∈ I, ad1 k = ad k) → post v I1 ad1 ct1 → zW G A s.heap H1 locs1 I1 ad1 ct1 → W p l e R s m args below meth c H1 locs1 (cells + mc) (slots + ms) Q (F0 m (pc + 3) ls (v.toList ++ rest))) : W p l e R s m args below meth c H locs cells slots Q (F0 m pc ls st0) := by
  obtain ⟨a, hr⟩ := hr
  have hfr := hw.free
  obtain ⟨hin, hIA, hS, hA⟩ := hw
  intro T hT X
  rcases hr T hT X with ⟨v, st₀, t, T', L, h0, X', hL, e1, e2, ⟨⟨v2, I1, ad1, ct1, hv, hag, hp, hi, hu⟩, hF⟩, st⟩ | ⟨q, st₀, t, T', L, E, ce, h0, X', hL, e1, e2, ⟨ht, hi, hF⟩, hce, hcv, hcl, st⟩
  · cases hv
    obtain ⟨k1, k2, k3⟩ := vx_keep h0 e1 hS (fun q _ h => hfr q h) hfr hL hF
    obtain ⟨t2, a1, b1⟩ := kk v I1 ad1 ct1 T'.heap (locs ++ L) hag hp ⟨by rw [e1]; exact hi, fun k hk => hfr _ (hu k hk), k3, hA⟩ T' rfl X'
    exact ⟨t2, st t2 a1, b1⟩
  · obtain ⟨k1, k2, k3⟩ := vx_keep h0 e1 hS (fun q _ h => hfr q h) hfr hL hF
    obtain ⟨t2, a1, b1⟩ := kx E ce q T'.heap (locs ++ L) ht ⟨by rw [e1]; exact hi, hIA, k3, hA⟩ (by rw [e1]; exact hce) hcv hcl T' rfl X'
    exact ⟨t2, st.trans a1, b1⟩
theorem z_callan (hr : zRunA p l e R s m args below meth c H locs cells slots mc ms (F0 m pc ls st0) rest G I ad ct zno post) (hw : zW G A s.heap H locs I ad ct)
    (kk : ∀ (v : Option Value) (I1 : List Nat) (ad1 : Nat → Nat) (ct1 : Nat → va_E) (H1 : Heap) (locs1 : List Loc), (∀ k ∈ I, ad1 k = ad k) → post v I1 ad1 ct1 → zW G A s.heap H1 locs1 I1 ad1 ct1 → W p l e R s m args below meth c H1 locs1 (cells + mc) (slots + ms) Q (F0 m (pc + 3) ls (v.toList ++ rest))) : W p l e R s m args below meth c H locs cells slots Q (F0 m pc ls st0) :=
  z_calla hr hw (fun E ce q H1 locs1 ht => ht.elim) kk
variable {Qc : Array Value → State → Outcome → State → Prop} {ad0 : Nat → Nat} {I0 : List Nat} {ct0 : Nat → va_E} {thr0 : String → Prop} {mc0 ms0 : Nat}
theorem z_vreta (hx : p.tables.exec = Jvm.exec) (hb : c.code = cc) (hlk : meth.locks = false) (hr : meth.sig.returnType = none) {pst : Option Value → List Nat → (Nat → Nat) → (Nat → va_E) → Prop} {XC : String → State → State → Prop} {ad1 : Nat → Nat} {I1 : List Nat} {ct1 : Nat → va_E} (hw : zW G A s.heap H locs I1 ad1 ct1) (hag : ∀ k ∈ I, ad1 k = ad k) (hdg : decode cc pc = .ok (.return_, 1)) (hc : cells ≤ mc0) (hs : slots ≤ ms0) (hp : pst none I1 ad1 ct1) :
    W p l e R s m args below meth c H locs cells slots (vx_MQ below (zQa G A I ad pst) XC args s mc0 ms0 A) (F0 m pc ls []) :=
  vx_ret (W.widen hc hs (W.vret hx hb hr (fun t h9 _ => ⟨⟨_, I1, ad1, ct1, rfl, hag, hp, by rw [h9]; exact hw.1, hw.2.1⟩, hw.2.2.1.F h9⟩) hw.2.2.1.2.2 hdg hlk))
theorem z_ireta (hx : p.tables.exec = Jvm.exec) (hb : c.code = cc) (hlk : meth.locks = false) (hr : meth.sig.returnType = some .int) {pst : Option Value → List Nat → (Nat → Nat) → (Nat → va_E) → Prop} {XC : String → State → State → Prop} {ad1 : Nat → Nat} {I1 : List Nat} {ct1 : Nat → va_E} (hw : zW G A s.heap H locs I1 ad1 ct1) (hag : ∀ k ∈ I, ad1 k = ad k) {z : Int} (hdg : decode cc pc = .ok (.ireturn, 1)) (hc : cells ≤ mc0) (hs : slots ≤ ms0) (hp : pst (some (zi z)) I1 ad1 ct1) :
    W p l e R s m args below meth c H locs cells slots (vx_MQ below (zQa G A I ad pst) XC args s mc0 ms0 A) (F0 m pc ls [zi z]) :=
  vx_ret (W.widen hc hs (W.iret hx hb hr (fun t h9 _ => ⟨⟨_, I1, ad1, ct1, rfl, hag, hp, by rw [h9]; exact hw.1, hw.2.1⟩, hw.2.2.1.F h9⟩) hw.2.2.1.2.2 hdg hlk))
theorem z_tVg {P : (Nat → va_E) → Prop} (hr : zRun p l e R s m args below meth c H locs cells slots mc ms (F0 m pc ls st0) rest G I ad ct thr (zk I (zqv P))) (hw : zW G A s.heap H locs I ad ct) (hout : ∀ x ∈ c.exceptionTable.toList, False) (hlk : meth.locks = false) (hthr : ∀ E, thr E → thr0 E) (hc : cells + mc ≤ mc0) (hs : slots + ms ≤ ms0)
    (kk : ∀ (ct1 : Nat → va_E) (H1 : Heap) (locs1 : List Loc), P ct1 → zW G A s.heap H1 locs1 I ad ct1 → W p l e R s m args below meth c H1 locs1 (cells + mc) (slots + ms) (vx_MQ below Qc (zX G A I ad ct thr0) args s mc0 ms0 A) (F0 m (pc + 3) ls rest)) : W p l e R s m args below meth c H locs cells slots (vx_MQ below Qc (zX G A I ad ct thr0) args s mc0 ms0 A) (F0 m pc ls st0) :=
  z_call hr hw (fun E ce q H1 locs1 ht hw1 hce hcv hcl => vx_out (fun x h => (hout x h).elim) hlk hce hcv hcl (fun t h9 _ => ⟨hthr E ht, by rw [h9]; exact hw1.1, hw1.2.2.1.F h9⟩) hw1.2.2.1.2.2 hc hs) (fun v u H1 locs1 hp hw1 _ => by
    obtain ⟨u1, u2, u3⟩ := u
    obtain ⟨rfl, rfl, hP⟩ := hp
    exact kk u2 H1 locs1 hP hw1)
theorem z_throwg (hx : p.tables.exec = Jvm.exec) (hb : c.code = cc) (hst : l.stackTraces = false) (hK : zK G A s s.heap) (hw : zW G A s.heap H locs I ad ct) (hout : ∀ x ∈ c.exceptionTable.toList, False) (hlk : meth.locks = false) {cls text : String} {names : List String} {ik is ic sa : Nat} (hown : s.vm.findClass own = some m.cls) (hcls : Bundle.fit cls = true) (hnames : ∀ n ∈ names, Bundle.fit n = true)
    (hk : (Cond.classLink own ik cls).before args s = true) (hini : (Cond.initialized cls).before args s = true) (hstr : vk_R own is text sa s) (hat : ∀ w ∈ (vx_atS own ic cls names).filter goodWord, w.before args s = true) {B : List Cond} (hB : ∀ w ∈ B, w.before args s = true) (hbad : ∀ w ∈ (vx_atS own ic cls names).filter (fun w => !goodWord w), w ∈ B)
    (hgood : ∀ w ∈ Cond.classLink own ik cls :: Cond.initialized cls :: vx_atS own ic cls names, vx_ot w = true) (hsize : ls.size = c.maxLocals)
    (d0 : decode cc pc = .ok (.new ik, 3)) (d3 : decode cc (pc + 3) = .ok (.dup, 1)) (d4 : decode cc (pc + 4) = .ok (.ldc is, 2)) (d6 : decode cc (pc + 6) = .ok (.invokespecial ic, 3)) (d9 : decode cc (pc + 9) = .ok (.athrow, 1))
    (hRf : names.length + 3 < R.frames) (hRl : (rest.map fun v => v.category).sum + (13 * (names.length + 1) + 43) ≤ R.locals) (hRc : cells + 1 ≤ R.cells) (hRs : slots + 6 ≤ R.slots) (ht : thr0 cls) (hc : cells + 1 ≤ mc0) (hs : slots + 6 ≤ ms0) :
    W p l e R s m args below meth c H locs cells slots (vx_MQ below Qc (zX G A I ad ct thr0) args s mc0 ms0 A) (F0 m pc ls rest) :=
  vx_throwS hx hb hst hown hcls hnames hk hini hstr (vx_hat hat hbad hB) hgood hK.2.2.1 hK.2.2.2 hw.2.2.1 hsize d0 d3 d4 d6 d9 (fun x h => (hout x h).elim) hRf hRl hRc hRs hlk
    (fun t _ h1 h2 => ⟨ht, ⟨hw.1.1.kept (fun k q h => h2 q.1 (hw.1.1 k q h).lt), hw.1.2⟩, ⟨Nat.le_trans hw.2.2.1.1 h1, fun q hq hn => by rw [h2 q (Nat.lt_of_lt_of_le hq hw.2.2.1.1)]; exact hw.2.2.1.2.1 q hq hn⟩⟩) hw.2.2.1.2.2 hc hs
end ZD
