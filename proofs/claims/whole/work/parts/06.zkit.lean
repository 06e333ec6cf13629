/-! the rows over whole numbers: ints and longs as Int32.ofInt z, Int64.ofInt z; a world as a finite map from places (Nat) to cells -/
abbrev zr (z : Int) : Prop := -2147483648 ≤ z ∧ z ≤ 2147483647
abbrev zR (z : Int) : Prop := -9223372036854775808 ≤ z ∧ z ≤ 9223372036854775807
theorem zr_i {z : Int} (h : zr z) : (Int32.ofInt z).toInt = z := Int32.toInt_ofInt_of_le (by have := h.1; omega) (by have := h.2; omega)
theorem zR_l {z : Int} (h : zR z) : (Int64.ofInt z).toInt = z := Int64.toInt_ofInt_of_le (by have := h.1; omega) (by have := h.2; omega)
theorem zi_lt {a b : Int} (ha : zr a) (hb : zr b) : Int32.ofInt a < Int32.ofInt b ↔ a < b := by rw [Int32.lt_iff_toInt_lt, zr_i ha, zr_i hb]
theorem zi_le {a b : Int} (ha : zr a) (hb : zr b) : Int32.ofInt a ≤ Int32.ofInt b ↔ a ≤ b := by rw [Int32.le_iff_toInt_le, zr_i ha, zr_i hb]
theorem zi_eq {a b : Int} (ha : zr a) (hb : zr b) : Int32.ofInt a = Int32.ofInt b ↔ a = b := by rw [← Int32.toInt_inj, zr_i ha, zr_i hb]
theorem zl_lt {a b : Int} (ha : zR a) (hb : zR b) : Int64.ofInt a < Int64.ofInt b ↔ a < b := by rw [Int64.lt_iff_toInt_lt, zR_l ha, zR_l hb]
theorem zl_le {a b : Int} (ha : zR a) (hb : zR b) : Int64.ofInt a ≤ Int64.ofInt b ↔ a ≤ b := by rw [Int64.le_iff_toInt_le, zR_l ha, zR_l hb]
theorem zl_eq {a b : Int} (ha : zR a) (hb : zR b) : Int64.ofInt a = Int64.ofInt b ↔ a = b := by rw [← Int64.toInt_inj, zR_l ha, zR_l hb]
theorem zi_0 : (0 : Int32) = Int32.ofInt 0 := rfl
theorem zr_0 : zr 0 := ⟨by omega, by omega⟩
theorem zi_any (x : Int32) : ∃ z : Int, zr z ∧ x = Int32.ofInt z := ⟨x.toInt, ⟨by have := x.le_toInt; omega, by have := x.toInt_lt; omega⟩, (Int32.ofInt_toInt x).symm⟩
theorem zi_div {a b : Int} (ha : zr a) (hb : zr b) : Int32.ofInt a / Int32.ofInt b = Int32.ofInt (a.tdiv b) := by
  rw [← Int32.toInt_inj, Int32.toInt_div, zr_i ha, zr_i hb, Int32.toInt_ofInt]
theorem zl_div {a b : Int} (ha : zR a) (hb : zR b) : Int64.ofInt a / Int64.ofInt b = Int64.ofInt (a.tdiv b) := by
  rw [← Int64.toInt_inj, Int64.toInt_div, zR_l ha, zR_l hb, Int64.toInt_ofInt]
theorem zi_i2l {a : Int} (ha : zr a) : (Int32.ofInt a).toInt64 = Int64.ofInt a := by
  rw [← Int64.toInt_inj, Int32.toInt_toInt64, zr_i ha, zR_l ⟨by have := ha.1; omega, by have := ha.2; omega⟩]
theorem zi_l2i {a : Int} (ha : zR a) : (Int64.ofInt a).toInt32 = Int32.ofInt a := by
  rw [← Int32.toInt_inj, Int64.toInt_toInt32, zR_l ha, Int32.toInt_ofInt]
theorem zi_ix {i : Int} {n : Nat} (h0 : 0 ≤ i) (h1 : i < n) (hn : n < 2147483648) : vp_in (Int32.ofInt i) n := by
  rw [vp_in_iff, zr_i ⟨by omega, by omega⟩]; exact ⟨h0, h1⟩
theorem zi_cl {i : Int} (h0 : 0 ≤ i) (h1 : i < 2147483648) : (Int32.ofInt i).toNatClampNeg = i.toNat := Int32.toNatClampNeg_ofInt_of_le (by omega) (by omega)
/-- arrays: their contents over whole numbers -/
abbrev zfi (f : Int → Int) : Nat → Int32 := fun k => Int32.ofInt (f (k : Int))
abbrev zfl (f : Int → Int) : Nat → Int64 := fun k => Int64.ofInt (f (k : Int))
def zup (f : Int → Int) (k v : Int) : Int → Int := fun j => if j = k then v else f j
theorem zup_s (f : Int → Int) (k v : Int) : zup f k v k = v := by simp [zup]
theorem zup_n (f : Int → Int) {k j : Int} (v : Int) (h : j ≠ k) : zup f k v j = f j := by simp [zup, h]
theorem zup_i (f : Int → Int) {i : Int} (v : Int) (h0 : 0 ≤ i) (h1 : i < 2147483648) : upd (zfi f) (Int32.ofInt i).toNatClampNeg (Int32.ofInt v) = zfi (zup f i v) := by
  rw [zi_cl h0 h1]; funext j; unfold upd zfi zup
  by_cases h : j = i.toNat
  · rw [if_pos h, if_pos (by omega)]
  · rw [if_neg h, if_neg (by omega)]
theorem zup_l (f : Int → Int) {i : Int} (v : Int) (h0 : 0 ≤ i) (h1 : i < 2147483648) : vp_updL (zfl f) (Int32.ofInt i).toNatClampNeg (Int64.ofInt v) = zfl (zup f i v) := by
  rw [zi_cl h0 h1]; funext j; unfold vp_updL zfl zup
  by_cases h : j = i.toNat
  · rw [if_pos h, if_pos (by omega)]
  · rw [if_neg h, if_neg (by omega)]
theorem zat_i (f : Int → Int) {i : Int} (h0 : 0 ≤ i) (h1 : i < 2147483648) : zfi f (Int32.ofInt i).toNatClampNeg = Int32.ofInt (f i) := by
  rw [zi_cl h0 h1]; unfold zfi; rw [Int.toNat_of_nonneg h0]
theorem zat_l (f : Int → Int) {i : Int} (h0 : 0 ≤ i) (h1 : i < 2147483648) : zfl f (Int32.ofInt i).toNatClampNeg = Int64.ofInt (f i) := by
  rw [zi_cl h0 h1]; unfold zfl; rw [Int.toNat_of_nonneg h0]
/-- truth as a number -/
abbrev zb (c : Prop) [Decidable c] : Int := if c then 1 else 0
/-- the world -/
abbrev zG : Type := va_G × (ClassId × ClassId × ClassId × ClassId) × (Nat → Nat)
abbrev zty (G : zG) : List (ClassId × FieldType) := [(G.2.1.1, .int), (G.2.1.2.1, .long), (G.2.1.2.2.1, .boolean), (G.2.1.2.2.2, .object "PileMoves$Pile")]
abbrev zI (G : zG) (n : Nat) (f : Int → Int) : va_E := .inl (G.2.1.1, n, .inl (zfi f))
abbrev zL (G : zG) (n : Nat) (f : Int → Int) : va_E := .inl (G.2.1.2.1, n, .inr (.inl (zfl f)))
abbrev zZ (G : zG) (n : Nat) (f : Int → Int) : va_E := .inl (G.2.1.2.2.1, n, .inl (zfi f))
abbrev zP (G : zG) (n : Nat) (f : Int → Option Nat) : va_E := .inl (G.2.1.2.2.2, n, .inr (.inr (.inr (.inr (fun k : Nat => f (k : Int))))))
abbrev zi (z : Int) : Value := .int (Int32.ofInt z)
abbrev zl (z : Int) : Value := .long (Int64.ofInt z)
abbrev zws (I : List Nat) (ad : Nat → Nat) (ct : Nat → va_E) : va_W := I.map (fun k => (ad k, ct k))
def zU (ct : Nat → va_E) (k : Nat) (e : va_E) : Nat → va_E := fun j => if j = k then e else ct j
theorem zU_s (ct : Nat → va_E) (k : Nat) (e : va_E) : zU ct k e k = e := by simp [zU]
theorem zU_n {ct : Nat → va_E} {k j : Nat} {e e2 : va_E} (h : j ≠ k) (h2 : ct j = e2) : zU ct k e j = e2 := by simp [zU, h, h2]
def zIn (G : zG) (I : List Nat) (ad : Nat → Nat) (ct : Nat → va_E) (H : Heap) : Prop := va_P G.1 vwCl (zws I ad ct) H ∧ I.Nodup ∧ ∀ i ∈ I, ∀ j ∈ I, ad i = ad j → i = j
def zA (I : List Nat) (ad : Nat → Nat) (sz : Nat) : Nat → Prop := fun q => (∃ k ∈ I, q = ad k) ∨ sz ≤ q
def zW (G : zG) (A : Nat → Prop) (H0 H : Heap) (locs : List Loc) (I : List Nat) (ad : Nat → Nat) (ct : Nat → va_E) : Prop :=
  zIn G I ad ct H ∧ (∀ k ∈ I, A (ad k)) ∧ va_S A H0 H locs ∧ ∀ q, H0.size ≤ q → A q
theorem zws_at {I : List Nat} {ad : Nat → Nat} {ct : Nat → va_E} {i : Nat} {q : Nat × va_E} (h : (zws I ad ct)[i]? = some q) : ∃ k, I[i]? = some k ∧ q = (ad k, ct k) := by
  rw [List.getElem?_map] at h
  cases hb : I[i]? with
  | none => rw [hb] at h; cases h
  | some b => rw [hb] at h; exact ⟨b, rfl, (Option.some.inj h).symm⟩
theorem zws_of {I : List Nat} {ad : Nat → Nat} {ct : Nat → va_E} {i k : Nat} (h : I[i]? = some k) : (zws I ad ct)[i]? = some (ad k, ct k) := by
  rw [List.getElem?_map, h]; rfl
theorem zIn.D {G : zG} {I : List Nat} {ad : Nat → Nat} {ct : Nat → va_E} {H : Heap} {A : Nat → Prop} (h : zIn G I ad ct H) (hA : ∀ k ∈ I, A (ad k)) : va_D A (zws I ad ct) := by
  refine ⟨fun i j p q hi hj e => ?_, fun k q hk => ?_⟩
  · obtain ⟨a, ha, rfl⟩ := zws_at hi
    obtain ⟨b, hb, rfl⟩ := zws_at hj
    have hab : a = b := h.2.2 a (List.mem_of_getElem? ha) b (List.mem_of_getElem? hb) e
    subst hab
    exact (List.getElem?_inj (List.getElem?_eq_some_iff.mp ha).1 h.2.1).mp (ha.trans hb.symm)
  · obtain ⟨a, ha, rfl⟩ := zws_at hk
    exact hA a (List.mem_of_getElem? ha)
theorem zIn.lt {G : zG} {I : List Nat} {ad : Nat → Nat} {ct : Nat → va_E} {H : Heap} (h : zIn G I ad ct H) {k : Nat} (hk : k ∈ I) : ad k < H.size := by
  obtain ⟨i, hi⟩ := List.getElem?_of_mem hk
  exact (h.1 i _ (zws_of hi)).lt
/-- one cell alone -/
theorem zIn.one {G : zG} {I : List Nat} {ad : Nat → Nat} {ct : Nat → va_E} {H : Heap} (h : zIn G I ad ct H) {k : Nat} (hk : k ∈ I) {e : va_E} (he : ct k = e) : va_P G.1 vwCl [(ad k, e)] H := by
  obtain ⟨i, hi⟩ := List.getElem?_of_mem hk
  have h1 := h.1 i _ (zws_of hi)
  rw [he] at h1
  intro j q hj
  cases j with
  | zero => cases hj; exact h1
  | succ j => simp at hj
theorem zws_set {I : List Nat} {ad : Nat → Nat} {ct : Nat → va_E} {i k : Nat} (hn : I.Nodup) (hi : I[i]? = some k) (e : va_E) : (zws I ad ct).set i (ad k, e) = zws I ad (zU ct k e) := by
  apply List.ext_getElem?
  intro j
  have hl : i < (zws I ad ct).length := by rw [List.length_map]; exact (List.getElem?_eq_some_iff.mp hi).1
  by_cases hj : j = i
  · subst hj
    rw [List.getElem?_set_self hl, zws_of hi, zU_s]
  · rw [List.getElem?_set_ne (Ne.symm hj), List.getElem?_map, List.getElem?_map]
    cases hb : I[j]? with
    | none => rfl
    | some b =>
      have hne : b ≠ k := fun q => hj ((List.getElem?_inj (List.getElem?_eq_some_iff.mp hb).1 hn).mp (by rw [hb, hi, q]))
      simp [zU, hne]
/-- a cell written anew -/
theorem zW.put {G : zG} {A : Nat → Prop} {H0 H H1 : Heap} {locs locs1 : List Loc} {I : List Nat} {ad : Nat → Nat} {ct : Nat → va_E} {i k : Nat} {e : va_E} (h : zW G A H0 H locs I ad ct) (hi : I[i]? = some k) (hP : va_P G.1 vwCl ((zws I ad ct).set i (ad k, e)) H1) (hS : va_S A H0 H1 locs1) : zW G A H0 H1 locs1 I ad (zU ct k e) := by
  rw [zws_set h.1.2.1 hi] at hP
  exact ⟨⟨hP, h.1.2⟩, h.2.1, hS, h.2.2.2⟩
/-- a new cell at a new place -/
theorem zws_push {I : List Nat} {ad : Nat → Nat} {ct : Nat → va_E} {k : Nat} (hk : k ∉ I) (e : va_E) : zws I ad ct ++ [(ad k, e)] = zws (I ++ [k]) ad (zU ct k e) := by
  unfold zws
  rw [List.map_append]
  congr 1
  · apply List.map_congr_left
    intro b hb
    have hne : b ≠ k := fun z => hk (z ▸ hb)
    simp [zU, hne]
  · simp [zU]
theorem zW.push {G : zG} {A : Nat → Prop} {H0 H H1 : Heap} {locs locs1 : List Loc} {I : List Nat} {ad : Nat → Nat} {ct : Nat → va_E} {k : Nat} {e : va_E} (h : zW G A H0 H locs I ad ct) (hk : k ∉ I) (hP : va_P G.1 vwCl (zws I ad ct ++ [(ad k, e)]) H1) (hD : va_D A (zws I ad ct ++ [(ad k, e)])) (hS : va_S A H0 H1 locs1) : zW G A H0 H1 locs1 (I ++ [k]) ad (zU ct k e) := by
  rw [zws_push hk] at hP hD
  refine ⟨⟨hP, ?_, ?_⟩, ?_, hS, h.2.2.2⟩
  · rw [List.nodup_append]
    exact ⟨h.1.2.1, List.nodup_cons.mpr ⟨List.not_mem_nil, List.nodup_nil⟩, fun a ha b hb z => by rw [List.mem_singleton.mp hb] at z; exact hk (z ▸ ha)⟩
  · intro i hi j hj hij
    obtain ⟨a, ha⟩ := List.getElem?_of_mem hi
    obtain ⟨b, hb⟩ := List.getElem?_of_mem hj
    have := hD.1 a b _ _ (zws_of ha) (zws_of hb) hij
    subst this
    exact Option.some.inj (ha.symm.trans hb)
  · intro i hi
    obtain ⟨a, ha⟩ := List.getElem?_of_mem hi
    exact hD.2 a _ (zws_of ha)
/-! what a state says of the classes, the strings, the statics that a throw reads -/
def zS (sa : Nat → Nat) (U : State) : Prop := (va_Nw (.declares (Bundle.initS "java/lang/RuntimeException")) U ∧ va_Nw (.declares (Bundle.initS "java/lang/Exception")) U ∧ va_Nw (.declares (Bundle.initS "java/lang/Throwable")) U) ∧
  va_Nw (.castable "java/lang/IllegalArgumentException" "java/lang/IllegalArgumentException") U ∧ va_Nw (.castable "java/lang/IllegalStateException" "java/lang/IllegalStateException") U ∧
  va_Nw (.methodLinkNest RX3 17 yX2_init RX3) U ∧ va_Nw (.methodLinkNest RX2 35 yX3_clamp RX3) U ∧ va_Nw (.methodLinkNest RX0 94 yX3_clamp RX3) U ∧
  va_Nc "java/lang/IllegalArgumentException" "java/lang/IllegalStateException" U ∧ va_Nc "java/lang/IllegalStateException" "java/lang/IllegalArgumentException" U ∧
  vk_R RX3 138 "a number is out of its bounds" (sa 0) U ∧ vk_R RX3 40 "there are as many piles as there may be" (sa 1) U ∧ vk_R RX3 144 "there is no such pile" (sa 2) U ∧ vk_R RX3 146 "the group is empty" (sa 3) U ∧ vk_R RX3 114 "the pile is not in the group" (sa 4) U ∧ vk_R RX3 129 "there was no blow" (sa 5) U
theorem zS.warm {sa : Nat → Nat} {s U : State} (hW : s.WarmedH U.vm) (h : zS sa s) : zS sa U := by
  obtain ⟨⟨d1, d2, d3⟩, a1, a2, a3, a4, a5, a6, a7, b0, b1, b2, b3, b4, b5⟩ := h
  exact ⟨⟨va_Nw.warmD hW d1, va_Nw.warmD hW d2, va_Nw.warmD hW d3⟩, va_Nw.warmC hW a1, va_Nw.warmC hW a2, va_Nw.warmM hW a3, va_Nw.warmM hW a4, va_Nw.warmM hW a5, va_Nc.moved hW.alike a6, va_Nc.moved hW.alike a7, b0.warm hW, b1.warm hW, b2.warm hW, b3.warm hW, b4.warm hW, b5.warm hW⟩
theorem zS.same {sa : Nat → Nat} {s U : State} (hv : s.vm = U.vm) (h : zS sa s) : zS sa U := by
  have hW : s.WarmedH U.vm := by rw [← hv]; exact State.WarmedH.refl s
  exact zS.warm hW h
def zBad (cls : String) : List Cond := [.castable cls cls, .declares (Bundle.initS "java/lang/RuntimeException"), .declares (Bundle.initS "java/lang/Exception"), .declares (Bundle.initS "java/lang/Throwable")]
theorem zS.badA {sa : Nat → Nat} {s : State} {args : Array Value} (h : zS sa s) : ∀ w ∈ zBad "java/lang/IllegalArgumentException", w.before args s = true :=
  List.forall_mem_cons.mpr ⟨va_Nw.use rfl h.2.1, List.forall_mem_cons.mpr ⟨va_Nw.use rfl h.1.1, List.forall_mem_cons.mpr ⟨va_Nw.use rfl h.1.2.1, List.forall_mem_cons.mpr ⟨va_Nw.use rfl h.1.2.2, fun _ h => absurd h List.not_mem_nil⟩⟩⟩⟩
theorem zS.badS {sa : Nat → Nat} {s : State} {args : Array Value} (h : zS sa s) : ∀ w ∈ zBad "java/lang/IllegalStateException", w.before args s = true :=
  List.forall_mem_cons.mpr ⟨va_Nw.use rfl h.2.2.1, List.forall_mem_cons.mpr ⟨va_Nw.use rfl h.1.1, List.forall_mem_cons.mpr ⟨va_Nw.use rfl h.1.2.1, List.forall_mem_cons.mpr ⟨va_Nw.use rfl h.1.2.2, fun _ h => absurd h List.not_mem_nil⟩⟩⟩⟩
/-- .. and of the heap's statics that no cell of A is -/
def zK (G : zG) (A : Nat → Prop) (U : State) (H : Heap) : Prop :=
  va_K G.1 vwCl (zty G) U ∧ zS G.2.2 U ∧ vx_Zq Bundle.tN "UNASSIGNED_STACK" Bundle.steD A U H ∧ vx_Zq Bundle.tN "SUPPRESSED_SENTINEL" Bundle.listD A U H
theorem zK.blind {G : zG} {A : Nat → Prop} {U : State} (g : JFrame) (mk : MethodId) (a : Array Value) (h : zK G A U U.heap) : zK G A (U.calling g mk a) (U.calling g mk a).heap :=
  ⟨va_K.moved (u := U) (U := U.calling g mk a) (Vm.Alike.refl U.vm) h.1, zS.same (U := U.calling g mk a) rfl h.2.1, vx_Zq.moved (u := U) (U := U.calling g mk a) (Vm.Alike.refl U.vm) h.2.2.1, vx_Zq.moved (u := U) (U := U.calling g mk a) (Vm.Alike.refl U.vm) h.2.2.2⟩
/-- a method's start -/
def zPc (G : zG) (av : List Value) (I : List Nat) (ad : Nat → Nat) (ct : Nat → va_E) (sz : Nat) : Array Value → State → Prop :=
  va_Pc av (fun U => U.heap.size = sz ∧ zIn G I ad ct U.heap ∧ zK G (zA I ad sz) U U.heap)
/-- its end: what it answers, the world's places, addresses, cells -/
abbrev zT : Type := List Nat × (Nat → va_E) × Nat
def zQ (G : zG) (A : Nat → Prop) (ad : Nat → Nat) (post : Option Value → zT → Prop) : Array Value → State → Outcome → State → Prop := fun _ st oc t =>
  (∃ (v : Option Value) (u : zT), oc = .returned v ∧ post v u ∧ zIn G u.1 ad u.2.1 t.heap ∧ (∀ k ∈ u.1, A (ad k)) ∧ t.heap.size = u.2.2) ∧ va_F A st t
def zX (G : zG) (A : Nat → Prop) (I : List Nat) (ad : Nat → Nat) (ct : Nat → va_E) (thr : String → Prop) : String → State → State → Prop := fun E st t => thr E ∧ zIn G I ad ct t.heap ∧ va_F A st t
def zN (l : Launch) (y : MethodName) (ws : List Cond) (fr lo mc ms : Nat) (G : zG) (av : List Value) (I : List Nat) (ad : Nat → Nat) (ct : Nat → va_E) (thr : String → Prop) (sz : Nat) (post : Option Value → zT → Prop) : Prop :=
  vx_Met l y ws { frames := fr, cells := mc, slots := ms, locals := lo } (zPc G av I ad ct sz) (zQ G (zA I ad sz) ad post) (zX G (zA I ad sz) I ad ct thr) mc ms (zA I ad sz)
/-- methods that make no cell of the world -/
def zk (I : List Nat) (post : Option Value → (Nat → va_E) → Prop) : Option Value → zT → Prop := fun v u => u.1 = I ∧ post v u.2.1
abbrev zM (l : Launch) (y : MethodName) (ws : List Cond) (fr lo mc ms : Nat) (G : zG) (av : List Value) (I : List Nat) (ad : Nat → Nat) (ct : Nat → va_E) (thr : String → Prop) (post : Option Value → (Nat → va_E) → Prop) : Prop :=
  ∀ sz : Nat, zN l y ws fr lo mc ms G av I ad ct thr sz (zk I post)
def zqi (P : Int → (Nat → va_E) → Prop) : Option Value → (Nat → va_E) → Prop := fun v u => ∃ z, v = some (zi z) ∧ P z u
def zql (P : Int → (Nat → va_E) → Prop) : Option Value → (Nat → va_E) → Prop := fun v u => ∃ z, v = some (zl z) ∧ P z u
def zqv (P : (Nat → va_E) → Prop) : Option Value → (Nat → va_E) → Prop := fun v u => v = none ∧ P u
def zqa (P : Nat → (Nat → va_E) → Prop) : Option Value → (Nat → va_E) → Prop := fun v u => ∃ z, v = some (.ref z) ∧ P z u
def zno : String → Prop := fun _ => False
abbrev zIA : String := "java/lang/IllegalArgumentException"
abbrev zIS : String := "java/lang/IllegalStateException"
theorem zPc.blind {G : zG} {av : List Value} {I : List Nat} {ad : Nat → Nat} {ct : Nat → va_E} {sz : Nat} : FrameBlind (zPc G av I ad ct sz) := fun a U g mk q => by
  obtain ⟨h1, h2, h3, h4⟩ := q
  exact ⟨h1, h2, h3, h4.blind g mk a⟩
/-- what a walk knows all the way -/
def zF (l : Launch) (p : Program) (m : MethodId) (c : Code) (cc : ByteArray) (nL : Nat) (s : State) (args : Array Value) (Ts : List Cond) (own : String) (meth : Method) (G : zG) (A : Nat → Prop) : Prop :=
  p.tables.exec = Jvm.exec ∧ c.code = cc ∧ c.maxLocals = nL ∧ s.vm.findClass own = some m.cls ∧ (∀ w ∈ Ts, w.before args s = true) ∧ zK G A s s.heap ∧ meth.locks = false ∧ l.stackTraces = false
/-- vx_ofW, for any method that no native stands for -/
theorem z_ofWF {l : Launch} {y : MethodName} {ws ws' : List Cond} {rm : Room} {Pc : Array Value → State → Prop} {Qc : Array Value → State → Outcome → State → Prop} {XC : String → State → State → Prop} {mc ms : Nat} {free : Addr → Prop} {cc : ByteArray} {maxL : Nat} {ret : Option FieldType}
    (hy : plainFor y = true) (hw : ws = Cond.code y cc maxL ret :: ws')
    (body : ∀ p e s m args below meth c s₁, BodyLoose p l y (headSpec ws rm) cc maxL ret e s m args below meth c s₁ → c.maxLocals = maxL → (∀ x ∈ c.exceptionTable.toList, False) → Pc args s →
      W p l e (headSpec ws rm).room s m args below meth c s.heap [] 0 0 (vx_MQ below Qc XC args s mc ms free) (entryFrame m args maxL)) : vx_Met l y ws rm Pc Qc XC mc ms free := by
  refine MetFree.of_bodySF (code := cc) (maxLocals := maxL) (ret := ret) hy ?_ ?_
  · intro args s m h hn
    obtain ⟨meth, c, h1, h2, h3, h4, h5, h6, -, -⟩ := Cond.code_spec hn (atoms_spec (ws := ws) h _ (by rw [hw]; exact List.mem_cons_self))
    exact ⟨meth, c, h1, h2, h3, h4, h5, h6⟩
  · intro p e s m args below meth c s₁ B hml hP _
    have hh0 : s₁.heap = s.heap := by rw [B.state]; rfl
    have ht : ∀ x ∈ c.exceptionTable.toList, False := by
      obtain ⟨meth9, c9, h1, h2, -, -, -, -, h7, -⟩ := Cond.code_spec B.named (atoms_spec (ws := ws) B.pre _ (by rw [hw]; exact List.mem_cons_self))
      cases Option.some.inj (h1.symm.trans B.method)
      cases Option.some.inj (h2.symm.trans (Stand.of_body B).code)
      intro x hx
      rw [Array.isEmpty_iff.mp h7] at hx
      cases hx
    obtain ⟨t, a1, o, b1, b2, b3⟩ := body p e s m args below meth c s₁ B hml ht hP s₁ hh0 (Stand.of_body B)
    exact ⟨t, o, a1, b1, b2, b3⟩
section ZB
variable {p : Program} {l : Launch} {e : Env} {R : Room} {s : State} {m : MethodId} {args : Array Value} {below : List Frame} {meth : Method} {c : Code} {H : Heap} {locs : List Loc} {cells slots : Nat} {Q : State → Prop}
variable {cc : ByteArray} {nL : Nat} {Ts : List Cond} {own : String} {G : zG} {A : Nat → Prop}
/-- a method, from its entry -/
theorem z_ofW {y : MethodName} {ws ws' : List Cond} {fr lo mc ms : Nat} {av : List Value} {I : List Nat} {ad : Nat → Nat} {ct : Nat → va_E} {thr : String → Prop} {sz : Nat} {post : Option Value → zT → Prop} {ret : Option FieldType} (hl : l.stackTraces = false) (hy : plainFor y = true) (hw : ws = Cond.code y cc nL ret :: ws') (hn : (lg_sl av).length ≤ nL)
    (body : ∀ (p : Program) (e : Env) (s : State) (m : MethodId) (args : Array Value) (below : List Frame) (meth : Method) (c : Code) (A : Nat → Prop) (ls : Array Slot), A = zA I ad sz → s.heap.size = sz → zF l p m c cc nL s args ws y.cls meth G A → meth.sig.returnType = ret → (∀ x ∈ c.exceptionTable.toList, False) → meth.name = y.name → zW G A s.heap s.heap [] I ad ct → lv_has ls nL (lv_args 0 av) →
      W p l e { frames := fr, cells := mc, slots := ms, locals := lo } s m args below meth c s.heap [] 0 0 (vx_MQ below (zQ G A ad post) (zX G A I ad ct thr) args s mc ms A) (F0 m 0 ls [])) : zN l y ws fr lo mc ms G av I ad ct thr sz post := by
  refine z_ofWF hy hw ?_
  intro p e s m args below meth c s₁ B hml ht hP
  obtain ⟨rfl, hsz, hin, hK⟩ := hP
  subst hsz
  have h0 := lv_entry av (n := nL) hn
  rw [lg_entry_eq]
  refine body p e s m _ below meth c (zA I ad s.heap.size) _ rfl rfl ⟨B.exec, B.bytes, hml, findClass_of_methodNamed B.named, atoms_spec (ws := ws) B.pre, hK, B.notSynchronized, hl⟩ B.returns ht ((name_of_methodNamed B.named B.method).1) ?_ h0
  exact ⟨hin, fun k hk => Or.inl ⟨k, hk, rfl⟩, va_S.rf, fun q hq => Or.inr hq⟩
end ZB
