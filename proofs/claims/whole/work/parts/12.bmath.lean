/-! a blow, in whole numbers -/
theorem ztdivb {x d B : Int} (hd : 1 ≤ d) (h1 : -B ≤ x) (h2 : x ≤ B) : -B ≤ x.tdiv d ∧ x.tdiv d ≤ B := by
  rcases Int.le_total 0 x with h | h
  · rw [Int.tdiv_eq_ediv_of_nonneg h]; exact zdivb hd h1 h2
  · have h3 : x.tdiv d = -((-x).tdiv d) := by rw [Int.neg_tdiv, Int.neg_neg]
    rw [h3, Int.tdiv_eq_ediv_of_nonneg (by omega)]
    have := zdivb (x := -x) (B := B) hd (by omega) (by omega)
    omega
theorem zt1000 {x B : Int} (h1 : -(1000 * B) ≤ x) (h2 : x ≤ 1000 * B) : -B ≤ x.tdiv 1000 ∧ x.tdiv 1000 ≤ B := by
  rcases Int.le_total 0 x with h | h
  · rw [Int.tdiv_eq_ediv_of_nonneg h]; omega
  · have h3 : x.tdiv 1000 = -((-x).tdiv 1000) := by rw [Int.neg_tdiv, Int.neg_neg]
    rw [h3, Int.tdiv_eq_ediv_of_nonneg (by omega)]; omega
def zcu (q : zPl) (pl : Int → Int) : Int := if 10 * (pl (pn q) - pl 0) < 0 then 0 else 10 * (pl (pn q) - pl 0)
def zsf (q : zPl) (pl : Int → Int) (i : Int) : Int := (psp q * (pl i - pl (i + 1))).tdiv 1000
def zgb (q : zPl) (pl : Int → Int) (i : Int) : Int := zcl ((pst q i * pl i).tdiv 1000) (-(pmo q i)) (pmo q i)
def ztb (q : zPl) (pl : Int → Int) : Int := zcl ((pts q * pl (pn q - 1)).tdiv 1000) 0 (ptm q)
def zab (q : zPl) (pl : Int → Int) (i : Int) : Int := if i = 0 then zcu q pl else zsf q pl (i - 1)
def zbe (q : zPl) (pl : Int → Int) (i : Int) : Int := if i + 1 < pn q then zsf q pl i else ztb q pl
def zpu (q : zPl) (pl : Int → Int) (i : Int) : Int := if i = pn q then -(zcu q pl) else zab q pl i - zgb q pl i - zbe q pl i
def zms (q : zPl) (hm i : Int) : Int := if i = pn q then hm else pma q
def znv (q : zPl) (hm : Int) (pl sp : Int → Int) (i : Int) : Int := zcl (sp i + (1000 * zpu q pl i).tdiv (zms q hm i)) (-1000000000) 1000000000
def znp (q : zPl) (hm : Int) (pl sp : Int → Int) (i : Int) : Int := pl i + (znv q hm pl sp i).tdiv 1000
/-- they speak of the places 0 .. n alone -/
def zEq (q : zPl) (a b : Int → Int) : Prop := ∀ i : Int, 0 ≤ i → i ≤ pn q → a i = b i
theorem zcu_c {q : zPl} (hg : zGood q) {a b : Int → Int} (h : zEq q a b) : zcu q a = zcu q b := by
  have g := hg.1.1
  unfold zcu; rw [h (pn q) (by omega) (by omega), h 0 (by omega) (by omega)]
theorem zsf_c {q : zPl} {a b : Int → Int} (h : zEq q a b) {i : Int} (h0 : 0 ≤ i) (h1 : i + 1 ≤ pn q) : zsf q a i = zsf q b i := by
  unfold zsf; rw [h i h0 (by omega), h (i + 1) (by omega) h1]
theorem zpu_c {q : zPl} (hg : zGood q) {a b : Int → Int} (h : zEq q a b) {i : Int} (h0 : 0 ≤ i) (h1 : i ≤ pn q) : zpu q a i = zpu q b i := by
  have g := hg.1.1
  unfold zpu
  by_cases hi : i = pn q
  · rw [if_pos hi, if_pos hi, zcu_c hg h]
  · rw [if_neg hi, if_neg hi]
    have e1 : zab q a i = zab q b i := by
      unfold zab
      by_cases h2 : i = 0
      · rw [if_pos h2, if_pos h2, zcu_c hg h]
      · rw [if_neg h2, if_neg h2, zsf_c h (by omega) (by omega)]
    have e2 : zgb q a i = zgb q b i := by unfold zgb; rw [h i h0 h1]
    have e3 : zbe q a i = zbe q b i := by
      unfold zbe ztb
      by_cases h2 : i + 1 < pn q
      · rw [if_pos h2, if_pos h2, zsf_c h h0 (by omega)]
      · rw [if_neg h2, if_neg h2, h (pn q - 1) (by omega) (by omega)]
    rw [e1, e2, e3]
theorem znv_c {q : zPl} (hg : zGood q) (hm : Int) {a b c d : Int → Int} (h : zEq q a b) (h2 : zEq q c d) {i : Int} (h0 : 0 ≤ i) (h1 : i ≤ pn q) : znv q hm a c i = znv q hm b d i := by
  unfold znv; rw [zpu_c hg h h0 h1, h2 i h0 h1]
theorem znp_c {q : zPl} (hg : zGood q) (hm : Int) {a b c d : Int → Int} (h : zEq q a b) (h2 : zEq q c d) {i : Int} (h0 : 0 ≤ i) (h1 : i ≤ pn q) : znp q hm a c i = znp q hm b d i := by
  unfold znp; rw [znv_c hg hm h h2 h0 h1, h i h0 h1]
/-- round by round: places, speeds -/
def zro (q : zPl) (hm v : Int) : Nat → (Int → Int) × (Int → Int)
  | 0 => (fun _ => 0, fun i => if i = pn q then 1000 * v else 0)
  | r + 1 => (znp q hm (zro q hm v r).1 (zro q hm v r).2, znv q hm (zro q hm v r).1 (zro q hm v r).2)
theorem znv_bd (q : zPl) (hm : Int) (pl sp : Int → Int) (i : Int) : -1000000000 ≤ znv q hm pl sp i ∧ znv q hm pl sp i ≤ 1000000000 := by
  unfold znv; exact zcl_bd (by omega)
theorem zro_sp {q : zPl} {hm v : Int} (hv : 0 ≤ v) (hv2 : v ≤ 1000) : ∀ (r : Nat) (i : Int), -1000000000 ≤ (zro q hm v r).2 i ∧ (zro q hm v r).2 i ≤ 1000000000
  | 0, i => by show _ ≤ (if i = pn q then 1000 * v else 0) ∧ (if i = pn q then 1000 * v else 0) ≤ _; split <;> omega
  | r + 1, i => znv_bd q hm _ _ i
theorem zro_pl (q : zPl) (hm v : Int) : ∀ (r : Nat) (i : Int), -(1000000 * (r : Int)) ≤ (zro q hm v r).1 i ∧ (zro q hm v r).1 i ≤ 1000000 * (r : Int)
  | 0, i => by show _ ≤ (0 : Int) ∧ (0 : Int) ≤ _; omega
  | r + 1, i => by
    have h1 := zro_pl q hm v r i
    have h2 := znv_bd q hm (zro q hm v r).1 (zro q hm v r).2 i
    have h3 := zt1000 (B := 1000000) (by omega) (show znv q hm (zro q hm v r).1 (zro q hm v r).2 i ≤ 1000 * 1000000 by omega)
    show _ ≤ (zro q hm v r).1 i + (znv q hm (zro q hm v r).1 (zro q hm v r).2 i).tdiv 1000 ∧ (zro q hm v r).1 i + (znv q hm (zro q hm v r).1 (zro q hm v r).2 i).tdiv 1000 ≤ _
    omega
/-- bounds of what pushes -/
def zB (q : zPl) (pl : Int → Int) : Prop := ∀ i : Int, 0 ≤ i → i ≤ pn q → -200000000 ≤ pl i ∧ pl i ≤ 200000000
theorem zcu_bd {q : zPl} (hg : zGood q) {pl : Int → Int} (h : zB q pl) : 0 ≤ zcu q pl ∧ zcu q pl ≤ 4000000000 := by
  have g := hg.1.1
  have h1 := h (pn q) (by omega) (by omega)
  have h2 := h 0 (by omega) (by omega)
  unfold zcu; split <;> omega
theorem zsf_bd {q : zPl} (hg : zGood q) {pl : Int → Int} (h : zB q pl) {i : Int} (h0 : 0 ≤ i) (hi : i + 1 ≤ pn q) : (-4000000000000 ≤ psp q * (pl i - pl (i + 1)) ∧ psp q * (pl i - pl (i + 1)) ≤ 4000000000000) ∧ -4000000000 ≤ zsf q pl i ∧ zsf q pl i ≤ 4000000000 := by
  have g := hg.2.1
  have h1 := h i h0 (by omega)
  have h2 := h (i + 1) (by omega) hi
  have h3 := zmulb (B := 400000000) (A := 10000) (by omega) g.2 (show -400000000 ≤ pl i - pl (i + 1) by omega) (by omega)
  have h4 := zt1000 (x := psp q * (pl i - pl (i + 1))) (B := 4000000000) (by omega) (by omega)
  unfold zsf; omega
theorem zgb_bd {q : zPl} (hg : zGood q) (pl : Int → Int) (i : Int) : -100000 ≤ zgb q pl i ∧ zgb q pl i ≤ 100000 := by
  have h1 := hg.2.2.2.2.2.2.2.2.1 i
  have h2 := zcl_bd (v := (pst q i * pl i).tdiv 1000) (lo := -(pmo q i)) (hi := pmo q i) (by omega)
  unfold zgb; omega
theorem ztb_bd {q : zPl} (hg : zGood q) (pl : Int → Int) : 0 ≤ ztb q pl ∧ ztb q pl ≤ 1000000 := by
  have h1 := hg.2.2.2.2.2.1
  have h2 := zcl_bd (v := (pts q * pl (pn q - 1)).tdiv 1000) (lo := 0) (hi := ptm q) (by omega)
  unfold ztb; omega
theorem zpu_bd {q : zPl} (hg : zGood q) {pl : Int → Int} (h : zB q pl) {i : Int} (h0 : 0 ≤ i) (hi : i ≤ pn q) : -10000000000 ≤ zpu q pl i ∧ zpu q pl i ≤ 10000000000 := by
  have h1 := zcu_bd hg h
  have h2 := zgb_bd hg pl i
  have h3 := ztb_bd hg pl
  unfold zpu zab zbe
  by_cases e1 : i = pn q
  · rw [if_pos e1]; omega
  · rw [if_neg e1]
    have h4 : i ≠ 0 → -4000000000 ≤ zsf q pl (i - 1) ∧ zsf q pl (i - 1) ≤ 4000000000 := fun e => (zsf_bd hg h (i := i - 1) (by omega) (by omega)).2
    have h5 : -4000000000 ≤ zsf q pl i ∧ zsf q pl i ≤ 4000000000 := (zsf_bd hg h h0 (by omega)).2
    split <;> split <;> omega
/-- how far down the last piece came at most -/
def zdp (q : zPl) (hm v : Int) : Nat → Int
  | 0 => 0
  | r + 1 => if zdp q hm v r < (zro q hm v (r + 1)).1 (pn q - 1) then (zro q hm v (r + 1)).1 (pn q - 1) else zdp q hm v r
theorem zdp_bd (q : zPl) (hm v : Int) : ∀ r : Nat, 0 ≤ zdp q hm v r ∧ zdp q hm v r ≤ 1000000 * (r : Int)
  | 0 => by show (0 : Int) ≤ 0 ∧ (0 : Int) ≤ _; omega
  | r + 1 => by
    have h1 := zdp_bd q hm v r
    have h2 := zro_pl q hm v (r + 1) (pn q - 1)
    unfold zdp
    split <;> omega
theorem zqk_bd {q : zPl} (hg : zGood q) : 0 ≤ zqk q ∧ zqk q ≤ 1000000000 := by
  have h1 := hg.2.2.2.2.1
  have h2 := hg.2.2.2.2.2.1
  unfold zqk
  split
  · omega
  · have h3 : 0 ≤ (1000 * ptm q).tdiv (pts q) := Int.tdiv_nonneg (by omega) (by omega)
    have := ztdivb (x := 1000 * ptm q) (d := pts q) (B := 1000000000) (by omega) (by omega) (by omega)
    omega
def zset (q : zPl) (hm v : Int) : Int := if zdp q hm v 200 - zqk q < 0 then 0 else zdp q hm v 200 - zqk q
def zcpy (f g : Int → Int) (dp n : Int) : Int → Int := fun j => if dp ≤ j ∧ j < dp + n then f (j - dp) else g j
section ZM
variable {p : Program} {l : Launch} {e : Env} {R : Room} {s : State} {m : MethodId} {args : Array Value} {below : List Frame} {meth : Method} {c : Code} {H : Heap} {locs : List Loc} {cells slots : Nat} {Q : State → Prop}
variable {cc : ByteArray} {pc : Nat} {ls : Array Slot} {rest : List Value} {G : zG} {A : Nat → Prop} {H0 : Heap} {I : List Nat} {ad : Nat → Nat} {ct : Nat → va_E}
theorem z_mmax (hx : p.tables.exec = Jvm.exec) (hb : c.code = cc) (hml : c.maxLocals = ls.size) {own : String} {index : Nat} (hown : s.vm.findClass own = some m.cls) (hlink : (Cond.methodLink own index Lib.Math.max.name).before args s = true) (hstat : (Cond.static Lib.Math.max.name).before args s = true) (hini : (Cond.initialized "java/lang/Math").before args s = true) (hcode : (Cond.code Lib.Math.max.name Lib.Math.max.code 2 (some .int)).before args s = true)
    (hframes : 1 ≤ R.frames) (hlocals : (rest.map fun v => v.category).sum + 13 ≤ R.locals) (hc : cells ≤ R.cells) (hs : slots ≤ R.slots) {a b : Int} (ha : zr a) (hb2 : zr b) (hdg : decode cc pc = .ok (.invokestatic index, 3))
    (kk : W p l e R s m args below meth c H locs cells slots Q (F0 m (pc + 3) ls (zi (if a < b then b else a) :: rest))) : W p l e R s m args below meth c H locs cells slots Q (F0 m pc ls (zi b :: zi a :: rest)) :=
  va_mmax hx hb hml hown hlink hstat hini hcode hframes hlocals hc hs hdg (by
    have e : (if Int32.ofInt a < Int32.ofInt b then Int32.ofInt b else Int32.ofInt a) = Int32.ofInt (if a < b then b else a) := by
      by_cases h : a < b
      · rw [if_pos h, if_pos ((zi_lt ha hb2).mpr h)]
      · rw [if_neg h, if_neg (fun q => h ((zi_lt ha hb2).mp q))]
    rw [e]; exact kk)
theorem z_mmaxl (hx : p.tables.exec = Jvm.exec) (hb : c.code = cc) (hml : c.maxLocals = ls.size) {own : String} {index : Nat} (hown : s.vm.findClass own = some m.cls) (hlink : (Cond.methodLink own index Lib.MathLoose.max_long.x).before args s = true) (hstat : (Cond.static Lib.MathLoose.max_long.x).before args s = true) (hini : (Cond.initialized "java/lang/Math").before args s = true) (hcode : (Cond.code Lib.MathLoose.max_long.x Lib.MathLoose.max_long.code 4 (some .long)).before args s = true)
    (hframes : 1 ≤ R.frames) (hlocals : (rest.map fun v => v.category).sum + 15 ≤ R.locals) (hc : cells ≤ R.cells) (hs : slots ≤ R.slots) {a b : Int} (ha : zR a) (hb2 : zR b) (hdg : decode cc pc = .ok (.invokestatic index, 3))
    (kk : W p l e R s m args below meth c H locs cells slots Q (F0 m (pc + 3) ls (zl (if b < a then a else b) :: rest))) : W p l e R s m args below meth c H locs cells slots Q (F0 m pc ls (zl b :: zl a :: rest)) :=
  va_mmax_long hx hb hml hown hlink hstat hini hcode hframes hlocals hc hs hdg (by
    have e : (if Int64.ofInt b < Int64.ofInt a then Int64.ofInt a else Int64.ofInt b) = Int64.ofInt (if b < a then a else b) := by
      by_cases h : b < a
      · rw [if_pos h, if_pos ((zl_lt hb2 ha).mpr h)]
      · rw [if_neg h, if_neg (fun q => h ((zl_lt hb2 ha).mp q))]
    rw [e]; exact kk)
/-- System.arraycopy of a whole row of ints into another -/
theorem z_copyi (hx : p.tables.exec = Jvm.exec) (hb : c.code = cc) (hml : c.maxLocals = ls.size) {own : String} {index : Nat} (hown : s.vm.findClass own = some m.cls) (hlink : (Cond.methodLink own index arraycopyName).before args s = true) (hnat : (Cond.native arraycopyName).before args s = true) (hstat : (Cond.static arraycopyName).before args s = true) (hini : (Cond.initialized "java/lang/System").before args s = true)
    (hK : zK G A s H0) (hw : zW G A H0 H locs I ad ct) {k0 k1 : Nat} (hk0 : k0 ∈ I) (hk1 : k1 ∈ I) {n0 n1 : Nat} {f g : Int → Int} (he0 : ct k0 = zI G n0 f) (he1 : ct k1 = zI G n1 g) {dp n : Int} (h2 : 0 ≤ dp) (h3 : 0 ≤ n) (h4 : n ≤ n0) (h5 : dp + n ≤ n1) (hn0 : n0 < 2147483648) (hn1 : n1 < 2147483648)
    (hframes : 1 ≤ R.frames) (hlocals : (rest.map fun v => v.category).sum + (nativeFrameWords "java/lang/System" "arraycopy" 5 + 11) ≤ R.locals) (hdg : decode cc pc = .ok (.invokestatic index, 3))
    (kk : ∀ (H1 : Heap) (locs1 : List Loc), zW G A H0 H1 locs1 I ad (zU ct k1 (zI G n1 (zcpy f g dp n))) → W p l e R s m args below meth c H1 locs1 cells slots Q (F0 m (pc + 3) ls rest)) : W p l e R s m args below meth c H locs cells slots Q (F0 m pc ls (zi n :: zi dp :: .ref (ad k1) :: zi 0 :: .ref (ad k0) :: rest)) := by
  obtain ⟨i0, hi0⟩ := List.getElem?_of_mem hk0
  obtain ⟨i1, hi1⟩ := List.getElem?_of_mem hk1
  have hp0 := zws_of (ad := ad) (ct := ct) hi0
  have hp1 := zws_of (ad := ad) (ct := ct) hi1
  rw [he0] at hp0
  rw [he1] at hp1
  have c0 : (Int32.ofInt 0).toNatClampNeg = 0 := rfl
  have cd : (Int32.ofInt dp).toNatClampNeg = dp.toNat := zi_cl h2 (by omega)
  have cn : (Int32.ofInt n).toNatClampNeg = n.toNat := zi_cl h3 (by omega)
  have ng : ∀ z : Int, 0 ≤ z → z < 2147483648 → ¬ Int32.ofInt z < 0 := fun z h1 h2 h => by
    have := (zi_lt (a := z) (b := 0) ⟨by omega, by omega⟩ zr_0).mp h
    omega
  refine va_copyi (D := G.1) (cl := vwCl) hx hb hml hown hlink hnat hstat hini hK.1 hw.1.1 (hw.1.D hw.2.1) hw.2.2.1 i0 i1 0 0 (ty := .int) hp0 hp1 rfl rfl rfl (ng 0 (by omega) (by omega)) (ng dp h2 (by omega)) (ng n h3 (by omega)) (by rw [c0, cn]; omega) (by rw [cd, cn]; omega) (fun _ _ => rfl) hframes hlocals hdg (fun H1 locs1 hP hD hS => ?_)
  have e : va_cpy (zfi f) (zfi g) (Int32.ofInt 0).toNatClampNeg (Int32.ofInt dp).toNatClampNeg (Int32.ofInt n).toNatClampNeg = zfi (zcpy f g dp n) := by
    rw [c0, cd, cn]
    funext j
    unfold va_cpy zfi zcpy
    by_cases h : dp.toNat ≤ j ∧ j < dp.toNat + n.toNat
    · rw [if_pos h, if_pos (by omega), show ((0 + (j - dp.toNat) : Nat) : Int) = (j : Int) - dp by omega]
    · rw [if_neg h, if_neg (by omega)]
  rw [e] at hP
  exact kk H1 locs1 (hw.put hi1 hP hS)
end ZM
