/-! the class: what its calls answer -/
def zpf (ad : Nat → Nat) (n : Nat) : Int → Option Nat := fun i => if 0 ≤ i ∧ i < n then some (ad (40 + 4 * i.toNat)) else none
theorem zpf_s {ad : Nat → Nat} {n : Nat} {i : Int} (h0 : 0 ≤ i) (h1 : i < n) : va_rf (zpf ad n i) = .ref (ad (40 + 4 * i.toNat)) := by unfold zpf; rw [if_pos ⟨h0, h1⟩]; rfl
theorem zpf_n {ad : Nat → Nat} {n : Nat} {i : Int} (h1 : ¬ i < n) : va_rf (zpf ad n i) = .null := by unfold zpf; rw [if_neg (fun h => h1 h.2)]; rfl
abbrev zNm : List String := ["java/lang/RuntimeException", "java/lang/Exception"]
theorem zbIA : ∀ w ∈ (vx_atS RX3 116 zIA zNm).filter (fun w => !goodWord w), w ∈ zBad zIA := by decide +kernel
theorem zgIA : ∀ w ∈ Cond.classLink RX3 112 zIA :: Cond.initialized zIA :: vx_atS RX3 116 zIA zNm, vx_ot w = true := by decide +kernel
theorem zbIS : ∀ w ∈ (vx_atS RX3 42 zIS zNm).filter (fun w => !goodWord w), w ∈ zBad zIS := by decide +kernel
theorem zgIS : ∀ w ∈ Cond.classLink RX3 38 zIS :: Cond.initialized zIS :: vx_atS RX3 42 zIS zNm, vx_ot w = true := by decide +kernel
/-- at w = -100000 the head is never further down than that -/
theorem zat_low {q : zPl} (hg : zGood q) : ∀ k : Nat, zp q (-100000) k ≤ -100000 ∧ zf q (-100000) k ≤ 0
  | 0 => by
    rw [zp_0, zf_0]
    have h1 := hg.2.2.2.2.1
    have h2 := hg.2.2.2.2.2.1
    have h3 : pts q * (-100000) ≤ 0 := Int.mul_nonpos_of_nonneg_of_nonpos h1.1 (by omega)
    unfold ztf zcl; (repeat' split) <;> omega
  | k + 1 => by
    obtain ⟨h1, h2⟩ := zat_low hg k
    have h3 := hg.2.2.2.2.2.2.2.1 (pn q - 1 - k)
    have h4 := hg.2.2.2.2.2.2.2.2.1 (pn q - 1 - k)
    have h5 := hg.2.2.2.2.2.2.2.2.2 (pn q - 1 - k)
    have h6 : pst q (pn q - 1 - k) * (zp q (-100000) k - psk q (pn q - 1 - k)) ≤ 0 := Int.mul_nonpos_of_nonneg_of_nonpos h3.1 (by omega)
    have h7 : zgf q (pn q - 1 - k) (zp q (-100000) k) ≤ 0 := by unfold zgf zcl; (repeat' split) <;> omega
    have h8 : zf q (-100000) (k + 1) ≤ 0 := by rw [zf_s]; omega
    have h9 : zf q (-100000) (k + 1) / psp q ≤ 0 := by
      have := zdiv_mono hg.2.1.1 h8
      rw [Int.zero_ediv] at this; exact this
    exact ⟨by rw [zp_s]; omega, h8⟩
theorem zat_ok {q : zPl} (hg : zGood q) {s : Int} (hs : -100000 ≤ s) : -100000 ≤ zg q false s := by
  obtain ⟨h1, h2, h3, h4⟩ := zg_is q false s
  apply Decidable.byContradiction
  intro h
  have h5 := h4 (-100000) (by omega) (by omega) (by omega)
  have h6 := (zat_low hg (q.1 - 1)).1
  unfold zin at h5
  simp only [Bool.false_eq_true, if_false, decide_eq_false_iff_not] at h5
  unfold zhp at h5; omega
theorem zld_bd {q : zPl} (hg : zGood q) (w : Int) : -2200000 ≤ zld q w ∧ zld q w ≤ 2200000 := by
  have g := hg.1.2
  exact zf_bd2 hg w (by unfold pn at g; omega)
/-- the load of a group at a settlement -/
def zgl (σ : Nat → zPl) (s : Int) : Nat → Int
  | 0 => 0
  | p + 1 => zgl σ s p + if pjo (σ p) = 0 then 0 else zld (σ p) (zg (σ p) false s)
theorem zgl_bd {σ : Nat → zPl} {n : Nat} (hg : ∀ p : Nat, p < n → zGood (σ p)) (s : Int) : ∀ p : Nat, p ≤ n → -(2200000 * (p : Int)) ≤ zgl σ s p ∧ zgl σ s p ≤ 2200000 * (p : Int)
  | 0, _ => by show _ ≤ (0 : Int) ∧ (0 : Int) ≤ _; omega
  | p + 1, h => by
    have h1 := zgl_bd hg s p (by omega)
    have h2 := zld_bd (hg p (by omega)) (zg (σ p) false s)
    show _ ≤ zgl σ s p + (if _ then _ else _) ∧ zgl σ s p + (if _ then _ else _) ≤ _
    split <;> omega
def zpw : Nat → Int
  | 0 => 0
  | j + 1 => 2 ^ j
theorem zpw_half : ∀ j : Nat, (zpw (j + 1)).tdiv 2 = zpw j
  | 0 => by decide
  | j + 1 => by
    show ((2 : Int) ^ (j + 1)).tdiv 2 = 2 ^ j
    rw [Int.pow_succ, Int.mul_tdiv_cancel _ (by decide)]
theorem zpw_pos (j : Nat) : 0 < zpw (j + 1) := Int.pow_pos (by decide)
theorem zpw_bd : ∀ j : Nat, j ≤ 14 → 0 ≤ zpw j ∧ zpw j ≤ 8192 := by decide
/-- the group's settlement, by halves -/
def zgo (L : Int → Int) (load : Int) : Nat → Int → Int
  | 0, s => s
  | j + 1, s => zgo L load j (if s + zpw (j + 1) < 10000 ∧ L (s + zpw (j + 1)) ≤ load then s + zpw (j + 1) else s)
def zgs (σ : Nat → zPl) (n : Nat) (load : Int) : Int := if load < zgl σ 0 n ∨ zgl σ 10000 n ≤ load then -1000000 else zgo (fun s => zgl σ s n) load 14 0
theorem zgo_bd (L : Int → Int) (load : Int) : ∀ (j : Nat) (s : Int), 0 ≤ s → s < 10000 → 0 ≤ zgo L load j s ∧ zgo L load j s < 10000
  | 0, s, h0, h1 => ⟨h0, h1⟩
  | j + 1, s, h0, h1 => by
    have := zpw_pos j
    unfold zgo
    apply zgo_bd L load j
    · split <;> omega
    · split <;> omega
theorem zgs_bd (σ : Nat → zPl) (n : Nat) (load : Int) : zgs σ n load = -1000000 ∨ (0 ≤ zgs σ n load ∧ zgs σ n load < 10000) := by
  unfold zgs; split
  · exact Or.inl rfl
  · exact Or.inr (zgo_bd _ _ 14 0 (by omega) (by omega))
/-- does a pile under a load, by its greatest place -/
def zok (q : zPl) (load : Int) : Prop := -100000 ≤ zg q true load ∧ zg q true load < 100000
def zch (σ : Nat → zPl) (load most : Int) : Nat → Int
  | 0 => -1000000
  | p + 1 => if (zch σ load most p = -1000000 ∨ pco (σ p) < pco (σ (zch σ load most p).toNat)) ∧ (-100000 ≤ zg (σ p) true load ∧ zg (σ p) true load < 100000) ∧ zhp (σ p) (zg (σ p) true load) ≤ most then p else zch σ load most p
theorem zch_bd (σ : Nat → zPl) (load most : Int) : ∀ p : Nat, zch σ load most p = -1000000 ∨ (0 ≤ zch σ load most p ∧ zch σ load most p < p)
  | 0 => Or.inl rfl
  | p + 1 => by
    have := zch_bd σ load most p
    unfold zch; split <;> omega
def zho (q : zPl) : Nat → Int
  | 0 => 0
  | k + 1 => zho q k + (7 * pmo q k).tdiv 10
theorem zho_bd {q : zPl} (hg : zGood q) : ∀ k : Nat, 0 ≤ zho q k ∧ zho q k ≤ 100000 * (k : Int)
  | 0 => by show (0 : Int) ≤ 0 ∧ (0 : Int) ≤ _; omega
  | k + 1 => by
    have h1 := zho_bd hg k
    have h2 := hg.2.2.2.2.2.2.2.2.1 k
    have h3 : 0 ≤ (7 * pmo q k).tdiv 10 := Int.tdiv_nonneg (by omega) (by omega)
    have h4 : (7 * pmo q k).tdiv 10 ≤ 100000 := by rw [Int.tdiv_eq_ediv_of_nonneg (by omega)]; omega
    show 0 ≤ zho q k + (7 * pmo q k).tdiv 10 ∧ zho q k + (7 * pmo q k).tdiv 10 ≤ _
    omega
def zemp (σ : Nat → zPl) (n : Nat) : Prop := ∀ p : Nat, p < n → pjo (σ p) = 0
theorem zhp_bd {q : zPl} (hg : zGood q) {w : Int} (h1 : -200000 ≤ w) (h2 : w ≤ 200000) : -30000000 ≤ zhp q w ∧ zhp q w ≤ 30000000 := by
  have g := hg.1.2
  exact zp_bd2 hg h1 h2 (by unfold pn at g; omega)
theorem zpw_z {j : Nat} (h : zpw j ≤ 0) : j = 0 := by
  cases j with
  | zero => rfl
  | succ j => have := zpw_pos j; omega
theorem zpw_succ {j : Nat} (h : ¬ zpw j ≤ 0) : ∃ i, j = i + 1 := by
  cases j with
  | zero => exact absurd (Int.le_refl 0) h
  | succ j => exact ⟨j, rfl⟩
