/-! the model: where it lies, what its scratch rows are -/
def zmo (ad : Nat → Nat) (n : Nat) (cd bl : Int) : va_E := .inr (4, [zi cd, zi n, .ref (ad 9), .ref (ad 10), .ref (ad 11), .ref (ad 12), .ref (ad 13), .ref (ad 14), .ref (ad 15), .ref (ad 16), .ref (ad 17), .ref (ad 18), .ref (ad 19), .ref (ad 20), .ref (ad 21), .ref (ad 22), zi bl, .ref (ad 23), .ref (ad 24)])
def zMst (G : zG) (ad : Nat → Nat) (ct : Nat → va_E) (n : Nat) (cd bl : Int) (Fmn Fsp Fms Fco Fst Fmo Fsk Fts Ftm Fjn : Int → Int) : Prop :=
  ct 8 = zmo ad n cd bl ∧ ct 9 = zI G 6 Fmn ∧ ct 10 = zL G 6 Fsp ∧ ct 11 = zL G 6 Fms ∧ ct 12 = zI G 6 Fco ∧ ct 13 = zL G 72 Fst ∧ ct 14 = zL G 72 Fmo ∧ ct 15 = zL G 72 Fsk ∧ ct 16 = zL G 6 Fts ∧ ct 17 = zL G 6 Ftm ∧ ct 18 = zZ G 6 Fjn
def zMsc (G : zG) (ct : Nat → va_E) (Fpl Fgr Fab : Int → Int) : Prop := ct 19 = zL G 12 Fpl ∧ ct 20 = zL G 12 Fgr ∧ ct 21 = zL G 12 Fab
def zMbl (G : zG) (ct : Nat → va_E) (Fwv Fat Fsd : Int → Int) : Prop := ct 22 = zL G 2600 Fwv ∧ ct 23 = zL G 13 Fat ∧ ct 24 = zL G 13 Fsd
def zMrel (n : Nat) (σ : Nat → zPl) (Fmn Fsp Fms Fco Fst Fmo Fsk Fts Ftm Fjn : Int → Int) : Prop := ∀ p : Nat, p < n →
  Fmn p = pn (σ p) ∧ Fsp p = psp (σ p) ∧ Fms p = pma (σ p) ∧ Fco p = pco (σ p) ∧ Fts p = pts (σ p) ∧ Ftm p = ptm (σ p) ∧ Fjn p = pjo (σ p) ∧ ∀ i : Int, 0 ≤ i → i < pn (σ p) → Fst (12 * (p : Int) + i) = pst (σ p) i ∧ Fmo (12 * (p : Int) + i) = pmo (σ p) i ∧ Fsk (12 * (p : Int) + i) = psk (σ p) i
def zM3 (ct : Nat → va_E) (a b c : va_E) : Nat → va_E := fun j => if j = 19 then a else if j = 20 then b else if j = 21 then c else ct j
theorem zM3_id {ct : Nat → va_E} {a b c : va_E} (h3 : ct 19 = a) (h4 : ct 20 = b) (h5 : ct 21 = c) : zM3 ct a b c = ct := by
  funext j; unfold zM3
  by_cases e3 : j = 19
  · rw [if_pos e3, e3, h3]
  by_cases e4 : j = 20
  · rw [if_neg e3, if_pos e4, e4, h4]
  by_cases e5 : j = 21
  · rw [if_neg e3, if_neg e4, if_pos e5, e5, h5]
  rw [if_neg e3, if_neg e4, if_neg e5]
theorem zM3_p19 (ct : Nat → va_E) (a b c x : va_E) : zU (zM3 ct a b c) 19 x = zM3 ct x b c := by
  funext j; unfold zU zM3; by_cases h : j = 19 <;> simp [h]
theorem zM3_p20 (ct : Nat → va_E) (a b c x : va_E) : zU (zM3 ct a b c) 20 x = zM3 ct a x c := by
  funext j; unfold zU zM3; by_cases h : j = 20 <;> simp [h]
theorem zM3_p21 (ct : Nat → va_E) (a b c x : va_E) : zU (zM3 ct a b c) 21 x = zM3 ct a b x := by
  funext j; unfold zU zM3; by_cases h : j = 21 <;> simp [h]
theorem zM3_zM3 (ct : Nat → va_E) (a b c d e f : va_E) : zM3 (zM3 ct a b c) d e f = zM3 ct d e f := by
  funext j; unfold zM3; (repeat' split) <;> rfl
theorem zM3_n {ct : Nat → va_E} {a b c x : va_E} {j : Nat} (h : j < 19 ∨ 21 < j) (hx : ct j = x) : zM3 ct a b c j = x := by
  unfold zM3; rw [if_neg (by omega), if_neg (by omega), if_neg (by omega), hx]
def zW3 (ct : Nat → va_E) (a b c : va_E) : Nat → va_E := fun j => if j = 22 then a else if j = 23 then b else if j = 24 then c else ct j
theorem zW3_id {ct : Nat → va_E} {a b c : va_E} (h3 : ct 22 = a) (h4 : ct 23 = b) (h5 : ct 24 = c) : zW3 ct a b c = ct := by
  funext j; unfold zW3
  by_cases e3 : j = 22
  · rw [if_pos e3, e3, h3]
  by_cases e4 : j = 23
  · rw [if_neg e3, if_pos e4, e4, h4]
  by_cases e5 : j = 24
  · rw [if_neg e3, if_neg e4, if_pos e5, e5, h5]
  rw [if_neg e3, if_neg e4, if_neg e5]
theorem zW3_p22 (ct : Nat → va_E) (a b c x : va_E) : zU (zW3 ct a b c) 22 x = zW3 ct x b c := by
  funext j; unfold zU zW3; by_cases h : j = 22 <;> simp [h]
theorem zW3_p23 (ct : Nat → va_E) (a b c x : va_E) : zU (zW3 ct a b c) 23 x = zW3 ct a x c := by
  funext j; unfold zU zW3; by_cases h : j = 23 <;> simp [h]
theorem zW3_p24 (ct : Nat → va_E) (a b c x : va_E) : zU (zW3 ct a b c) 24 x = zW3 ct a b x := by
  funext j; unfold zU zW3; by_cases h : j = 24 <;> simp [h]
theorem zW3_zW3 (ct : Nat → va_E) (a b c d e f : va_E) : zW3 (zW3 ct a b c) d e f = zW3 ct d e f := by
  funext j; unfold zW3; (repeat' split) <;> rfl
theorem zW3_n {ct : Nat → va_E} {a b c x : va_E} {j : Nat} (h : j < 22 ∨ 24 < j) (hx : ct j = x) : zW3 ct a b c j = x := by
  unfold zW3; rw [if_neg (by omega), if_neg (by omega), if_neg (by omega), hx]
theorem zW3_8 (ct : Nat → va_E) (a b c x : va_E) : zU (zW3 ct a b c) 8 x = zW3 (zU ct 8 x) a b c := by
  funext j; unfold zU zW3; by_cases h : j = 8 <;> simp [h]
/-- what a march leaves behind it, above the piece j -/
def zMar (q : zPl) (w j : Int) (P Gr Ab : Int → Int) : Prop := ∀ i : Int, j < i → i < pn q → P i = zp q w (pn q - 1 - i).toNat ∧ Gr i = zgf q i (zp q w (pn q - 1 - i).toNat) ∧ Ab i = zf q w ((pn q - 1 - i).toNat + 1)
theorem zMar_0 {q : zPl} {w j : Int} {P Gr Ab : Int → Int} (h : j = pn q - 1) : zMar q w j P Gr Ab := fun i h1 h2 => absurd h1 (by omega)
theorem zMar_s {q : zPl} {w j j2 pl fo : Int} {K : Nat} {P Gr Ab : Int → Int} (hj : j = pn q - 1 - K) (h : zMar q w j P Gr Ab) (hp : pl = zp q w K) (hf : fo = zf q w (K + 1)) (hj2 : j2 = j - 1) : zMar q w j2 (zup P j pl) (zup Gr j (zgf q j pl)) (zup Ab j fo) := fun i h1 h2 => by
  by_cases e : i = j
  · rw [e, zup_s, zup_s, zup_s, hp, hf, show (pn q - 1 - j).toNat = K by omega]; exact ⟨rfl, rfl, rfl⟩
  · rw [zup_n _ _ e, zup_n _ _ e, zup_n _ _ e]; exact h i (by omega) h2
theorem zMar_h {q : zPl} (hg : zGood q) {w j : Int} {P Gr Ab : Int → Int} (h : zMar q w j P Gr Ab) (hj : j < 0) : P 0 = zhp q w := by
  have g := hg.1.1
  rw [(h 0 (by omega) (by omega)).1]
  have gn : (q.1 : Int) = pn q := rfl
  unfold zhp
  rw [show (pn q - 1 - 0).toNat = q.1 - 1 by omega]
theorem zin_t {q : zPl} {bd w : Int} : zin q true bd w = true ↔ zld q w ≤ bd := by simp [zin]
theorem zin_f {q : zPl} {bd w : Int} : zin q false bd w = true ↔ zhp q w ≤ bd := by simp [zin]
theorem zhb_t {b : Bool} {hd : Int} (h : hd = if b = true then 0 else 1) (c : hd = 0) : b = true := by
  cases b
  · rw [h] at c; exact absurd c (by decide)
  · rfl
theorem zhb_f {b : Bool} {hd : Int} (h : hd = if b = true then 0 else 1) (c : ¬ hd = 0) : b = false := by
  cases b
  · rfl
  · exact absurd h c
theorem zg_none {q : zPl} (hg : zGood q) {b : Bool} {bd : Int} (h : ¬ zin q b bd (-100000) = true) : zg q b bd = -100001 := by
  obtain ⟨h1, h2, h3, h4⟩ := zg_is q b bd
  apply Decidable.byContradiction
  intro h5
  exact h (zin_mono hg (show -100000 ≤ zg q b bd by omega) (h3 (by omega)))
theorem zSch_0 {P : Int → Bool} (h : P (-100000) = true) : zSch P (-100000) 131072 := ⟨by decide, by decide, Or.inr ⟨17, by decide, by decide⟩, by decide, by decide, fun _ => h, fun w h1 h2 h3 => absurd h2 (by omega)⟩
