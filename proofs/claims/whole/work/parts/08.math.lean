/-! the pile, in whole numbers -/
abbrev zPl : Type := Nat × (Nat → Int) × (Int → Int) × (Int → Int) × (Int → Int)
def pn (q : zPl) : Int := (q.1 : Int)
def psp (q : zPl) : Int := q.2.1 0
def pma (q : zPl) : Int := q.2.1 1
def pco (q : zPl) : Int := q.2.1 2
def pts (q : zPl) : Int := q.2.1 3
def ptm (q : zPl) : Int := q.2.1 4
def pjo (q : zPl) : Int := q.2.1 5
def pst (q : zPl) : Int → Int := q.2.2.1
def pmo (q : zPl) : Int → Int := q.2.2.2.1
def psk (q : zPl) : Int → Int := q.2.2.2.2
def zGood (q : zPl) : Prop := (1 ≤ pn q ∧ pn q ≤ 12) ∧ (1 ≤ psp q ∧ psp q ≤ 10000) ∧ (1 ≤ pma q ∧ pma q ≤ 1000) ∧ (0 ≤ pco q ∧ pco q ≤ 100000) ∧ (0 ≤ pts q ∧ pts q ≤ 1000) ∧ (0 ≤ ptm q ∧ ptm q ≤ 1000000) ∧ (pjo q = 0 ∨ pjo q = 1) ∧ (∀ i, 0 ≤ pst q i ∧ pst q i ≤ 1000) ∧ (∀ i, 0 ≤ pmo q i ∧ pmo q i ≤ 100000) ∧ ∀ i, 0 ≤ psk q i ∧ psk q i ≤ 10000
def zcl (v lo hi : Int) : Int := if v < lo then lo else if v > hi then hi else v
theorem zcl_bd {v lo hi : Int} (h : lo ≤ hi) : lo ≤ zcl v lo hi ∧ zcl v lo hi ≤ hi := by unfold zcl; (repeat' split) <;> omega
theorem zcl_mono {v v2 lo hi : Int} (h : v ≤ v2) : zcl v lo hi ≤ zcl v2 lo hi ∨ hi < lo := by unfold zcl; (repeat' split) <;> omega
theorem zmulb {a b A B : Int} (ha : 0 ≤ a) (ha2 : a ≤ A) (hb : -B ≤ b) (hb2 : b ≤ B) : -(A * B) ≤ a * b ∧ a * b ≤ A * B := by
  have hB : 0 ≤ B := by omega
  have h1 : a * B ≤ A * B := Int.mul_le_mul_of_nonneg_right ha2 hB
  have h2 : a * b ≤ a * B := Int.mul_le_mul_of_nonneg_left hb2 ha
  have h3 : a * (-B) ≤ a * b := Int.mul_le_mul_of_nonneg_left hb ha
  rw [Int.mul_neg] at h3
  constructor <;> omega
theorem zdivb {x d B : Int} (hd : 1 ≤ d) (h1 : -B ≤ x) (h2 : x ≤ B) : -B ≤ x / d ∧ x / d ≤ B := by
  have hB : 0 ≤ B := by omega
  constructor
  · apply Int.le_ediv_of_mul_le (by omega)
    have : B * 1 ≤ B * d := Int.mul_le_mul_of_nonneg_left hd hB
    rw [Int.neg_mul]; omega
  · apply Int.ediv_le_of_le_mul (by omega)
    have : B * 1 ≤ B * d := Int.mul_le_mul_of_nonneg_left hd hB
    omega
theorem zdiv_mono {x y d : Int} (hd : 1 ≤ d) (h : x ≤ y) : x / d ≤ y / d := Int.ediv_le_ediv (by omega) h
def ztf (q : zPl) (w : Int) : Int := zcl (pts q * w) 0 (ptm q)
def zgf (q : zPl) (i u : Int) : Int := zcl (pst q i * (u - psk q i)) (-(pmo q i)) (pmo q i)
def zPF (q : zPl) (w : Int) : Nat → Int × Int
  | 0 => (w, ztf q w)
  | k + 1 => ((zPF q w k).1 + ((zPF q w k).2 + zgf q (pn q - 1 - k) (zPF q w k).1) / psp q, (zPF q w k).2 + zgf q (pn q - 1 - k) (zPF q w k).1)
def zp (q : zPl) (w : Int) (k : Nat) : Int := (zPF q w k).1
def zf (q : zPl) (w : Int) (k : Nat) : Int := (zPF q w k).2
theorem zp_0 (q : zPl) (w : Int) : zp q w 0 = w := rfl
theorem zf_0 (q : zPl) (w : Int) : zf q w 0 = ztf q w := rfl
theorem zf_s (q : zPl) (w : Int) (k : Nat) : zf q w (k + 1) = zf q w k + zgf q (pn q - 1 - k) (zp q w k) := rfl
theorem zp_s (q : zPl) (w : Int) (k : Nat) : zp q w (k + 1) = zp q w k + zf q w (k + 1) / psp q := rfl
theorem zgf_bd {q : zPl} (h : zGood q) (i u : Int) : -100000 ≤ zgf q i u ∧ zgf q i u ≤ 100000 := by
  have h1 := h.2.2.2.2.2.2.2.2.1 i
  have h2 := zcl_bd (v := pst q i * (u - psk q i)) (lo := -(pmo q i)) (hi := pmo q i) (by omega)
  unfold zgf; omega
theorem ztf_bd {q : zPl} (h : zGood q) (w : Int) : 0 ≤ ztf q w ∧ ztf q w ≤ 1000000 := by
  have h1 := h.2.2.2.2.2.1
  have h2 := zcl_bd (v := pts q * w) (lo := 0) (hi := ptm q) (by omega)
  unfold ztf; omega
theorem zf_bd {q : zPl} (h : zGood q) (w : Int) : ∀ k : Nat, -(100000 * (k : Int)) ≤ zf q w k ∧ zf q w k ≤ 1000000 + 100000 * (k : Int)
  | 0 => by have := ztf_bd h w; rw [zf_0]; omega
  | k + 1 => by
    have h1 := zf_bd h w k
    have h2 := zgf_bd h (pn q - 1 - k) (zp q w k)
    rw [zf_s]; omega
theorem zf_bd2 {q : zPl} (h : zGood q) (w : Int) {k : Nat} (hk : k ≤ 12) : -2200000 ≤ zf q w k ∧ zf q w k ≤ 2200000 := by
  have := zf_bd h w k; omega
theorem zp_bd {q : zPl} (h : zGood q) (w : Int) : ∀ k : Nat, k ≤ 12 → w - 2200000 * (k : Int) ≤ zp q w k ∧ zp q w k ≤ w + 2200000 * (k : Int)
  | 0, _ => by rw [zp_0]; omega
  | k + 1, hk => by
    have h1 := zp_bd h w k (by omega)
    have h2 := zf_bd2 h w hk
    have h3 := zdivb h.2.1.1 h2.1 h2.2
    rw [zp_s]; omega
theorem zp_bd2 {q : zPl} (h : zGood q) {w : Int} (h1 : -200000 ≤ w) (h2 : w ≤ 200000) {k : Nat} (hk : k ≤ 12) : -30000000 ≤ zp q w k ∧ zp q w k ≤ 30000000 := by
  have := zp_bd h w k hk; omega
theorem zPF_mono {q : zPl} (h : zGood q) {w v : Int} (hw : w ≤ v) : ∀ k : Nat, zp q w k ≤ zp q v k ∧ zf q w k ≤ zf q v k
  | 0 => by
    refine ⟨hw, ?_⟩
    have h1 := h.2.2.2.2.1.1
    have h2 := h.2.2.2.2.2.1.1
    have h3 : pts q * w ≤ pts q * v := Int.mul_le_mul_of_nonneg_left hw h1
    rw [zf_0, zf_0]; unfold ztf
    rcases zcl_mono (lo := 0) (hi := ptm q) h3 with h4 | h4 <;> omega
  | k + 1 => by
    obtain ⟨h1, h2⟩ := zPF_mono h hw k
    have h3 := h.2.2.2.2.2.2.2.1 (pn q - 1 - k)
    have h4 := h.2.2.2.2.2.2.2.2.1 (pn q - 1 - k)
    have h5 : pst q (pn q - 1 - k) * (zp q w k - psk q (pn q - 1 - k)) ≤ pst q (pn q - 1 - k) * (zp q v k - psk q (pn q - 1 - k)) := Int.mul_le_mul_of_nonneg_left (by omega) h3.1
    have h6 : zgf q (pn q - 1 - k) (zp q w k) ≤ zgf q (pn q - 1 - k) (zp q v k) := by
      unfold zgf
      rcases zcl_mono (lo := -(pmo q (pn q - 1 - k))) (hi := pmo q (pn q - 1 - k)) h5 with h7 | h7 <;> omega
    have h8 : zf q w (k + 1) ≤ zf q v (k + 1) := by rw [zf_s, zf_s]; omega
    have h9 := zdiv_mono h.2.1.1 h8
    exact ⟨by rw [zp_s, zp_s]; omega, h8⟩
/-- the head's place, the load -/
def zhp (q : zPl) (w : Int) : Int := zp q w (q.1 - 1)
def zld (q : zPl) (w : Int) : Int := zf q w q.1
/-- whether the state of w is within a bound: by its load, or else by the head's place -/
def zin (q : zPl) (b : Bool) (bound w : Int) : Bool := if b then decide (zld q w ≤ bound) else decide (zhp q w ≤ bound)
theorem zin_mono {q : zPl} (h : zGood q) {b : Bool} {bound w v : Int} (hw : w ≤ v) (hv : zin q b bound v = true) : zin q b bound w = true := by
  unfold zin at *
  cases b
  · have := (zPF_mono h hw (q.1 - 1)).1
    simp only [Bool.false_eq_true, if_false, decide_eq_true_eq] at *
    unfold zhp at *; omega
  · have := (zPF_mono h hw q.1).2
    simp only [if_true, decide_eq_true_eq] at *
    unfold zld at *; omega
def zsr (P : Int → Bool) : Nat → Int
  | 0 => -100001
  | k + 1 => if P (-100000 + k) then -100000 + k else zsr P k
def zIsG (P : Int → Bool) (r : Int) : Prop := -100001 ≤ r ∧ r ≤ 100000 ∧ (-100000 ≤ r → P r = true) ∧ ∀ w, r < w → w ≤ 100000 → -100000 ≤ w → P w = false
theorem zsr_ok (P : Int → Bool) : ∀ k : Nat, -100001 ≤ zsr P k ∧ zsr P k < -100000 + k ∧ (-100000 ≤ zsr P k → P (zsr P k) = true) ∧ ∀ w, zsr P k < w → w < -100000 + k → -100000 ≤ w → P w = false
  | 0 => ⟨Int.le_refl _, by show (-100001 : Int) < _; omega, fun h => absurd h (by show ¬ (-100000 : Int) ≤ -100001; omega), fun w _ h2 h3 => absurd h2 (by omega)⟩
  | k + 1 => by
    obtain ⟨h1, h2, h3, h4⟩ := zsr_ok P k
    unfold zsr
    by_cases h : P (-100000 + k) = true
    · rw [if_pos h]
      exact ⟨by omega, by omega, fun _ => h, fun w h5 h6 _ => absurd h5 (by omega)⟩
    · rw [if_neg h]
      refine ⟨h1, by omega, h3, fun w h5 h6 h7 => ?_⟩
      by_cases hw : w = -100000 + k
      · rw [hw]; simpa using h
      · exact h4 w h5 (by omega) h7
/-- the greatest place within; below all when there is none -/
def zg (q : zPl) (b : Bool) (bound : Int) : Int := zsr (zin q b bound) 200001
theorem zg_is (q : zPl) (b : Bool) (bound : Int) : zIsG (zin q b bound) (zg q b bound) := by
  obtain ⟨h1, h2, h3, h4⟩ := zsr_ok (zin q b bound) 200001
  exact ⟨h1, by unfold zg; omega, h3, fun w h5 h6 h7 => h4 w h5 (by omega) h7⟩
theorem zg_uniq {P : Int → Bool} {r s : Int} (hr : zIsG P r) (hs : zIsG P s) : r = s := by
  obtain ⟨a1, a2, a3, a4⟩ := hr
  obtain ⟨b1, b2, b3, b4⟩ := hs
  rcases Int.lt_trichotomy r s with h | h | h
  · have h1 := a4 s h b2 (by omega)
    rw [b3 (by omega)] at h1; cases h1
  · exact h
  · have h1 := b4 r h a2 (by omega)
    rw [a3 (by omega)] at h1; cases h1
theorem zg_bd (q : zPl) (b : Bool) (bound : Int) : -100001 ≤ zg q b bound ∧ zg q b bound ≤ 100000 := ⟨(zg_is q b bound).1, (zg_is q b bound).2.1⟩
/-- steps that are halved -/
def zp2 (s : Int) : Prop := s = 0 ∨ ∃ j : Nat, j ≤ 17 ∧ s = 2 ^ j
theorem zp2_half {s : Int} (h : zp2 s) (h0 : 0 < s) : zp2 (s.tdiv 2) ∧ 0 ≤ s.tdiv 2 ∧ s.tdiv 2 < s ∧ (s = 1 ∧ s.tdiv 2 = 0 ∨ s = 2 * s.tdiv 2) := by
  rcases h with h | ⟨j, hj, h⟩
  · omega
  · have : j = 0 ∨ j = 1 ∨ j = 2 ∨ j = 3 ∨ j = 4 ∨ j = 5 ∨ j = 6 ∨ j = 7 ∨ j = 8 ∨ j = 9 ∨ j = 10 ∨ j = 11 ∨ j = 12 ∨ j = 13 ∨ j = 14 ∨ j = 15 ∨ j = 16 ∨ j = 17 := by omega
    rcases this with rfl | rfl | rfl | rfl | rfl | rfl | rfl | rfl | rfl | rfl | rfl | rfl | rfl | rfl | rfl | rfl | rfl | rfl
    · subst h; exact ⟨Or.inl (by decide), by decide, by decide, Or.inl (by decide)⟩
    · subst h; exact ⟨Or.inr ⟨0, by omega, by decide⟩, by decide, by decide, Or.inr (by decide)⟩
    · subst h; exact ⟨Or.inr ⟨1, by omega, by decide⟩, by decide, by decide, Or.inr (by decide)⟩
    · subst h; exact ⟨Or.inr ⟨2, by omega, by decide⟩, by decide, by decide, Or.inr (by decide)⟩
    · subst h; exact ⟨Or.inr ⟨3, by omega, by decide⟩, by decide, by decide, Or.inr (by decide)⟩
    · subst h; exact ⟨Or.inr ⟨4, by omega, by decide⟩, by decide, by decide, Or.inr (by decide)⟩
    · subst h; exact ⟨Or.inr ⟨5, by omega, by decide⟩, by decide, by decide, Or.inr (by decide)⟩
    · subst h; exact ⟨Or.inr ⟨6, by omega, by decide⟩, by decide, by decide, Or.inr (by decide)⟩
    · subst h; exact ⟨Or.inr ⟨7, by omega, by decide⟩, by decide, by decide, Or.inr (by decide)⟩
    · subst h; exact ⟨Or.inr ⟨8, by omega, by decide⟩, by decide, by decide, Or.inr (by decide)⟩
    · subst h; exact ⟨Or.inr ⟨9, by omega, by decide⟩, by decide, by decide, Or.inr (by decide)⟩
    · subst h; exact ⟨Or.inr ⟨10, by omega, by decide⟩, by decide, by decide, Or.inr (by decide)⟩
    · subst h; exact ⟨Or.inr ⟨11, by omega, by decide⟩, by decide, by decide, Or.inr (by decide)⟩
    · subst h; exact ⟨Or.inr ⟨12, by omega, by decide⟩, by decide, by decide, Or.inr (by decide)⟩
    · subst h; exact ⟨Or.inr ⟨13, by omega, by decide⟩, by decide, by decide, Or.inr (by decide)⟩
    · subst h; exact ⟨Or.inr ⟨14, by omega, by decide⟩, by decide, by decide, Or.inr (by decide)⟩
    · subst h; exact ⟨Or.inr ⟨15, by omega, by decide⟩, by decide, by decide, Or.inr (by decide)⟩
    · subst h; exact ⟨Or.inr ⟨16, by omega, by decide⟩, by decide, by decide, Or.inr (by decide)⟩
/-- the search by halves: at found, with the next step s, all above found + 2 s (found, if s is 0) is beyond -/
def zSch (P : Int → Bool) (found s : Int) : Prop := -100001 ≤ found ∧ found ≤ 100000 ∧ zp2 s ∧ 0 ≤ s ∧ s ≤ 131072 ∧ (-100000 ≤ found → P found = true) ∧ ∀ w, (found + 2 * s ≤ w ∧ found < w) → w ≤ 100000 → -100000 ≤ w → P w = false
theorem zSch_done {P : Int → Bool} {found : Int} (h : zSch P found 0) : zIsG P found := ⟨h.1, h.2.1, h.2.2.2.2.2.1, fun w h1 h2 h3 => h.2.2.2.2.2.2 w ⟨by omega, h1⟩ h2 h3⟩
theorem zSch_far {P : Int → Bool} {found s : Int} (h : zSch P found s) (h0 : 0 < s) (hf : 100000 < found + s) : zSch P found (s.tdiv 2) := by
  obtain ⟨a, b, c, d⟩ := zp2_half h.2.2.1 h0
  exact ⟨h.1, h.2.1, a, b, by have := h.2.2.2.2.1; omega, h.2.2.2.2.2.1, fun w h1 h2 h3 => absurd h2 (by rcases d with d | d <;> omega)⟩
theorem zSch_yes {P : Int → Bool} {found s : Int} (h : zSch P found s) (h0 : 0 < s) (hf : found + s ≤ 100000) (hp : P (found + s) = true) : zSch P (found + s) (s.tdiv 2) := by
  obtain ⟨a, b, c, d⟩ := zp2_half h.2.2.1 h0
  have := h.1
  exact ⟨by omega, hf, a, b, by have := h.2.2.2.2.1; omega, fun _ => hp, fun w h1 h2 h3 => h.2.2.2.2.2.2 w (by rcases d with d | d <;> omega) h2 h3⟩
theorem zSch_no {P : Int → Bool} {found s : Int} (h : zSch P found s) (h0 : 0 < s) (hm : ∀ w v : Int, w ≤ v → P v = true → P w = true) (hp : P (found + s) = false) : zSch P found (s.tdiv 2) := by
  obtain ⟨a, b, c, d⟩ := zp2_half h.2.2.1 h0
  refine ⟨h.1, h.2.1, a, b, by have := h.2.2.2.2.1; omega, h.2.2.2.2.2.1, fun w h1 h2 h3 => ?_⟩
  cases hw : P w with
  | false => rfl
  | true =>
    have := hm (found + s) w (by rcases d with d | d <;> omega) hw
    rw [hp] at this; cases this
def zqk (q : zPl) : Int := if pts q = 0 then 0 else (1000 * ptm q).tdiv (pts q)
