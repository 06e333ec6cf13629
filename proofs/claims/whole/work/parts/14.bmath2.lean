/-! gathering pushes, step by step -/
def zG1 (q : zPl) (f : Int → Int) (i x : Int) : Int := if x = pn q then -(zcu q f) else if x < i then zab q f x - zsf q f x else if x = i then zab q f x else 0
def zG2 (q : zPl) (f : Int → Int) (i x : Int) : Int := if x = pn q then -(zcu q f) else zab q f x - (if x + 1 < pn q then zsf q f x else 0) - (if x < i then zgb q f x else 0)
theorem zgp1 {q : zPl} (hg : zGood q) (f : Int → Int) {F : Int → Int} (hF : ∀ x : Int, 0 ≤ x → x < (13 : Nat) → F x = 0) : ∀ x : Int, 0 ≤ x → x ≤ pn q → (zup (zup F (pn q) (F (pn q) - zcu q f)) 0 ((zup F (pn q) (F (pn q) - zcu q f)) 0 + zcu q f)) x = zG1 q f 0 x := fun x h0 h1 => by
  have g := hg.1
  have e1 := hF x h0 (by omega)
  have e2 := hF 0 (by omega) (by omega)
  have e3 := hF (pn q) (by omega) (by omega)
  unfold zG1
  by_cases a1 : x = pn q
  · rw [if_pos a1, zup_n _ _ (by omega), a1, zup_s]; omega
  · rw [if_neg a1, if_neg (by omega)]
    by_cases a2 : x = 0
    · rw [if_pos a2, a2, zup_s, zup_n _ _ (by omega)]; unfold zab; rw [if_pos rfl]; omega
    · rw [if_neg a2, zup_n _ _ a2, zup_n _ _ a1]; exact e1
theorem zgp2 {q : zPl} {f h : Int → Int} {i : Int} (hi : 0 ≤ i) (hn : i + 1 < pn q) (hh : ∀ x : Int, 0 ≤ x → x ≤ pn q → h x = zG1 q f i x) : ∀ x : Int, 0 ≤ x → x ≤ pn q → (zup (zup h i (h i - zsf q f i)) (i + 1) ((zup h i (h i - zsf q f i)) (i + 1) + zsf q f i)) x = zG1 q f (i + 1) x := fun x h0 h1 => by
  have e1 := hh x h0 h1
  have e2 := hh (i + 1) (by omega) (by omega)
  have e3 := hh i (by omega) (by omega)
  unfold zG1 at *
  by_cases a1 : x = i + 1
  · rw [a1, zup_s, zup_n _ _ (by omega), if_neg (by omega), if_neg (by omega), if_pos rfl]
    rw [if_neg (by omega), if_neg (by omega), if_neg (by omega)] at e2
    unfold zab; rw [if_neg (by omega), show i + 1 - 1 = i by omega]; omega
  · rw [zup_n _ _ a1]
    by_cases a2 : x = i
    · rw [a2, zup_s, if_neg (by omega), if_pos (by omega)]
      rw [if_neg (by omega), if_neg (by omega), if_pos rfl] at e3
      omega
    · rw [zup_n _ _ a2, e1]
      by_cases a3 : x = pn q
      · rw [if_pos a3, if_pos a3]
      · rw [if_neg a3, if_neg a3]
        by_cases a4 : x < i
        · rw [if_pos a4, if_pos (by omega)]
        · rw [if_neg a4, if_neg a2, if_neg (by omega), if_neg a1]
theorem zgp3 {q : zPl} {f h : Int → Int} {i : Int} (hn : i + 1 = pn q) (hh : ∀ x : Int, 0 ≤ x → x ≤ pn q → h x = zG1 q f i x) : ∀ x : Int, 0 ≤ x → x ≤ pn q → h x = zG2 q f 0 x := fun x h0 h1 => by
  rw [hh x h0 h1]
  unfold zG1 zG2
  by_cases a1 : x = pn q
  · rw [if_pos a1, if_pos a1]
  · rw [if_neg a1, if_neg a1, if_neg (show ¬ x < 0 by omega)]
    by_cases a2 : x < i
    · rw [if_pos a2, if_pos (by omega)]; omega
    · rw [if_neg a2, if_pos (by omega), if_neg (by omega)]; omega
theorem zgp4 {q : zPl} {f h : Int → Int} {i : Int} (hi : 0 ≤ i) (hn : i < pn q) (hh : ∀ x : Int, 0 ≤ x → x ≤ pn q → h x = zG2 q f i x) : ∀ x : Int, 0 ≤ x → x ≤ pn q → (zup h i (h i - zgb q f i)) x = zG2 q f (i + 1) x := fun x h0 h1 => by
  have e1 := hh x h0 h1
  have e2 := hh i hi (by omega)
  unfold zG2 at *
  by_cases a1 : x = i
  · rw [a1, zup_s, if_neg (by omega), if_pos (show i < i + 1 by omega)]
    rw [if_neg (by omega), if_neg (show ¬ i < i by omega)] at e2
    omega
  · rw [zup_n _ _ a1, e1]
    by_cases a3 : x = pn q
    · rw [if_pos a3, if_pos a3]
    · rw [if_neg a3, if_neg a3]
      by_cases a4 : x < i
      · rw [if_pos a4, if_pos (show x < i + 1 by omega)]
      · rw [if_neg a4, if_neg (show ¬ x < i + 1 by omega)]
theorem zgp5 {q : zPl} {f h : Int → Int} {i : Int} (hn : i = pn q) (hh : ∀ x : Int, 0 ≤ x → x ≤ pn q → h x = zG2 q f i x) (g1 : 1 ≤ pn q) : ∀ x : Int, 0 ≤ x → x ≤ pn q → (zup h (pn q - 1) (h (pn q - 1) - ztb q f)) x = zpu q f x := fun x h0 h1 => by
  have e1 := hh x h0 h1
  have e2 := hh (pn q - 1) (by omega) (by omega)
  unfold zG2 at *
  unfold zpu zbe
  by_cases a1 : x = pn q - 1
  · rw [a1, zup_s, if_neg (by omega), if_neg (by omega)]
    rw [if_neg (by omega), if_neg (by omega), if_pos (by omega)] at e2
    omega
  · rw [zup_n _ _ a1, e1]
    by_cases a3 : x = pn q
    · rw [if_pos a3, if_pos a3]
    · rw [if_neg a3, if_neg a3, if_pos (by omega), if_pos (by omega), if_pos (by omega)]; omega
/-- the cells 3 .. 7 of a world -/
def zU5 (ct : Nat → va_E) (a b c d e : va_E) : Nat → va_E := fun j => if j = 3 then a else if j = 4 then b else if j = 5 then c else if j = 6 then d else if j = 7 then e else ct j
theorem zU5_id {ct : Nat → va_E} {a b c d e : va_E} (h3 : ct 3 = a) (h4 : ct 4 = b) (h5 : ct 5 = c) (h6 : ct 6 = d) (h7 : ct 7 = e) : zU5 ct a b c d e = ct := by
  funext j; unfold zU5
  by_cases e3 : j = 3
  · rw [if_pos e3, e3, h3]
  by_cases e4 : j = 4
  · rw [if_neg e3, if_pos e4, e4, h4]
  by_cases e5 : j = 5
  · rw [if_neg e3, if_neg e4, if_pos e5, e5, h5]
  by_cases e6 : j = 6
  · rw [if_neg e3, if_neg e4, if_neg e5, if_pos e6, e6, h6]
  by_cases e7 : j = 7
  · rw [if_neg e3, if_neg e4, if_neg e5, if_neg e6, if_pos e7, e7, h7]
  rw [if_neg e3, if_neg e4, if_neg e5, if_neg e6, if_neg e7]
theorem zU5_p3 (ct : Nat → va_E) (a b c d e x : va_E) : zU (zU5 ct a b c d e) 3 x = zU5 ct x b c d e := by
  funext j; unfold zU zU5; by_cases h : j = 3 <;> simp [h]
theorem zU5_p4 (ct : Nat → va_E) (a b c d e x : va_E) : zU (zU5 ct a b c d e) 4 x = zU5 ct a x c d e := by
  funext j; unfold zU zU5; by_cases h : j = 4 <;> simp [h]
theorem zU5_p5 (ct : Nat → va_E) (a b c d e x : va_E) : zU (zU5 ct a b c d e) 5 x = zU5 ct a b x d e := by
  funext j; unfold zU zU5; by_cases h : j = 5 <;> simp [h]
theorem zU5_p6 (ct : Nat → va_E) (a b c d e x : va_E) : zU (zU5 ct a b c d e) 6 x = zU5 ct a b c x e := by
  funext j; unfold zU zU5; by_cases h : j = 6 <;> simp [h]
theorem zU5_p7 (ct : Nat → va_E) (a b c d e x : va_E) : zU (zU5 ct a b c d e) 7 x = zU5 ct a b c d x := by
  funext j; unfold zU zU5; by_cases h : j = 7 <;> simp [h]
theorem zU5_n {ct : Nat → va_E} {a b c d e x : va_E} {j : Nat} (h : j < 3 ∨ 7 < j) (hx : ct j = x) : zU5 ct a b c d e j = x := by
  unfold zU5; rw [if_neg (by omega), if_neg (by omega), if_neg (by omega), if_neg (by omega), if_neg (by omega), hx]
/-- a move's numbers -/
theorem zmv {q : zPl} {hm mm i : Int} {f g h g2 : Int → Int} (hh : h i = zpu q f i) (hg : g2 i = g i) (hmm : mm = zms q hm i) : zcl (g2 i + (1000 * h i).tdiv mm) (-1000000000) 1000000000 = znv q hm f g i := by
  unfold znv; rw [hh, hg, hmm]
def zmid (f f2 w : Int → Int) (n i : Int) : Prop := ∀ x : Int, 0 ≤ x → x ≤ n → f2 x = if x < i then w x else f x
theorem zmid_0 (f w : Int → Int) (n : Int) : zmid f f w n 0 := fun x h0 _ => (if_neg (by omega)).symm
theorem zmid_s {f f2 w : Int → Int} {n i v : Int} (h : zmid f f2 w n i) (hv : v = w i) : zmid f (zup f2 i v) w n (i + 1) := fun x h0 h1 => by
  by_cases a : x = i
  · rw [a, zup_s, if_pos (by omega), hv]
  · rw [zup_n _ _ a, h x h0 h1]
    by_cases b : x < i
    · rw [if_pos b, if_pos (by omega)]
    · rw [if_neg b, if_neg (by omega)]
theorem zmid_at {f f2 w : Int → Int} {n i : Int} (h : zmid f f2 w n i) (h0 : 0 ≤ i) (h1 : i ≤ n) : f2 i = f i := by rw [h i h0 h1, if_neg (by omega)]
theorem zmid_e {f f2 w : Int → Int} {n i : Int} (h : zmid f f2 w n i) (hi : n < i) : ∀ x : Int, 0 ≤ x → x ≤ n → f2 x = w x := fun x h0 h1 => by rw [h x h0 h1, if_pos (by omega)]
def zwv (q : zPl) (hm v : Int) (K : Nat) (wv : Int → Int) : Prop := ∀ r : Nat, r < K → ∀ i : Int, 0 ≤ i → i ≤ pn q → wv (13 * r + i) = (zro q hm v (r + 1)).1 i
theorem zwv_s {q : zPl} (hg : zGood q) {hm v : Int} {K : Nat} {wv f : Int → Int} (h : zwv q hm v K wv) (hf : zEq q f (zro q hm v (K + 1)).1) {d : Int} (hd : d = 13 * K) : zwv q hm v (K + 1) (zcpy f wv d 13) := fun r hr i h0 h1 => by
  have g := hg.1
  unfold zcpy
  by_cases a : r = K
  · rw [if_pos (by omega), show 13 * (r : Int) + i - d = i by omega, a]; exact hf i h0 h1
  · rw [if_neg (by omega)]; exact h r (by omega) i h0 h1
