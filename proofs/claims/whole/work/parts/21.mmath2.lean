/-! the model's blow, round by round -/
theorem zmh (x : Int) : (-1000) * x = 1000 * (-x) := by omega
/-- a round's speeds, half way: the pieces below i, and the hammer -/
def zmw (f f2 w : Int → Int) (n i : Int) : Prop := ∀ x : Int, 0 ≤ x → x ≤ n → f2 x = if x < i ∨ x = n then w x else f x
theorem zmw_0 {f w : Int → Int} {n v : Int} (hv : v = w n) : zmw f (zup f n v) w n 0 := fun x h0 h1 => by
  by_cases a : x = n
  · rw [a, zup_s, if_pos (Or.inr rfl), hv]
  · rw [zup_n _ _ a, if_neg (by omega)]
theorem zmw_s {f f2 w : Int → Int} {n i v : Int} (h : zmw f f2 w n i) (hv : v = w i) : zmw f (zup f2 i v) w n (i + 1) := fun x h0 h1 => by
  by_cases a : x = i
  · rw [a, zup_s, if_pos (Or.inl (by omega)), hv]
  · rw [zup_n _ _ a, h x h0 h1]
    by_cases b : x < i ∨ x = n
    · rw [if_pos b, if_pos (by omega)]
    · rw [if_neg b, if_neg (by omega)]
theorem zmw_at {f f2 w : Int → Int} {n i : Int} (h : zmw f f2 w n i) (h0 : 0 ≤ i) (h1 : i < n) : f2 i = f i := by rw [h i h0 (by omega), if_neg (by omega)]
theorem zmw_e {f f2 w : Int → Int} {n i : Int} (h : zmw f f2 w n i) (hi : n ≤ i) : ∀ x : Int, 0 ≤ x → x ≤ n → f2 x = w x := fun x h0 h1 => by rw [h x h0 h1, if_pos (by omega)]
theorem zpu_in {q : zPl} {f : Int → Int} {i pr : Int} (h1 : i < pn q) (hpr : pr = zab q f i) : pr - zgb q f i - zbe q f i = zpu q f i := by
  unfold zpu; rw [if_neg (by omega), hpr]
theorem zab_s {q : zPl} {f : Int → Int} {i : Int} (h0 : 0 ≤ i) (h1 : i + 1 < pn q) : zbe q f i = zab q f (i + 1) := by
  unfold zbe zab; rw [if_pos h1, if_neg (by omega), show i + 1 - 1 = i by omega]
/-- the rows of waves up to the row d, and the places of the row d below i -/
def zwr (wv wv2 w : Int → Int) (d i : Int) : Prop := (∀ j : Int, j < d → wv2 j = wv j) ∧ ∀ x : Int, 0 ≤ x → x < i → wv2 (d + x) = w x
theorem zwr_0 (wv w : Int → Int) (d : Int) : zwr wv wv w d 0 := ⟨fun _ _ => rfl, fun x h0 h1 => absurd h1 (by omega)⟩
theorem zwr_s {wv wv2 w : Int → Int} {d i j v : Int} (h : zwr wv wv2 w d i) (h0 : 0 ≤ i) (hj : j = d + i) (hv : v = w i) : zwr wv (zup wv2 j v) w d (i + 1) := by
  refine ⟨fun k hk => ?_, fun x hx0 hx1 => ?_⟩
  · rw [zup_n _ _ (by omega)]; exact h.1 k hk
  · by_cases a : x = i
    · rw [a, ← hj, zup_s, hv]
    · rw [zup_n _ _ (by omega)]; exact h.2 x hx0 (by omega)
theorem zwv_m {q : zPl} {hm v : Int} {K : Nat} {wv wv2 w : Int → Int} {d : Int} (h : zwv q hm v K wv) (hd : d = 13 * K) (hg : zGood q) (h2 : zwr wv wv2 w d (pn q + 1)) (hw : ∀ x : Int, 0 ≤ x → x ≤ pn q → w x = (zro q hm v (K + 1)).1 x) : zwv q hm v (K + 1) wv2 := fun r hr i h0 h1 => by
  have g := hg.1
  by_cases a : r = K
  · rw [a, ← hd, h2.2 i h0 (by omega)]; exact hw i h0 h1
  · rw [h2.1 _ (by omega)]; exact h r (by omega) i h0 h1
theorem zhv (q : zPl) (hm : Int) (f g : Int → Int) : zcl (g (pn q) + ((-1000) * zcu q f).tdiv hm) (-1000000000) 1000000000 = znv q hm f g (pn q) := by
  unfold znv zpu zms; rw [if_pos rfl, if_pos rfl, zmh]
theorem zhv2 {q : zPl} (hm : Int) {f : Int → Int} (g : Int → Int) {i pr : Int} (h1 : i < pn q) (hpr : pr = zab q f i) : zcl (g i + (1000 * (pr - zgb q f i - zbe q f i)).tdiv (pma q)) (-1000000000) 1000000000 = znv q hm f g i := by
  unfold znv zms; rw [zpu_in h1 hpr, if_neg (by omega)]
theorem zbe_bd {q : zPl} (hg : zGood q) {f : Int → Int} (h : zB q f) {i : Int} (h0 : 0 ≤ i) (h1 : i < pn q) : -4000000000 ≤ zbe q f i ∧ zbe q f i ≤ 4000000000 := by
  unfold zbe
  split
  · exact (zsf_bd hg h h0 (by omega)).2
  · have := ztb_bd hg f; omega
