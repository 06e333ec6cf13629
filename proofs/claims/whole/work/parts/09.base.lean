/-! what the walks lean on -/
theorem zWe {G : zG} {A : Nat → Prop} {H0 H : Heap} {locs : List Loc} {I : List Nat} {ad : Nat → Nat} {ct ct1 : Nat → va_E} (hw : zW G A H0 H locs I ad ct) (h : ct = ct1) : zW G A H0 H locs I ad ct1 := h ▸ hw
theorem zU_zU (ct : Nat → va_E) (k : Nat) (a b : va_E) : zU (zU ct k a) k b = zU ct k b := by
  funext j; unfold zU; split <;> rfl
theorem zU_c {ct : Nat → va_E} {k j : Nat} {a b : va_E} (h : k ≠ j) : zU (zU ct k a) j b = zU (zU ct j b) k a := by
  funext i; unfold zU
  by_cases h1 : i = k
  · by_cases h2 : i = j
    · exact absurd (h1.symm.trans h2) h
    · simp [h1, h]
  · simp [h1]
theorem zU_id {ct : Nat → va_E} {k : Nat} {e : va_E} (h : ct k = e) : zU ct k e = ct := by
  funext j; unfold zU
  by_cases hj : j = k
  · rw [if_pos hj, hj, h]
  · rw [if_neg hj]
theorem zfd_neg {a b : Int} (hb : 1 ≤ b) (ha : a < 0) : a / b = if a.tdiv b * b = a then a.tdiv b else a.tdiv b - 1 := by
  have h1 : a.tdiv b * b + a.tmod b = a := Int.tdiv_mul_add_tmod a b
  have h2 : a.tmod b ≤ 0 := by
    have := Int.tmod_nonneg b (show 0 ≤ -a by omega)
    rw [Int.neg_tmod] at this; omega
  have h3 : -b < a.tmod b := by
    have := Int.tmod_lt_of_pos (-a) (show 0 < b by omega)
    rw [Int.neg_tmod] at this; omega
  split
  · next h =>
    apply Int.le_antisymm
    · rw [← h, Int.mul_ediv_cancel _ (by omega)]; rw [h]; exact Int.le_refl _
    · apply Int.le_ediv_of_mul_le (by omega); omega
  · next h =>
    have h4 : a.tmod b < 0 := by
      rcases Int.lt_or_eq_of_le h2 with h5 | h5
      · exact h5
      · rw [h5] at h1; exact absurd (by omega) h
    have h5 : (a.tdiv b - 1) * b = a.tdiv b * b - b := by rw [Int.sub_mul, Int.one_mul]
    apply Int.le_antisymm
    · have : a / b < a.tdiv b := by
        apply Int.ediv_lt_of_lt_mul (by omega); omega
      omega
    · apply Int.le_ediv_of_mul_le (by omega); omega
theorem zdn_neg {a b : Int} (hb : 1 ≤ b) (ha : a < 0) : -((-a + b - 1).tdiv b) = a / b := by
  rw [Int.tdiv_eq_ediv_of_nonneg (by omega)]
  have h1 := Int.mul_ediv_add_emod a b
  have h2 := Int.emod_nonneg a (show b ≠ 0 by omega)
  have h3 := Int.emod_lt_of_pos a (show 0 < b by omega)
  have h4 : -a + b - 1 = (-(a / b)) * b + (b - 1 - a % b) := by
    rw [Int.neg_mul]
    have : b * (a / b) = a / b * b := Int.mul_comm _ _
    omega
  rw [h4, Int.add_comm, Int.add_mul_ediv_right _ _ (by omega), Int.ediv_eq_zero_of_lt (by omega) (by omega)]
  omega
theorem zxorn {x y : Int32} (hy : 0 < y) : 0 ≤ x ^^^ y ↔ 0 ≤ x := by
  have e : ∀ z : Int32, 0 ≤ z ↔ z.toBitVec.msb = false := fun z => by
    rw [Int32.le_iff_toInt_le]
    have h := BitVec.toInt_eq_msb_cond z.toBitVec
    have hz : z.toInt = z.toBitVec.toInt := rfl
    have hlt := z.toBitVec.isLt
    rw [show (0 : Int32).toInt = 0 from rfl, hz, h]
    cases hm : z.toBitVec.msb <;> simp <;> omega
  have hy0 : y.toBitVec.msb = false := (e y).mp (Int32.le_of_lt hy)
  rw [e, e, Int32.toBitVec_xor, BitVec.msb_xor, hy0]
  simp
section ZX
variable {p : Program} {l : Launch} {e : Env} {R : Room} {s : State} {m : MethodId} {args : Array Value} {below : List Frame} {meth : Method} {c : Code} {H : Heap} {locs : List Loc} {cells slots : Nat} {Q : State → Prop}
variable {cc : ByteArray} {pc : Nat} {ls : Array Slot} {rest : List Value}
theorem z_xorge (hx : p.tables.exec = Jvm.exec) (hb : c.code = cc) {a b : Int} {off : Int} {tgt : Nat} (hd0 : decode cc pc = .ok (.ixor, 1)) (hdg : decode cc (pc + 1) = .ok (.ifCond .ge off, 3)) (ht : ((pc + 1 : Nat) : Int) + off = (tgt : Int)) (ha : zr a) (hb2 : zr b) (hpos : 0 < b)
    (kt : 0 ≤ a → W p l e R s m args below meth c H locs cells slots Q (F0 m tgt ls rest)) (kf : ¬ 0 ≤ a → W p l e R s m args below meth c H locs cells slots Q (F0 m (pc + 4) ls rest)) : W p l e R s m args below meth c H locs cells slots Q (F0 m pc ls (zi b :: zi a :: rest)) := by
  have hp : (0 : Int32) < Int32.ofInt b := (zi_lt zr_0 hb2).mpr hpos
  exact lv_ixor hx hb hd0 (lv_if_ge hx hb hdg ht (fun h => kt ((zi_le zr_0 ha).mp ((zxorn hp).mp h))) (fun h => kf (fun q => h ((zxorn hp).mpr ((zi_le zr_0 ha).mpr q)))))
end ZX
/-- where a pile lies: its object at k, its rows behind it -/
def zPileAt (G : zG) (ad : Nat → Nat) (ct : Nat → va_E) (k : Nat) (q : zPl) : Prop :=
  ct k = .inr (1, [zi (psp q), zi (pma q), zi (pco q), .ref (ad (k + 1)), .ref (ad (k + 2)), .ref (ad (k + 3)), zi (pts q), zi (ptm q), zi (pjo q)]) ∧ ct (k + 1) = zI G q.1 (pst q) ∧ ct (k + 2) = zI G q.1 (pmo q) ∧ ct (k + 3) = zI G q.1 (psk q)
def zMem4 (I : List Nat) (k : Nat) : Prop := k ∈ I ∧ k + 1 ∈ I ∧ k + 2 ∈ I ∧ k + 3 ∈ I
