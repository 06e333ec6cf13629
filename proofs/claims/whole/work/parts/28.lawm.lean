/-! the law's world -/
theorem zst_off {l : Launch} (h : l.flags = flags0) : l.stackTraces = false := by
  unfold Launch.stackTraces
  rw [h]
  decide
set_option maxHeartbeats 4000000 in
theorem z_world {args : Array Value} {s : State} (hts : ∀ w ∈ lw_tbl, w.before args s = true) (hgv : (Jvm.Cond.and given_1 narrow_1).before args s = true) : ∃ G : zG, zK G (fun q : Nat => s.heap.size ≤ q) s s.heap ∧ va_AO "PileMoves$Pile" s := by
  have hfl := flat_of_before _ hgv
  obtain ⟨c0, i0, k0⟩ := u_known (C := RX0) (T := TX0) (N := 6) (n := 6) hts inX0 (hts (.instantiable RX0 6) (by decide +kernel))
  obtain ⟨c1, i1, k1⟩ := u_known (C := RX1) (T := TX1) (N := 9) (n := 9) hts inX1 (hts (.instantiable RX1 9) (by decide +kernel))
  obtain ⟨c2, i2, k2⟩ := u_known (C := RX2) (T := TX2) (N := 4) (n := 4) hts inX2 (hts (.instantiable RX2 4) (by decide +kernel))
  obtain ⟨c3, i3, k3⟩ := u_known (C := RX3) (T := TX3) (N := 4) (n := 4) hts inX3 (hts (.instantiable RX3 4) (by decide +kernel))
  obtain ⟨c4, i4, k4⟩ := u_known (C := RX4) (T := TX4) (N := 19) (n := 19) hts inX4 (hts (.instantiable RX4 19) (by decide +kernel))
  obtain ⟨dC, dI, hKc⟩ : ∃ (dC : Nat → ClassId) (dI : Nat → Nat → Nat), ∀ (k : Nat) (q : vw_C), vwCl[k]? = some q → u_Kn s q.1 q.2.1 q.2.2 (dC k) (dI k) := by
    refine ⟨fun k => if k = 0 then c0 else if k = 1 then c1 else if k = 2 then c2 else if k = 3 then c3 else c4, fun k => if k = 0 then i0 else if k = 1 then i1 else if k = 2 then i2 else if k = 3 then i3 else i4, ?_⟩
    intro k q hq
    match k, hq with
    | 0, hq => cases hq; exact k0
    | 1, hq => cases hq; exact k1
    | 2, hq => cases hq; exact k2
    | 3, hq => cases hq; exact k3
    | 4, hq => cases hq; exact k4
    | k + 5, hq => simp [vwCl] at hq
  obtain ⟨aI, kI, mI, e1, e2, e3⟩ := Cond.arrayClass_spec (hts (.arrayClass .int) (by decide +kernel))
  obtain ⟨aL, kL, mL, e4, e5, e6⟩ := Cond.arrayClass_spec (hts (.arrayClass .long) (by decide +kernel))
  obtain ⟨aZ, kZ, mZ, e7, e8, e9⟩ := Cond.arrayClass_spec (hts (.arrayClass .boolean) (by decide +kernel))
  have hao := hts (.arrayOver (.object "PileMoves$Pile")) (by decide +kernel)
  obtain ⟨mP, aP, kP, e10, e11, e12, e13, e14⟩ := Cond.arrayOver_spec hao
  obtain ⟨_, _, _, t0, _, _, _, _, _, v0⟩ := Cond.stringRef_spec k3.2.1 (hts (.stringRef RX3 138 "a number is out of its bounds") (by decide +kernel))
  obtain ⟨_, _, _, t1, _, _, _, _, _, v1⟩ := Cond.stringRef_spec k3.2.1 (hts (.stringRef RX3 40 "there are as many piles as there may be") (by decide +kernel))
  obtain ⟨_, _, _, t2, _, _, _, _, _, v2⟩ := Cond.stringRef_spec k3.2.1 (hts (.stringRef RX3 144 "there is no such pile") (by decide +kernel))
  obtain ⟨_, _, _, t3, _, _, _, _, _, v3⟩ := Cond.stringRef_spec k3.2.1 (hts (.stringRef RX3 146 "the group is empty") (by decide +kernel))
  obtain ⟨_, _, _, t4, _, _, _, _, _, v4⟩ := Cond.stringRef_spec k3.2.1 (hts (.stringRef RX3 114 "the pile is not in the group") (by decide +kernel))
  obtain ⟨_, _, _, t5, _, _, _, _, _, v5⟩ := Cond.stringRef_spec k3.2.1 (hts (.stringRef RX3 129 "there was no blow") (by decide +kernel))
  have hA : ∀ a : Nat, a < s.heap.size → ¬ (fun q : Nat => s.heap.size ≤ q) a := fun a h => Nat.not_le.mpr h
  refine ⟨((dC, dI), (aI, aL, aZ, aP), fun j => if j = 0 then t0 else if j = 1 then t1 else if j = 2 then t2 else if j = 3 then t3 else if j = 4 then t4 else t5), ⟨⟨hKc, fun k q hq => ?_⟩, ?_, ?_, ?_⟩, hao⟩
  · match k, hq with
    | 0, hq => cases hq; exact ⟨fun n z => ⟨fun k h => (by cases h), kI, e2, mI, e3⟩, e1⟩
    | 1, hq => cases hq; exact ⟨fun n z => ⟨fun k h => (by cases h), kL, e5, mL, e6⟩, e4⟩
    | 2, hq => cases hq; exact ⟨fun n z => ⟨fun k h => (by cases h), kZ, e8, mZ, e9⟩, e7⟩
    | 3, hq => cases hq; exact ⟨fun n z => ⟨fun k h => (by cases h), kP, e12, mP, e13⟩, kP, mP, e12, e13, e10, e14⟩
    | k + 4, hq => simp [zty] at hq
  · refine ⟨⟨va_Nw.of rfl (hts _ (by decide +kernel)), va_Nw.of rfl (hts _ (by decide +kernel)), va_Nw.of rfl (hts _ (by decide +kernel))⟩, va_Nw.of rfl (hts _ (by decide +kernel)), va_Nw.of rfl (hts _ (by decide +kernel)), va_Nw.of rfl (hts _ (by decide +kernel)), va_Nw.of rfl (hts _ (by decide +kernel)), va_Nw.of rfl (hts _ (by decide +kernel)), va_Nc.of (hfl _ (by decide +kernel)), va_Nc.of (hfl _ (by decide +kernel)), vk_R.of (hts _ (by decide +kernel)) v0, vk_R.of (hts _ (by decide +kernel)) v1, vk_R.of (hts _ (by decide +kernel)) v2, vk_R.of (hts _ (by decide +kernel)) v3, vk_R.of (hts _ (by decide +kernel)) v4, vk_R.of (hts _ (by decide +kernel)) v5⟩
  · exact vx_Zqof (hts (.laysStatic Bundle.tN "UNASSIGNED_STACK" Bundle.steD) (by decide +kernel)) (hts (.initialized Bundle.tN) (by decide +kernel)) (hfl (.isRef (.static Bundle.tN "UNASSIGNED_STACK" Bundle.steD)) (by decide +kernel)) hA
  · exact vx_Zqof (hts (.laysStatic Bundle.tN "SUPPRESSED_SENTINEL" Bundle.listD) (by decide +kernel)) (hts (.initialized Bundle.tN) (by decide +kernel)) (hfl (.isRef (.static Bundle.tN "SUPPRESSED_SENTINEL" Bundle.listD)) (by decide +kernel)) hA
/-- between two steps of the script: the class and the model say the same -/
def zLI (G : zG) (I : List Nat) (ad : Nat → Nat) (ct : Nat → va_E) (n : Nat) (σ : Nat → zPl) (b0 bl : Int) (wv Fwv Fmn Fsp Fms Fco Fst Fmo Fsk Fts Ftm Fjn : Int → Int) : Prop :=
  n ≤ 6 ∧ (∀ j : Nat, j ≤ 25 → j ∈ I) ∧ (∀ j ∈ I, j < 40 + 4 * n) ∧ (∀ p : Nat, p < n → zMem4 I (40 + 4 * p)) ∧ (∀ p : Nat, p < n → zGood (σ p)) ∧ zMrel n σ Fmn Fsp Fms Fco Fst Fmo Fsk Fts Ftm Fjn ∧
  (∀ j : Int, 12 * (n : Int) ≤ j → Fst j = 0 ∧ Fmo j = 0 ∧ Fsk j = 0) ∧ (∀ j : Int, (n : Int) ≤ j → Fts j = 0 ∧ Ftm j = 0 ∧ Fjn j = 0) ∧
  ((b0 = 0 ∧ bl = -1000000) ∨ (0 < b0 ∧ 0 ≤ bl ∧ bl < n ∧ b0 = pn (σ bl.toNat) ∧ ∀ r i : Int, 0 ≤ r → r ≤ 199 → 0 ≤ i → i ≤ b0 → wv (13 * r + i) = Fwv (13 * r + i) ∧ -200000000 ≤ Fwv (13 * r + i) ∧ Fwv (13 * r + i) ≤ 200000000)) ∧
  ct 0 = .inr (3, [.ref (ad 1), .ref (ad 2), .ref (ad 3), zi n]) ∧ ct 1 = zP G 6 (zpf ad n) ∧ (∀ p : Nat, p < n → zPileAt G ad ct (40 + 4 * p) (σ p)) ∧
  (∃ w p0 f0 a0 : Int, ct 2 = .inr (2, [zi w, zi p0, zi f0, zi a0])) ∧
  (∃ (b1 : Int) (f g h : Int → Int), ct 3 = .inr (0, [zi b0, zi b1, .ref (ad 4), .ref (ad 5), .ref (ad 6), .ref (ad 7)]) ∧ ct 4 = zI G 13 f ∧ ct 5 = zI G 13 g ∧ ct 6 = zL G 13 h ∧ ct 7 = zI G 2600 wv) ∧
  (∃ cd : Int, zMst G ad ct n cd bl Fmn Fsp Fms Fco Fst Fmo Fsk Fts Ftm Fjn) ∧ (∃ Fpl Fgr Fab : Int → Int, zMsc G ct Fpl Fgr Fab) ∧ (∃ Fat Fsd : Int → Int, zMbl G ct Fwv Fat Fsd) ∧ ∃ Fo : Int → Int, ct 25 = zL G 1 Fo
theorem zPileAt_c {G : zG} {ad : Nat → Nat} {ct ct' : Nat → va_E} {k : Nat} {q : zPl} (h : zPileAt G ad ct k q) (hag : ∀ j : Nat, k ≤ j → j < k + 4 → ct' j = ct j) : zPileAt G ad ct' k q := by
  obtain ⟨h0, h1, h2, h3⟩ := h
  exact ⟨(hag k (by omega) (by omega)).trans h0, (hag (k + 1) (by omega) (by omega)).trans h1, (hag (k + 2) (by omega) (by omega)).trans h2, (hag (k + 3) (by omega) (by omega)).trans h3⟩
theorem zMst_c {G : zG} {ad : Nat → Nat} {ct ct' : Nat → va_E} {n : Nat} {cd cd' bl bl' : Int} {Fmn Fsp Fms Fco Fst Fmo Fsk Fts Ftm Fjn : Int → Int} (h : zMst G ad ct n cd bl Fmn Fsp Fms Fco Fst Fmo Fsk Fts Ftm Fjn) (h8 : ct' 8 = zmo ad n cd' bl') (hag : ∀ j : Nat, 9 ≤ j → j ≤ 18 → ct' j = ct j) : zMst G ad ct' n cd' bl' Fmn Fsp Fms Fco Fst Fmo Fsk Fts Ftm Fjn := by
  obtain ⟨-, h9, h10, h11, h12, h13, h14, h15, h16, h17, h18⟩ := h
  exact ⟨h8, (hag 9 (by decide) (by decide)).trans h9, (hag 10 (by decide) (by decide)).trans h10, (hag 11 (by decide) (by decide)).trans h11, (hag 12 (by decide) (by decide)).trans h12, (hag 13 (by decide) (by decide)).trans h13, (hag 14 (by decide) (by decide)).trans h14, (hag 15 (by decide) (by decide)).trans h15, (hag 16 (by decide) (by decide)).trans h16, (hag 17 (by decide) (by decide)).trans h17, (hag 18 (by decide) (by decide)).trans h18⟩
section ZLI
variable {G : zG} {I : List Nat} {ad : Nat → Nat} {ct ct' : Nat → va_E} {n : Nat} {σ : Nat → zPl} {b0 bl : Int} {wv Fwv Fmn Fsp Fms Fco Fst Fmo Fsk Fts Ftm Fjn : Int → Int}
/-- a step that asks -/
theorem zLI_q (h : zLI G I ad ct n σ b0 bl wv Fwv Fmn Fsp Fms Fco Fst Fmo Fsk Fts Ftm Fjn) (hag : ∀ j : Nat, j ≠ 2 → j ≠ 8 → j ≠ 19 → j ≠ 20 → j ≠ 21 → j ≠ 25 → ct' j = ct j) (h2 : ∃ w p0 f0 a0 : Int, ct' 2 = .inr (2, [zi w, zi p0, zi f0, zi a0])) (h8 : ∃ cd : Int, ct' 8 = zmo ad n cd bl) (hsc : ∃ Fpl Fgr Fab : Int → Int, zMsc G ct' Fpl Fgr Fab) (ho : ∃ Fo : Int → Int, ct' 25 = zL G 1 Fo) : zLI G I ad ct' n σ b0 bl wv Fwv Fmn Fsp Fms Fco Fst Fmo Fsk Fts Ftm Fjn := by
  obtain ⟨k1, k2, k3, k4, k5, k6, k7, k8, k9, k10, k11, k12, k13, ⟨b1, f, g, h9, q3, q4, q5, q6, q7⟩, ⟨cd, k15⟩, k16, ⟨Fat, Fsd, q22, q23, q24⟩, k18⟩ := h
  obtain ⟨cd2, h8⟩ := h8
  have e : ∀ j : Nat, (j < 2 ∨ (2 < j ∧ j < 8) ∨ (8 < j ∧ j < 19) ∨ (21 < j ∧ j < 25) ∨ 25 < j) → ct' j = ct j := fun j hj => hag j (by omega) (by omega) (by omega) (by omega) (by omega) (by omega)
  exact ⟨k1, k2, k3, k4, k5, k6, k7, k8, k9, (e 0 (by decide)).trans k10, (e 1 (by decide)).trans k11, fun p hp => zPileAt_c (k12 p hp) (fun j hj1 hj2 => e j (by omega)), h2, ⟨b1, f, g, h9, (e 3 (by decide)).trans q3, (e 4 (by decide)).trans q4, (e 5 (by decide)).trans q5, (e 6 (by decide)).trans q6, (e 7 (by decide)).trans q7⟩, ⟨cd2, zMst_c k15 h8 (fun j hj1 hj2 => e j (by omega))⟩, hsc, ⟨Fat, Fsd, (e 22 (by decide)).trans q22, (e 23 (by decide)).trans q23, (e 24 (by decide)).trans q24⟩, ho⟩
def zsg (σ : Nat → zPl) (k : Nat) (q : zPl) : Nat → zPl := fun p => if p = k then q else σ p
theorem zsg_s (σ : Nat → zPl) (k : Nat) (q : zPl) : zsg σ k q k = q := if_pos rfl
theorem zsg_n (σ : Nat → zPl) {k p : Nat} (q : zPl) (h : p ≠ k) : zsg σ k q p = σ p := if_neg h
/-- a step that changes a pile's numbers -/
theorem zLI_upd {Fst' Fmo' Fsk' Fts' Ftm' Fjn' : Int → Int} {cd : Int} (h : zLI G I ad ct n σ b0 bl wv Fwv Fmn Fsp Fms Fco Fst Fmo Fsk Fts Ftm Fjn) {k : Nat} (_hk : k < n) {q : zPl} (hq : pn q = pn (σ k)) (hg : zGood q) (hR : zMrel n (zsg σ k q) Fmn Fsp Fms Fco Fst' Fmo' Fsk' Fts' Ftm' Fjn')
    (hz1 : ∀ j : Int, 12 * (n : Int) ≤ j → Fst' j = 0 ∧ Fmo' j = 0 ∧ Fsk' j = 0) (hz2 : ∀ j : Int, (n : Int) ≤ j → Fts' j = 0 ∧ Ftm' j = 0 ∧ Fjn' j = 0) (hM : zMst G ad ct' n cd bl Fmn Fsp Fms Fco Fst' Fmo' Fsk' Fts' Ftm' Fjn') (hp : zPileAt G ad ct' (40 + 4 * k) q)
    (hag : ∀ j : Nat, (j < 8 ∨ (18 < j ∧ j < 25) ∨ (25 < j ∧ j < 40 + 4 * k) ∨ 44 + 4 * k ≤ j) → ct' j = ct j) (ho : ∃ Fo : Int → Int, ct' 25 = zL G 1 Fo) : zLI G I ad ct' n (zsg σ k q) b0 bl wv Fwv Fmn Fsp Fms Fco Fst' Fmo' Fsk' Fts' Ftm' Fjn' := by
  obtain ⟨k1, k2, k3, k4, k5, k6, k7, k8, k9, k10, k11, k12, ⟨w, p0, f0, a0, q2⟩, ⟨b1, f, g, h9, q3, q4, q5, q6, q7⟩, k15, ⟨Fpl, Fgr, Fab, q19, q20, q21⟩, ⟨Fat, Fsd, q22, q23, q24⟩, k18⟩ := h
  refine ⟨k1, k2, k3, k4, fun p hp => ?_, hR, hz1, hz2, ?_, (hag 0 (by omega)).trans k10, (hag 1 (by omega)).trans k11, fun p hp2 => ?_, ⟨w, p0, f0, a0, (hag 2 (by omega)).trans q2⟩, ⟨b1, f, g, h9, (hag 3 (by omega)).trans q3, (hag 4 (by omega)).trans q4, (hag 5 (by omega)).trans q5, (hag 6 (by omega)).trans q6, (hag 7 (by omega)).trans q7⟩, ⟨cd, hM⟩, ⟨Fpl, Fgr, Fab, (hag 19 (by omega)).trans q19, (hag 20 (by omega)).trans q20, (hag 21 (by omega)).trans q21⟩, ⟨Fat, Fsd, (hag 22 (by omega)).trans q22, (hag 23 (by omega)).trans q23, (hag 24 (by omega)).trans q24⟩, ho⟩
  · by_cases e : p = k
    · rw [e, zsg_s]; exact hg
    · rw [zsg_n _ _ e]; exact k5 p hp
  · rcases k9 with h1 | ⟨h1, h2, h3, h4, h5⟩
    · exact Or.inl h1
    · refine Or.inr ⟨h1, h2, h3, ?_, h5⟩
      by_cases e : bl.toNat = k
      · rw [e, zsg_s, hq, ← e]; exact h4
      · rw [zsg_n _ _ e]; exact h4
  · by_cases e : p = k
    · rw [e, zsg_s]; exact hp
    · rw [zsg_n _ _ e]; exact zPileAt_c (k12 p hp2) (fun j hj1 hj2 => hag j (by omega))
end ZLI
