/-! what the script's steps change -/
theorem zup_all {P : Int → Prop} {f : Int → Int} {k v : Int} (h : ∀ i, P (f i)) (hv : P v) : ∀ i, P (zup f k v i) := fun i => by
  by_cases e : i = k
  · rw [e, zup_s]; exact hv
  · rw [zup_n _ _ e]; exact h i
theorem zup_o {F : Int → Int} {k p : Nat} {i a v : Int} (hne : p ≠ k) (h0 : 0 ≤ i) (h1 : i < 12) (h2 : 0 ≤ a) (h3 : a < 12) : zup F (12 * (k : Int) + a) v (12 * (p : Int) + i) = F (12 * (p : Int) + i) := zup_n _ _ (by omega)
theorem zup_k {F f : Int → Int} {k : Nat} {i a v : Int} (h : F (12 * (k : Int) + i) = f i) : zup F (12 * (k : Int) + a) v (12 * (k : Int) + i) = zup f a v i := by
  by_cases e : i = a
  · rw [e, zup_s, zup_s]
  · rw [zup_n _ _ e, zup_n _ _ (by omega)]; exact h
section ZLU
variable {G : zG} {I : List Nat} {ad : Nat → Nat} {ct ct' : Nat → va_E} {n : Nat} {σ : Nat → zPl} {b0 bl : Int} {wv Fwv Fmn Fsp Fms Fco Fst Fmo Fsk Fts Ftm Fjn : Int → Int}
theorem zR_upd {Fst' Fmo' Fsk' Fts' Ftm' Fjn' : Int → Int} (hR : zMrel n σ Fmn Fsp Fms Fco Fst Fmo Fsk Fts Ftm Fjn) (hgs : ∀ p : Nat, p < n → zGood (σ p)) {k : Nat} {q : zPl}
    (hk : Fmn k = pn q ∧ Fsp k = psp q ∧ Fms k = pma q ∧ Fco k = pco q ∧ Fts' k = pts q ∧ Ftm' k = ptm q ∧ Fjn' k = pjo q ∧ ∀ i : Int, 0 ≤ i → i < pn q → Fst' (12 * (k : Int) + i) = pst q i ∧ Fmo' (12 * (k : Int) + i) = pmo q i ∧ Fsk' (12 * (k : Int) + i) = psk q i)
    (ho : ∀ p : Nat, p ≠ k → Fts' p = Fts p ∧ Ftm' p = Ftm p ∧ Fjn' p = Fjn p ∧ ∀ i : Int, 0 ≤ i → i < 12 → Fst' (12 * (p : Int) + i) = Fst (12 * (p : Int) + i) ∧ Fmo' (12 * (p : Int) + i) = Fmo (12 * (p : Int) + i) ∧ Fsk' (12 * (p : Int) + i) = Fsk (12 * (p : Int) + i)) : zMrel n (zsg σ k q) Fmn Fsp Fms Fco Fst' Fmo' Fsk' Fts' Ftm' Fjn' := fun p hp => by
  by_cases e : p = k
  · rw [e, zsg_s]; exact hk
  · rw [zsg_n _ _ e]
    obtain ⟨r1, r2, r3, r4, r5, r6, r7, r8⟩ := hR p hp
    obtain ⟨o1, o2, o3, o4⟩ := ho p e
    have g := (hgs p hp).1
    refine ⟨r1, r2, r3, r4, o1.trans r5, o2.trans r6, o3.trans r7, fun i h0 h1 => ?_⟩
    obtain ⟨s1, s2, s3⟩ := r8 i h0 h1
    obtain ⟨u1, u2, u3⟩ := o4 i h0 (by omega)
    exact ⟨u1.trans s1, u2.trans s2, u3.trans s3⟩
def zqg (q : zPl) (a2 a3 a4 : Int) : zPl := (q.1, q.2.1, zup (pst q) a2 a3, zup (pmo q) a2 a4, psk q)
def zqs (q : zPl) (a2 a3 : Int) : zPl := (q.1, q.2.1, pst q, pmo q, zup (psk q) a2 a3)
def zqt (q : zPl) (a2 a3 : Int) : zPl := (q.1, (fun j => match j with | 3 => a2 | 4 => a3 | j => q.2.1 j), pst q, pmo q, psk q)
def zqj (q : zPl) (bi : Int) : zPl := (q.1, (fun j => match j with | 5 => bi | j => q.2.1 j), pst q, pmo q, psk q)
theorem zLI_ground {a1 a2 a3 a4 cd : Int} {k : Nat} (h : zLI G I ad ct n σ b0 bl wv Fwv Fmn Fsp Fms Fco Fst Fmo Fsk Fts Ftm Fjn) (ha : a1 = k) (hk : k < n) (h2 : 0 ≤ a2 ∧ a2 < pn (σ k)) (h3 : 0 ≤ a3 ∧ a3 ≤ 1000) (h4 : 0 ≤ a4 ∧ a4 ≤ 100000)
    (hM : zMst G ad ct' n cd bl Fmn Fsp Fms Fco (zup Fst (12 * a1 + a2) a3) (zup Fmo (12 * a1 + a2) a4) Fsk Fts Ftm Fjn) (hp1 : ct' (40 + 4 * k + 1) = zI G (σ k).1 (zup (pst (σ k)) a2 a3)) (hp2 : ct' (40 + 4 * k + 2) = zI G (σ k).1 (zup (pmo (σ k)) a2 a4))
    (hag : ∀ j : Nat, (j < 8 ∨ (18 < j ∧ j < 25) ∨ (25 < j ∧ j < 40 + 4 * k + 1) ∨ 40 + 4 * k + 2 < j) → ct' j = ct j) (ho : ∃ Fo : Int → Int, ct' 25 = zL G 1 Fo) : zLI G I ad ct' n (zsg σ k (zqg (σ k) a2 a3 a4)) b0 bl wv Fwv Fmn Fsp Fms Fco (zup Fst (12 * a1 + a2) a3) (zup Fmo (12 * a1 + a2) a4) Fsk Fts Ftm Fjn := by
  obtain ⟨k1, k2, k3, k4, k5, k6, k7, k8, k9, k10, k11, k12, k13⟩ := id h
  obtain ⟨g1, g2, g3, g4, g5, g6, g7, g8, g9, g10⟩ := k5 k hk
  obtain ⟨r1, r2, r3, r4, r5, r6, r7, r8⟩ := k6 k hk
  obtain ⟨q0, q1, q2, q3⟩ := k12 k hk
  subst ha
  refine zLI_upd h hk rfl ⟨g1, g2, g3, g4, g5, g6, g7, zup_all (P := fun z => 0 ≤ z ∧ z ≤ 1000) g8 h3, zup_all (P := fun z => 0 ≤ z ∧ z ≤ 100000) g9 h4, g10⟩ (zR_upd k6 k5 ⟨r1, r2, r3, r4, r5, r6, r7, fun i i0 i1 => ?_⟩ (fun p hp => ⟨rfl, rfl, rfl, fun i i0 i1 => ⟨zup_o hp i0 i1 h2.1 (by omega), zup_o hp i0 i1 h2.1 (by omega), rfl⟩⟩)) (fun j hj => ⟨(zup_n _ _ (by omega)).trans (k7 j hj).1, (zup_n _ _ (by omega)).trans (k7 j hj).2.1, (k7 j hj).2.2⟩) k8 hM ⟨(hag _ (by omega)).trans q0, hp1, hp2, (hag _ (by omega)).trans q3⟩ (fun j hj => hag j (by omega)) ho
  obtain ⟨s1, s2, s3⟩ := r8 i i0 i1
  exact ⟨zup_k s1, zup_k s2, s3⟩
theorem zLI_sinks {a1 a2 a3 cd : Int} {k : Nat} (h : zLI G I ad ct n σ b0 bl wv Fwv Fmn Fsp Fms Fco Fst Fmo Fsk Fts Ftm Fjn) (ha : a1 = k) (hk : k < n) (h2 : 0 ≤ a2 ∧ a2 < pn (σ k)) (h3 : 0 ≤ a3 ∧ a3 ≤ 10000)
    (hM : zMst G ad ct' n cd bl Fmn Fsp Fms Fco Fst Fmo (zup Fsk (12 * a1 + a2) a3) Fts Ftm Fjn) (hp1 : ct' (40 + 4 * k + 3) = zI G (σ k).1 (zup (psk (σ k)) a2 a3))
    (hag : ∀ j : Nat, (j < 8 ∨ (18 < j ∧ j < 25) ∨ (25 < j ∧ j < 40 + 4 * k + 3) ∨ 40 + 4 * k + 3 < j) → ct' j = ct j) (ho : ∃ Fo : Int → Int, ct' 25 = zL G 1 Fo) : zLI G I ad ct' n (zsg σ k (zqs (σ k) a2 a3)) b0 bl wv Fwv Fmn Fsp Fms Fco Fst Fmo (zup Fsk (12 * a1 + a2) a3) Fts Ftm Fjn := by
  obtain ⟨k1, k2, k3, k4, k5, k6, k7, k8, k9, k10, k11, k12, k13⟩ := id h
  obtain ⟨g1, g2, g3, g4, g5, g6, g7, g8, g9, g10⟩ := k5 k hk
  obtain ⟨r1, r2, r3, r4, r5, r6, r7, r8⟩ := k6 k hk
  obtain ⟨q0, q1, q2, q3⟩ := k12 k hk
  subst ha
  refine zLI_upd h hk rfl ⟨g1, g2, g3, g4, g5, g6, g7, g8, g9, zup_all (P := fun z => 0 ≤ z ∧ z ≤ 10000) g10 h3⟩ (zR_upd k6 k5 ⟨r1, r2, r3, r4, r5, r6, r7, fun i i0 i1 => ?_⟩ (fun p hp => ⟨rfl, rfl, rfl, fun i i0 i1 => ⟨rfl, rfl, zup_o hp i0 i1 h2.1 (by omega)⟩⟩)) (fun j hj => ⟨(k7 j hj).1, (k7 j hj).2.1, (zup_n _ _ (by omega)).trans (k7 j hj).2.2⟩) k8 hM ⟨(hag _ (by omega)).trans q0, (hag _ (by omega)).trans q1, (hag _ (by omega)).trans q2, hp1⟩ (fun j hj => hag j (by omega)) ho
  obtain ⟨s1, s2, s3⟩ := r8 i i0 i1
  exact ⟨s1, s2, zup_k s3⟩
theorem zLI_tip {a1 a2 a3 cd : Int} {k : Nat} (h : zLI G I ad ct n σ b0 bl wv Fwv Fmn Fsp Fms Fco Fst Fmo Fsk Fts Ftm Fjn) (ha : a1 = k) (hk : k < n) (h2 : 0 ≤ a2 ∧ a2 ≤ 1000) (h3 : 0 ≤ a3 ∧ a3 ≤ 1000000)
    (hM : zMst G ad ct' n cd bl Fmn Fsp Fms Fco Fst Fmo Fsk (zup Fts a1 a2) (zup Ftm a1 a3) Fjn) (hp0 : ct' (40 + 4 * k) = .inr (1, [zi (psp (σ k)), zi (pma (σ k)), zi (pco (σ k)), .ref (ad (40 + 4 * k + 1)), .ref (ad (40 + 4 * k + 2)), .ref (ad (40 + 4 * k + 3)), zi a2, zi a3, zi (pjo (σ k))]))
    (hag : ∀ j : Nat, (j < 8 ∨ (18 < j ∧ j < 25) ∨ (25 < j ∧ j < 40 + 4 * k) ∨ 40 + 4 * k < j) → ct' j = ct j) (ho : ∃ Fo : Int → Int, ct' 25 = zL G 1 Fo) : zLI G I ad ct' n (zsg σ k (zqt (σ k) a2 a3)) b0 bl wv Fwv Fmn Fsp Fms Fco Fst Fmo Fsk (zup Fts a1 a2) (zup Ftm a1 a3) Fjn := by
  obtain ⟨k1, k2, k3, k4, k5, k6, k7, k8, k9, k10, k11, k12, k13⟩ := id h
  obtain ⟨g1, g2, g3, g4, g5, g6, g7, g8, g9, g10⟩ := k5 k hk
  obtain ⟨r1, r2, r3, r4, r5, r6, r7, r8⟩ := k6 k hk
  obtain ⟨q0, q1, q2, q3⟩ := k12 k hk
  subst ha
  exact zLI_upd h hk rfl ⟨g1, g2, g3, g4, h2, h3, g7, g8, g9, g10⟩ (zR_upd k6 k5 ⟨r1, r2, r3, r4, zup_s _ _ _, zup_s _ _ _, r7, r8⟩ (fun p hp => ⟨zup_n _ _ (by omega), zup_n _ _ (by omega), rfl, fun i i0 i1 => ⟨rfl, rfl, rfl⟩⟩)) k7 (fun j hj => ⟨(zup_n _ _ (by omega)).trans (k8 j hj).1, (zup_n _ _ (by omega)).trans (k8 j hj).2.1, (k8 j hj).2.2⟩) hM ⟨hp0, (hag _ (by omega)).trans q1, (hag _ (by omega)).trans q2, (hag _ (by omega)).trans q3⟩ (fun j hj => hag j (by omega)) ho
theorem zLI_join {a1 bi cd : Int} {k : Nat} (h : zLI G I ad ct n σ b0 bl wv Fwv Fmn Fsp Fms Fco Fst Fmo Fsk Fts Ftm Fjn) (ha : a1 = k) (hk : k < n) (h2 : bi = 0 ∨ bi = 1)
    (hM : zMst G ad ct' n cd bl Fmn Fsp Fms Fco Fst Fmo Fsk Fts Ftm (zup Fjn a1 bi)) (hp0 : ct' (40 + 4 * k) = .inr (1, [zi (psp (σ k)), zi (pma (σ k)), zi (pco (σ k)), .ref (ad (40 + 4 * k + 1)), .ref (ad (40 + 4 * k + 2)), .ref (ad (40 + 4 * k + 3)), zi (pts (σ k)), zi (ptm (σ k)), zi bi]))
    (hag : ∀ j : Nat, (j < 8 ∨ (18 < j ∧ j < 25) ∨ (25 < j ∧ j < 40 + 4 * k) ∨ 40 + 4 * k < j) → ct' j = ct j) (ho : ∃ Fo : Int → Int, ct' 25 = zL G 1 Fo) : zLI G I ad ct' n (zsg σ k (zqj (σ k) bi)) b0 bl wv Fwv Fmn Fsp Fms Fco Fst Fmo Fsk Fts Ftm (zup Fjn a1 bi) := by
  obtain ⟨k1, k2, k3, k4, k5, k6, k7, k8, k9, k10, k11, k12, k13⟩ := id h
  obtain ⟨g1, g2, g3, g4, g5, g6, g7, g8, g9, g10⟩ := k5 k hk
  obtain ⟨r1, r2, r3, r4, r5, r6, r7, r8⟩ := k6 k hk
  obtain ⟨q0, q1, q2, q3⟩ := k12 k hk
  subst ha
  exact zLI_upd h hk rfl ⟨g1, g2, g3, g4, g5, g6, h2, g8, g9, g10⟩ (zR_upd k6 k5 ⟨r1, r2, r3, r4, r5, r6, zup_s _ _ _, r8⟩ (fun p hp => ⟨rfl, rfl, zup_n _ _ (by omega), fun i i0 i1 => ⟨rfl, rfl, rfl⟩⟩)) k7 (fun j hj => ⟨(k8 j hj).1, (k8 j hj).2.1, (zup_n _ _ (by omega)).trans (k8 j hj).2.2⟩) hM ⟨hp0, (hag _ (by omega)).trans q1, (hag _ (by omega)).trans q2, (hag _ (by omega)).trans q3⟩ (fun j hj => hag j (by omega)) ho
/-- a blow -/
theorem zLI_blow {a1 a2 a3 cd : Int} {k : Nat} {wv' Fwv' f g h9 Fat Fsd : Int → Int} {b1 : Int} (h : zLI G I ad ct n σ b0 bl wv Fwv Fmn Fsp Fms Fco Fst Fmo Fsk Fts Ftm Fjn) (ha : a1 = k) (hk : k < n) (hw1 : zwv (σ k) a2 a3 200 wv') (hw2 : zwv (σ k) a2 a3 200 Fwv')
    (h8 : ct' 8 = zmo ad n cd a1) (h3 : ct' 3 = .inr (0, [zi (pn (σ k)), zi b1, .ref (ad 4), .ref (ad 5), .ref (ad 6), .ref (ad 7)])) (h4 : ct' 4 = zI G 13 f) (h5 : ct' 5 = zI G 13 g) (h6 : ct' 6 = zL G 13 h9) (h7 : ct' 7 = zI G 2600 wv') (h22 : ct' 22 = zL G 2600 Fwv') (h23 : ct' 23 = zL G 13 Fat) (h24 : ct' 24 = zL G 13 Fsd)
    (hag : ∀ j : Nat, (j < 3 ∨ (8 < j ∧ j < 22) ∨ 25 < j) → ct' j = ct j) (ho : ∃ Fo : Int → Int, ct' 25 = zL G 1 Fo) : zLI G I ad ct' n σ (pn (σ k)) a1 wv' Fwv' Fmn Fsp Fms Fco Fst Fmo Fsk Fts Ftm Fjn := by
  obtain ⟨k1, k2, k3, k4, k5, k6, k7, k8, k9, k10, k11, k12, ⟨w, p0, f0, a0, q2⟩, -, ⟨cd9, k15⟩, ⟨Fpl, Fgr, Fab, q19, q20, q21⟩, -, -⟩ := h
  have g1 := (k5 k hk).1
  subst ha
  refine ⟨k1, k2, k3, k4, k5, k6, k7, k8, Or.inr ⟨by omega, by omega, by omega, by rw [Int.toNat_natCast], fun r i r0 r1 i0 i1 => ?_⟩, (hag 0 (by omega)).trans k10, (hag 1 (by omega)).trans k11, fun p hp => zPileAt_c (k12 p hp) (fun j hj1 hj2 => hag j (by omega)), ⟨w, p0, f0, a0, (hag 2 (by omega)).trans q2⟩, ⟨b1, f, g, h9, h3, h4, h5, h6, h7⟩, ⟨cd, zMst_c k15 h8 (fun j hj1 hj2 => hag j (by omega))⟩, ⟨Fpl, Fgr, Fab, (hag 19 (by omega)).trans q19, (hag 20 (by omega)).trans q20, (hag 21 (by omega)).trans q21⟩, ⟨Fat, Fsd, h22, h23, h24⟩, ho⟩
  have e1 := hw1 r.toNat (by omega) i i0 i1
  have e2 := hw2 r.toNat (by omega) i i0 i1
  rw [Int.toNat_of_nonneg r0] at e1 e2
  have e3 := zro_pl (σ k) a2 a3 (r.toNat + 1) i
  exact ⟨e1.trans e2.symm, by rw [e2]; omega, by rw [e2]; omega⟩
/-- a new pile -/
theorem zLI_pile {ad1 : Nat → Nat} {a1 a2 a3 a4 : Int} (h : zLI G I ad ct n σ b0 bl wv Fwv Fmn Fsp Fms Fco Fst Fmo Fsk Fts Ftm Fjn) (hag1 : ∀ j ∈ I, ad1 j = ad j) (hn : n < 6) (h1 : 1 ≤ a1 ∧ a1 ≤ 12) (h2 : 1 ≤ a2 ∧ a2 ≤ 10000) (h3 : 1 ≤ a3 ∧ a3 ≤ 1000) (h4 : 0 ≤ a4 ∧ a4 ≤ 100000)
    (c0 : ct' 0 = .inr (3, [.ref (ad1 1), .ref (ad1 2), .ref (ad1 3), zi ((n + 1 : Nat) : Int)])) (c1 : ct' 1 = zP G 6 (zpf ad1 (n + 1))) (cp : zPileAt G ad1 ct' (40 + 4 * n) (znw a1.toNat a2 a3 a4)) {cd : Int} (c8 : ct' 8 = zmo ad1 (n + 1) cd bl) (c9 : ct' 9 = zI G 6 (zup Fmn n a1)) (c10 : ct' 10 = zL G 6 (zup Fsp n a2)) (c11 : ct' 11 = zL G 6 (zup Fms n a3)) (c12 : ct' 12 = zI G 6 (zup Fco n a4))
    (hag : ∀ j : Nat, (1 < j ∧ j < 8) ∨ (12 < j ∧ j < 25) ∨ (25 < j ∧ j < 40 + 4 * n) → ct' j = ct j) (ho : ∃ Fo : Int → Int, ct' 25 = zL G 1 Fo) : zLI G ((((I ++ [40 + 4 * n]) ++ [40 + 4 * n + 1]) ++ [40 + 4 * n + 2]) ++ [40 + 4 * n + 3]) ad1 ct' (n + 1) (zsg σ n (znw a1.toNat a2 a3 a4)) b0 bl wv Fwv (zup Fmn n a1) (zup Fsp n a2) (zup Fms n a3) (zup Fco n a4) Fst Fmo Fsk Fts Ftm Fjn := by
  obtain ⟨k1, k2, k3, k4, k5, k6, k7, k8, k9, k10, k11, k12, ⟨w, p0, f0, a0, q2⟩, ⟨b1, f, g, h9, q3, q4, q5, q6, q7⟩, ⟨cd9, -, -, -, -, -, q13, q14, q15, q16, q17, q18⟩, ⟨Fpl, Fgr, Fab, q19, q20, q21⟩, ⟨Fat, Fsd, q22, q23, q24⟩, -⟩ := h
  have eN : ((a1.toNat : Nat) : Int) = a1 := Int.toNat_of_nonneg (by omega)
  have up : ∀ j ∈ I, j ∈ ((((I ++ [40 + 4 * n]) ++ [40 + 4 * n + 1]) ++ [40 + 4 * n + 2]) ++ [40 + 4 * n + 3]) := fun j hj => List.mem_append_left _ (List.mem_append_left _ (List.mem_append_left _ (List.mem_append_left _ hj)))
  have ea : ∀ j : Nat, j ≤ 25 → ad1 j = ad j := fun j hj => hag1 j (k2 j hj)
  refine ⟨by omega, fun j hj => up j (k2 j hj), fun j hj => ?_, fun p hp => ?_, fun p hp => ?_, fun p hp => ?_, fun j hj => k7 j (by omega), fun j hj => k8 j (by omega), ?_, c0, c1, fun p hp => ?_, ⟨w, p0, f0, a0, (hag 2 (by omega)).trans q2⟩, ⟨b1, f, g, h9, by rw [ea 4 (by omega), ea 5 (by omega), ea 6 (by omega), ea 7 (by omega)]; exact (hag 3 (by omega)).trans q3, (hag 4 (by omega)).trans q4, (hag 5 (by omega)).trans q5, (hag 6 (by omega)).trans q6, (hag 7 (by omega)).trans q7⟩, ⟨cd, c8, c9, c10, c11, c12, (hag 13 (by omega)).trans q13, (hag 14 (by omega)).trans q14, (hag 15 (by omega)).trans q15, (hag 16 (by omega)).trans q16, (hag 17 (by omega)).trans q17, (hag 18 (by omega)).trans q18⟩, ⟨Fpl, Fgr, Fab, (hag 19 (by omega)).trans q19, (hag 20 (by omega)).trans q20, (hag 21 (by omega)).trans q21⟩, ⟨Fat, Fsd, (hag 22 (by omega)).trans q22, (hag 23 (by omega)).trans q23, (hag 24 (by omega)).trans q24⟩, ho⟩
  · rcases List.mem_append.mp hj with hj | hj
    · rcases List.mem_append.mp hj with hj | hj
      · rcases List.mem_append.mp hj with hj | hj
        · rcases List.mem_append.mp hj with hj | hj
          · have := k3 j hj; omega
          · have := List.mem_singleton.mp hj; omega
        · have := List.mem_singleton.mp hj; omega
      · have := List.mem_singleton.mp hj; omega
    · have := List.mem_singleton.mp hj; omega
  · by_cases e : p = n
    · subst e
      exact ⟨List.mem_append_left _ (List.mem_append_left _ (List.mem_append_left _ (List.mem_append_right _ (List.mem_singleton.mpr rfl)))), List.mem_append_left _ (List.mem_append_left _ (List.mem_append_right _ (List.mem_singleton.mpr rfl))), List.mem_append_left _ (List.mem_append_right _ (List.mem_singleton.mpr rfl)), List.mem_append_right _ (List.mem_singleton.mpr rfl)⟩
    · obtain ⟨m0, m1, m2, m3⟩ := k4 p (by omega)
      exact ⟨up _ m0, up _ m1, up _ m2, up _ m3⟩
  · by_cases e : p = n
    · rw [e, zsg_s]; exact znw_good (by omega) h2 h3 h4
    · rw [zsg_n _ _ e]; exact k5 p (by omega)
  · by_cases e : p = n
    · rw [e, zsg_s]
      refine ⟨(zup_s _ _ _).trans eN.symm, zup_s _ _ _, zup_s _ _ _, zup_s _ _ _, (k8 n (by omega)).1, (k8 n (by omega)).2.1, (k8 n (by omega)).2.2, fun i i0 i1 => ?_⟩
      exact k7 _ (by omega)
    · rw [zsg_n _ _ e]
      obtain ⟨r1, r2, r3, r4, r5, r6, r7, r8⟩ := k6 p (by omega)
      exact ⟨(zup_n _ _ (by omega)).trans r1, (zup_n _ _ (by omega)).trans r2, (zup_n _ _ (by omega)).trans r3, (zup_n _ _ (by omega)).trans r4, r5, r6, r7, r8⟩
  · rcases k9 with h1 | ⟨h1, h2, h3, h4, h5⟩
    · exact Or.inl h1
    · exact Or.inr ⟨h1, h2, by omega, by rw [zsg_n _ _ (by omega)]; exact h4, h5⟩
  · by_cases e : p = n
    · rw [e, zsg_s]; exact cp
    · rw [zsg_n _ _ e]
      obtain ⟨m0, m1, m2, m3⟩ := k4 p (by omega)
      obtain ⟨o0, o1, o2, o3⟩ := k12 p (by omega)
      refine ⟨?_, (hag _ (by omega)).trans o1, (hag _ (by omega)).trans o2, (hag _ (by omega)).trans o3⟩
      rw [hag1 _ m1, hag1 _ m2, hag1 _ m3]
      exact (hag _ (by omega)).trans o0
end ZLU
