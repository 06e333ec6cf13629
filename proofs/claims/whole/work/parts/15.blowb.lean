set_option maxHeartbeats 4000000 in
set_option maxRecDepth 100000 in
theorem k_gather (l : Launch) (hl0 : l.stackTraces = false) (G : zG) (I : List Nat) (ad : Nat → Nat) (ct : Nat → va_E) (sz : Nat) (k : Nat) (q : zPl) (hg : zGood q) (hk : zMem4 I k) (hp : zPileAt G ad ct k q) (b1 : Int) (f g h wv : Int → Int) (hI3 : 3 ∈ I) (hI4 : 4 ∈ I) (hI5 : 5 ∈ I) (hI6 : 6 ∈ I) (hI7 : 7 ∈ I) (h3 : ct 3 = .inr (0, [zi (pn q), zi b1, .ref (ad 4), .ref (ad 5), .ref (ad 6), .ref (ad 7)])) (h4 : ct 4 = zI G 13 f) (h5 : ct 5 = zI G 13 g) (h6 : ct 6 = zL G 13 h) (h7 : ct 7 = zI G 2600 wv) (hfB : zB q f) (hkk : 40 ≤ k) : zN l yX0_gatherPushes wsX0_gatherPushes 1 24 0 0 G [.ref (ad (3)), .ref (ad (k))] I ad ct zno sz (zk I (zqv fun u => ∃ h1 : Int → Int, (∀ x : Int, 0 ≤ x → x ≤ pn q → h1 x = zpu q f x) ∧ u = zU ct 6 (zL G 13 h1))) := by
  obtain ⟨hp0, hp1, hp2, hp3⟩ := hp
  obtain ⟨hk0, hk1, hk2, hk3⟩ := hk
  have hg0 := hg
  obtain ⟨⟨g1, g2⟩, ⟨g3, g4⟩, ⟨g5, g6⟩, ⟨g7, g8⟩, ⟨g9, g10⟩, ⟨g11, g12⟩, g13, g14, g15, g16⟩ := hg0
  have gn : (q.1 : Int) = pn q := rfl
  refine z_ofW (ret := none) hl0 (by decide +kernel) rfl (Nat.le_of_ble_eq_true rfl) ?_
  intro p e s m args below meth c A ls hA0 hsz hF hr hout hnm hw hl
  obtain ⟨hx, hb, hml, hown, hts, hK, hlk, hst⟩ := hF
  have hown : s.vm.findClass RX0 = some m.cls := hown
  have hl : lv_has ls 3 [(0, .ref (ad (3))), (1, .ref (ad (k)))] := hl
  have w_0 := hts (.fieldLink RX0 18 "PileMoves$Blow" "pushes" "[J") (by decide +kernel)
  have w_1 : ∀ w ∈ wsX00, w ∈ wsX0_gatherPushes := by decide +kernel
  have w_2 := hts (.fieldLink RX0 25 "PileMoves$Blow" "pieces" "I") (by decide +kernel)
  have w_3 := hts (.constantLong RX0 77 (10)) (by decide +kernel)
  have w_4 := hts (.fieldLink RX0 11 "PileMoves$Blow" "places" "[I") (by decide +kernel)
  have w_5 := hts (.methodLink RX0 39 Lib.MathLoose.max_long.x) (by decide +kernel)
  have w_6 := hts (.static Lib.MathLoose.max_long.x) (by decide +kernel)
  have w_7 := hts (.initialized "java/lang/Math") (by decide +kernel)
  have w_8 := hts (.code Lib.MathLoose.max_long.x Lib.MathLoose.max_long.code 4 (some .long)) (by decide +kernel)
  have w_9 := hts (.fieldLink RX0 98 "PileMoves$Pile" "tipStiff" "I") (by decide +kernel)
  have w_10 : ∀ w ∈ wsX10, w ∈ wsX0_gatherPushes := by decide +kernel
  have w_11 := hts (.constantLong RX0 86 (1000)) (by decide +kernel)
  have w_12 := hts (.fieldLink RX0 101 "PileMoves$Pile" "tipMost" "I") (by decide +kernel)
  have w_13 := hts (.initialized RX3) (by decide +kernel)
  have w_14 := hts (.static yX3_clamp) (by decide +kernel)
  have w_15 := hts (.fieldLink RX0 88 "PileMoves$Pile" "stiff" "[I") (by decide +kernel)
  have w_16 := hts (.fieldLink RX0 91 "PileMoves$Pile" "most" "[I") (by decide +kernel)
  have w_17 := hts (.fieldLink RX0 83 "PileMoves$Pile" "spring" "I") (by decide +kernel)
  refine lv_aload_n hx hb dX0_gatherPushes_0 rfl (lv_at hl 0 rfl) ?_
  refine z_get (C := RX0) (T := TX0) (N := 6) (fs := [zi (pn q), zi (b1), .ref (ad (4)), .ref (ad (5)), .ref (ad (6)), .ref (ad (7))]) hx hb hts w_1 hown hK hw hI3 h3 rfl 4 (by decide) w_0 rfl rfl dX0_gatherPushes_1 ?_
  refine z_lc0 hx hb dX0_gatherPushes_4 ?_
  refine z_kV (z_runS (As := [.ref (ad (6)), zl (0)]) (rest := []) ⟨hx, hb, hml, hown, hts⟩ hK hw (k_filll l hl0 G I ad _ _ (6) (13) (h) (0) (by decide) hI6 h6) (va_cwS 2 hts gX0_gatherPushes_J7_fill_d0a16 rfl rfl rfl (by decide +kernel) ⟨Nat.le_of_ble_eq_true rfl, Nat.le_of_ble_eq_true rfl⟩) rfl hl.1 rfl (Nat.le_of_ble_eq_true rfl) dX0_gatherPushes_5 ⟨Nat.le_of_ble_eq_true rfl, Nat.le_of_ble_eq_true rfl⟩) hw (fun ct_3 H locs hP hw => ?_)
  obtain ⟨F_1, hF_1, hct⟩ := hP
  rw [hct] at hw
  clear hct
  refine lv_aload_n hx hb dX0_gatherPushes_8 rfl (lv_at hl 0 rfl) ?_
  refine lv_aload_n hx hb dX0_gatherPushes_9 rfl (lv_at hl 0 rfl) ?_
  refine z_get (C := RX0) (T := TX0) (N := 6) (fs := [zi (pn q), zi (b1), .ref (ad (4)), .ref (ad (5)), .ref (ad (6)), .ref (ad (7))]) hx hb hts w_1 hown hK hw hI3 (zU_n (by decide) h3) rfl 0 (by decide) w_2 rfl rfl dX0_gatherPushes_10 ?_
  refine z_ic hx hb dX0_gatherPushes_13 ?_
  refine z_lc0 hx hb dX0_gatherPushes_14 ?_
  refine z_ldc2 (n := 10) hx hb hown w_3 (by decide) dX0_gatherPushes_15 ?_
  have b2 := hfB (pn q) (by omega) (by omega)
  have b3 := hfB 0 (by omega) (by omega)
  refine lv_aload_n hx hb dX0_gatherPushes_18 rfl (lv_at hl 0 rfl) ?_
  refine z_get (C := RX0) (T := TX0) (N := 6) (fs := [zi (pn q), zi (b1), .ref (ad (4)), .ref (ad (5)), .ref (ad (6)), .ref (ad (7))]) hx hb hts w_1 hown hK hw hI3 (zU_n (by decide) h3) rfl 2 (by decide) w_4 rfl rfl dX0_gatherPushes_19 ?_
  refine lv_aload_n hx hb dX0_gatherPushes_22 rfl (lv_at hl 0 rfl) ?_
  refine z_get (C := RX0) (T := TX0) (N := 6) (fs := [zi (pn q), zi (b1), .ref (ad (4)), .ref (ad (5)), .ref (ad (6)), .ref (ad (7))]) hx hb hts w_1 hown hK hw hI3 (zU_n (by decide) h3) rfl 0 (by decide) w_2 rfl rfl dX0_gatherPushes_23 ?_
  refine z_iald (f := f) hx hb hK hw hI4 (zU_n (by decide) h4) (by omega) (by omega) (by decide) dX0_gatherPushes_26 ?_
  refine lv_aload_n hx hb dX0_gatherPushes_27 rfl (lv_at hl 0 rfl) ?_
  refine z_get (C := RX0) (T := TX0) (N := 6) (fs := [zi (pn q), zi (b1), .ref (ad (4)), .ref (ad (5)), .ref (ad (6)), .ref (ad (7))]) hx hb hts w_1 hown hK hw hI3 (zU_n (by decide) h3) rfl 2 (by decide) w_4 rfl rfl dX0_gatherPushes_28 ?_
  refine z_ic hx hb dX0_gatherPushes_31 ?_
  refine z_iald (f := f) hx hb hK hw hI4 (zU_n (by decide) h4) (by decide) (by decide) (by decide) dX0_gatherPushes_32 ?_
  refine z_isub hx hb dX0_gatherPushes_33 ?_
  refine z_i2l hx hb dX0_gatherPushes_34 ⟨by omega, by omega⟩ ?_
  refine z_lmul hx hb dX0_gatherPushes_35 ?_
  refine z_mmaxl hx hb (hml.trans hl.1.symm) hown w_5 w_6 w_7 w_8 (Nat.le_of_ble_eq_true rfl) (Nat.le_of_ble_eq_true rfl) (Nat.le_of_ble_eq_true rfl) (Nat.le_of_ble_eq_true rfl) ⟨by decide, by decide⟩ ⟨by omega, by omega⟩ dX0_gatherPushes_36 ?_
  rw [show (if ((10) * ((f (pn q)) - (f (0)))) < (0) then (0) else ((10) * ((f (pn q)) - (f (0)))) : Int) = zcu q f from rfl]
  refine z_kV (z_runV (As := [zi (pn q), zi (0), zl (zcu q f)]) (rest := []) (k := 3) (fs := [zi (pn q), zi (b1), .ref (ad (4)), .ref (ad (5)), .ref (ad (6)), .ref (ad (7))]) ⟨hx, hb, hml, hown, hts⟩ hK hw (k_press l hl0 G I ad _ _ (pn q) (b1) (f) (g) (F_1) (wv) hI3 hI4 hI5 hI6 hI7 (zU_n (by decide) h3) (zU_n (by decide) h4) (zU_n (by decide) h5) (zU_s _ _ _) (zU_n (by decide) h7)  (pn q) (0) (zcu q f) (by omega) (by omega) (by omega) (by omega)) (cwV 3 hts gX0_gatherPushes_X0_press rfl rfl rfl (by decide +kernel) ⟨Nat.le_of_ble_eq_true rfl, Nat.le_of_ble_eq_true rfl⟩) hI3 (zU_n (by decide) h3) rfl rfl rfl hl.1 rfl (Nat.le_of_ble_eq_true rfl) dX0_gatherPushes_39 ⟨Nat.le_of_ble_eq_true rfl, Nat.le_of_ble_eq_true rfl⟩) hw (fun ct_5 H locs hP hw => ?_)
  rw [hP] at hw
  clear hP
  refine z_ic hx hb dX0_gatherPushes_42 ?_
  refine lv_istore_n (lv' := [(2, zi (0)), (0, .ref (ad (3))), (1, .ref (ad (k)))]) hx hb dX0_gatherPushes_43 rfl hl (by decide) rfl (fun ls hl => ?_)
  have L44 : ∀ (nn : Nat) (i : Int) (h1 : Int → Int), ((13 - i).toNat) < nn → (0 ≤ i) → (i + 1 ≤ pn q) → (∀ x : Int, 0 ≤ x → x ≤ pn q → h1 x = zG1 q f i x) → ∀ (H : Heap) (locs : List Loc), zW G A s.heap H locs I ad (zU ct 6 (zL G 13 h1)) → ∀ ls, lv_has ls 3 [(0, .ref (ad (3))), (1, .ref (ad (k))), (2, zi (i))] → W p l e ({ frames := 1, cells := 0, slots := 0, locals := 24 } : Room) s m args below meth c H locs 0 0 (vx_MQ below (zQ G A ad (zk I (zqv fun u => ∃ h1 : Int → Int, (∀ x : Int, 0 ≤ x → x ≤ pn q → h1 x = zpu q f x) ∧ u = zU ct 6 (zL G 13 h1)))) (zX G A I ad ct zno) args s 0 0 A) (F0 m 44 ls []) := by
    intro nn
    induction nn with
    | zero => intro i h1 hme; exact absurd hme (Nat.not_lt_zero _)
    | succ nn ih44 =>
      intro i h1 hme44 hi0 hi1 hh H locs hw ls hl
      refine lv_iload_n hx hb dX0_gatherPushes_44 rfl (lv_at hl 2 rfl) ?_
      refine z_ic hx hb dX0_gatherPushes_45 ?_
      refine z_iadd hx hb dX0_gatherPushes_46 ?_
      refine lv_aload_n hx hb dX0_gatherPushes_47 rfl (lv_at hl 0 rfl) ?_
      refine z_get (C := RX0) (T := TX0) (N := 6) (fs := [zi (pn q), zi (b1), .ref (ad (4)), .ref (ad (5)), .ref (ad (6)), .ref (ad (7))]) hx hb hts w_1 hown hK hw hI3 (zU_n (by decide) h3) rfl 0 (by decide) w_2 rfl rfl dX0_gatherPushes_48 ?_
      refine z_icmp_ge (tgt := 94) hx hb dX0_gatherPushes_51 (by decide) ⟨by omega, by omega⟩ ⟨by omega, by omega⟩ (fun c_6 => ?_) (fun c_6 => ?_)
      · refine z_ic hx hb dX0_gatherPushes_94 ?_
        refine lv_istore_n (lv' := [(2, zi (0)), (0, .ref (ad (3))), (1, .ref (ad (k)))]) hx hb dX0_gatherPushes_95 rfl hl (by decide) rfl (fun ls hl => ?_)
        have L96 : ∀ (nn : Nat) (i : Int) (h1 : Int → Int), ((13 - i).toNat) < nn → (0 ≤ i) → (i ≤ pn q) → (∀ x : Int, 0 ≤ x → x ≤ pn q → h1 x = zG2 q f i x) → ∀ (H : Heap) (locs : List Loc), zW G A s.heap H locs I ad (zU ct 6 (zL G 13 h1)) → ∀ ls, lv_has ls 3 [(0, .ref (ad (3))), (1, .ref (ad (k))), (2, zi (i))] → W p l e ({ frames := 1, cells := 0, slots := 0, locals := 24 } : Room) s m args below meth c H locs 0 0 (vx_MQ below (zQ G A ad (zk I (zqv fun u => ∃ h1 : Int → Int, (∀ x : Int, 0 ≤ x → x ≤ pn q → h1 x = zpu q f x) ∧ u = zU ct 6 (zL G 13 h1)))) (zX G A I ad ct zno) args s 0 0 A) (F0 m 96 ls []) := by
          intro nn
          induction nn with
          | zero => intro i h1 hme; exact absurd hme (Nat.not_lt_zero _)
          | succ nn ih96 =>
            intro i h1 hme96 hi0 hi1 hh H locs hw ls hl
            refine lv_iload_n hx hb dX0_gatherPushes_96 rfl (lv_at hl 2 rfl) ?_
            refine lv_aload_n hx hb dX0_gatherPushes_97 rfl (lv_at hl 0 rfl) ?_
            refine z_get (C := RX0) (T := TX0) (N := 6) (fs := [zi (pn q), zi (b1), .ref (ad (4)), .ref (ad (5)), .ref (ad (6)), .ref (ad (7))]) hx hb hts w_1 hown hK hw hI3 (zU_n (by decide) h3) rfl 0 (by decide) w_2 rfl rfl dX0_gatherPushes_98 ?_
            refine z_icmp_ge (tgt := 155) hx hb dX0_gatherPushes_101 (by decide) ⟨by omega, by omega⟩ ⟨by omega, by omega⟩ (fun c_7 => ?_) (fun c_7 => ?_)
            · refine lv_aload_n hx hb dX0_gatherPushes_155 rfl (lv_at hl 0 rfl) ?_
              refine z_get (C := RX0) (T := TX0) (N := 6) (fs := [zi (pn q), zi (b1), .ref (ad (4)), .ref (ad (5)), .ref (ad (6)), .ref (ad (7))]) hx hb hts w_1 hown hK hw hI3 (zU_n (by decide) h3) rfl 0 (by decide) w_2 rfl rfl dX0_gatherPushes_156 ?_
              refine z_ic hx hb dX0_gatherPushes_159 ?_
              refine z_isub hx hb dX0_gatherPushes_160 ?_
              refine lv_istore_n (lv' := [(2, zi ((pn q) - (1))), (0, .ref (ad (3))), (1, .ref (ad (k)))]) hx hb dX0_gatherPushes_161 rfl hl (by decide) rfl (fun ls hl => ?_)
              refine lv_aload_n hx hb dX0_gatherPushes_162 rfl (lv_at hl 1 rfl) ?_
              refine z_get (C := RX0) (T := TX0) (N := 6) (fs := [zi (pn q), zi (b1), .ref (ad (4)), .ref (ad (5)), .ref (ad (6)), .ref (ad (7))]) hx hb hts w_1 hown hK hw hI3 (zU_n (by decide) h3) rfl 4 (by decide) w_0 rfl rfl dX0_gatherPushes_163 ?_
              refine lv_iload_n hx hb dX0_gatherPushes_166 rfl (lv_at hl 0 rfl) ?_
              refine lv_dup2_11 hx hb dX0_gatherPushes_167 rfl rfl ?_
              refine z_lald (f := h1) hx hb hK hw hI6 (zU_s _ _ _) (by omega) (by omega) (by decide) dX0_gatherPushes_168 ?_
              have b2 := hfB (pn q - 1) (by omega) (by omega)
              have b7 := zmulb (B := 200000000) g9 g10 (by omega) b2.2
              have b8 := zt1000 (x := pts q * f (pn q - 1)) (B := 200000000) (by omega) (by omega)
              refine lv_aload_n hx hb dX0_gatherPushes_169 rfl (lv_at hl 2 rfl) ?_
              refine z_get (C := RX1) (T := TX1) (N := 9) (fs := [zi (psp q), zi (pma q), zi (pco q), .ref (ad (k + 1)), .ref (ad (k + 2)), .ref (ad (k + 3)), zi (pts q), zi (ptm q), zi (pjo q)]) hx hb hts w_10 hown hK hw hk0 (zU_n (by omega) hp0) rfl 6 (by decide) w_9 rfl rfl dX0_gatherPushes_170 ?_
              refine z_i2l hx hb dX0_gatherPushes_173 ⟨by omega, by omega⟩ ?_
              refine lv_aload_n hx hb dX0_gatherPushes_174 rfl (lv_at hl 1 rfl) ?_
              refine z_get (C := RX0) (T := TX0) (N := 6) (fs := [zi (pn q), zi (b1), .ref (ad (4)), .ref (ad (5)), .ref (ad (6)), .ref (ad (7))]) hx hb hts w_1 hown hK hw hI3 (zU_n (by decide) h3) rfl 2 (by decide) w_4 rfl rfl dX0_gatherPushes_175 ?_
              refine lv_iload_n hx hb dX0_gatherPushes_178 rfl (lv_at hl 0 rfl) ?_
              refine z_iald (f := f) hx hb hK hw hI4 (zU_n (by decide) h4) (by omega) (by omega) (by decide) dX0_gatherPushes_179 ?_
              refine z_i2l hx hb dX0_gatherPushes_180 ⟨by omega, by omega⟩ ?_
              refine z_lmul hx hb dX0_gatherPushes_181 ?_
              refine z_ldc2 (n := 1000) hx hb hown w_11 (by decide) dX0_gatherPushes_182 ?_
              refine z_ldiv hx hb dX0_gatherPushes_185 ⟨by omega, by omega⟩ ⟨by decide, by decide⟩ (by decide) ?_
              refine z_ic hx hb dX0_gatherPushes_186 ?_
              refine lv_aload_n hx hb dX0_gatherPushes_187 rfl (lv_at hl 2 rfl) ?_
              refine z_get (C := RX1) (T := TX1) (N := 9) (fs := [zi (psp q), zi (pma q), zi (pco q), .ref (ad (k + 1)), .ref (ad (k + 2)), .ref (ad (k + 3)), zi (pts q), zi (ptm q), zi (pjo q)]) hx hb hts w_10 hown hK hw hk0 (zU_n (by omega) hp0) rfl 7 (by decide) w_12 rfl rfl dX0_gatherPushes_188 ?_
              refine z_kI (z_runSN (As := [zl (((pts q) * (f ((pn q) - (1)))).tdiv (1000)), zi (0), zi (ptm q)]) (rest := [zl (h1 ((pn q) - (1))), zi ((pn q) - (1)), .ref (ad (6))]) ⟨hx, hb, hml, hown, hts⟩ hK hw (k_clamp l hl0 G I ad _ _ (((pts q) * (f ((pn q) - (1)))).tdiv (1000)) (0) (ptm q) ⟨by omega, by omega⟩ ⟨by decide, by decide⟩ ⟨by omega, by omega⟩) (⟨va_cnB 3 hts gX0_gatherPushes_X3_clamp_n94 rfl rfl rfl hK.2.1.2.2.2.2.2.1 w_13 (by decide +kernel) ⟨Nat.le_of_ble_eq_true rfl, Nat.le_of_ble_eq_true rfl⟩, w_14, trivial⟩) rfl hl.1 rfl (Nat.le_of_ble_eq_true rfl) dX0_gatherPushes_191 ⟨Nat.le_of_ble_eq_true rfl, Nat.le_of_ble_eq_true rfl⟩) hw (fun r_8 ct_9 H locs hP hw => ?_)
              obtain ⟨rfl, hct⟩ := hP
              rw [hct] at hw
              clear hct
              rw [show (zcl (((pts q) * (f ((pn q) - (1)))).tdiv (1000)) (0) (ptm q) : Int) = ztb q f from rfl]
              have b9 := ztb_bd hg f
              refine z_i2l hx hb dX0_gatherPushes_194 ⟨by omega, by omega⟩ ?_
              refine z_lsub hx hb dX0_gatherPushes_195 ?_
              refine z_last (f := h1) hx hb hK hw hI6 (zU_s _ _ _) (by omega) (by omega) (by decide) dX0_gatherPushes_196 (fun H locs hw => ?_)
              exact z_vret hx hb hlk hr hw dX0_gatherPushes_197 (Nat.zero_le _) (Nat.zero_le _) ⟨rfl, rfl, (zup (h1) ((pn q) - (1)) ((h1 ((pn q) - (1))) - (ztb q f))), zgp5 (by omega) hh (by omega), by simp only [zU_zU]⟩
            · refine lv_aload_n hx hb dX0_gatherPushes_104 rfl (lv_at hl 0 rfl) ?_
              refine z_get (C := RX0) (T := TX0) (N := 6) (fs := [zi (pn q), zi (b1), .ref (ad (4)), .ref (ad (5)), .ref (ad (6)), .ref (ad (7))]) hx hb hts w_1 hown hK hw hI3 (zU_n (by decide) h3) rfl 4 (by decide) w_0 rfl rfl dX0_gatherPushes_105 ?_
              refine lv_iload_n hx hb dX0_gatherPushes_108 rfl (lv_at hl 2 rfl) ?_
              refine lv_dup2_11 hx hb dX0_gatherPushes_109 rfl rfl ?_
              refine z_lald (f := h1) hx hb hK hw hI6 (zU_s _ _ _) (by omega) (by omega) (by decide) dX0_gatherPushes_110 ?_
              refine lv_aload_n hx hb dX0_gatherPushes_111 rfl (lv_at hl 1 rfl) ?_
              refine z_get (C := RX1) (T := TX1) (N := 9) (fs := [zi (psp q), zi (pma q), zi (pco q), .ref (ad (k + 1)), .ref (ad (k + 2)), .ref (ad (k + 3)), zi (pts q), zi (ptm q), zi (pjo q)]) hx hb hts w_10 hown hK hw hk0 (zU_n (by omega) hp0) rfl 3 (by decide) w_15 rfl rfl dX0_gatherPushes_112 ?_
              refine lv_iload_n hx hb dX0_gatherPushes_115 rfl (lv_at hl 2 rfl) ?_
              have b2 := hfB (i) (by omega) (by omega)
              have b5 := g14 i
              have b6 := g15 i
              have b7 := zmulb (B := 200000000) b5.1 b5.2 (by omega) b2.2
              have b8 := zt1000 (x := pst q i * f i) (B := 200000000) (by omega) (by omega)
              refine z_iald (f := pst q) hx hb hK hw hk1 (zU_n (by omega) hp1) (by omega) (by omega) (by omega) dX0_gatherPushes_116 ?_
              refine z_i2l hx hb dX0_gatherPushes_117 ⟨by omega, by omega⟩ ?_
              refine lv_aload_n hx hb dX0_gatherPushes_118 rfl (lv_at hl 0 rfl) ?_
              refine z_get (C := RX0) (T := TX0) (N := 6) (fs := [zi (pn q), zi (b1), .ref (ad (4)), .ref (ad (5)), .ref (ad (6)), .ref (ad (7))]) hx hb hts w_1 hown hK hw hI3 (zU_n (by decide) h3) rfl 2 (by decide) w_4 rfl rfl dX0_gatherPushes_119 ?_
              refine lv_iload_n hx hb dX0_gatherPushes_122 rfl (lv_at hl 2 rfl) ?_
              refine z_iald (f := f) hx hb hK hw hI4 (zU_n (by decide) h4) (by omega) (by omega) (by decide) dX0_gatherPushes_123 ?_
              refine z_i2l hx hb dX0_gatherPushes_124 ⟨by omega, by omega⟩ ?_
              refine z_lmul hx hb dX0_gatherPushes_125 ?_
              refine z_ldc2 (n := 1000) hx hb hown w_11 (by decide) dX0_gatherPushes_126 ?_
              refine z_ldiv hx hb dX0_gatherPushes_129 ⟨by omega, by omega⟩ ⟨by decide, by decide⟩ (by decide) ?_
              refine lv_aload_n hx hb dX0_gatherPushes_130 rfl (lv_at hl 1 rfl) ?_
              refine z_get (C := RX1) (T := TX1) (N := 9) (fs := [zi (psp q), zi (pma q), zi (pco q), .ref (ad (k + 1)), .ref (ad (k + 2)), .ref (ad (k + 3)), zi (pts q), zi (ptm q), zi (pjo q)]) hx hb hts w_10 hown hK hw hk0 (zU_n (by omega) hp0) rfl 4 (by decide) w_16 rfl rfl dX0_gatherPushes_131 ?_
              refine lv_iload_n hx hb dX0_gatherPushes_134 rfl (lv_at hl 2 rfl) ?_
              refine z_iald (f := pmo q) hx hb hK hw hk2 (zU_n (by omega) hp2) (by omega) (by omega) (by omega) dX0_gatherPushes_135 ?_
              refine z_ineg hx hb dX0_gatherPushes_136 ?_
              refine lv_aload_n hx hb dX0_gatherPushes_137 rfl (lv_at hl 1 rfl) ?_
              refine z_get (C := RX1) (T := TX1) (N := 9) (fs := [zi (psp q), zi (pma q), zi (pco q), .ref (ad (k + 1)), .ref (ad (k + 2)), .ref (ad (k + 3)), zi (pts q), zi (ptm q), zi (pjo q)]) hx hb hts w_10 hown hK hw hk0 (zU_n (by omega) hp0) rfl 4 (by decide) w_16 rfl rfl dX0_gatherPushes_138 ?_
              refine lv_iload_n hx hb dX0_gatherPushes_141 rfl (lv_at hl 2 rfl) ?_
              refine z_iald (f := pmo q) hx hb hK hw hk2 (zU_n (by omega) hp2) (by omega) (by omega) (by omega) dX0_gatherPushes_142 ?_
              refine z_kI (z_runSN (As := [zl ((((pst q) (i)) * (f (i))).tdiv (1000)), zi (-((pmo q) (i))), zi ((pmo q) (i))]) (rest := [zl (h1 (i)), zi (i), .ref (ad (6))]) ⟨hx, hb, hml, hown, hts⟩ hK hw (k_clamp l hl0 G I ad _ _ ((((pst q) (i)) * (f (i))).tdiv (1000)) (-((pmo q) (i))) ((pmo q) (i)) ⟨by omega, by omega⟩ ⟨by omega, by omega⟩ ⟨by omega, by omega⟩) (⟨va_cnB 3 hts gX0_gatherPushes_X3_clamp_n94 rfl rfl rfl hK.2.1.2.2.2.2.2.1 w_13 (by decide +kernel) ⟨Nat.le_of_ble_eq_true rfl, Nat.le_of_ble_eq_true rfl⟩, w_14, trivial⟩) rfl hl.1 rfl (Nat.le_of_ble_eq_true rfl) dX0_gatherPushes_143 ⟨Nat.le_of_ble_eq_true rfl, Nat.le_of_ble_eq_true rfl⟩) hw (fun r_10 ct_11 H locs hP hw => ?_)
              obtain ⟨rfl, hct⟩ := hP
              rw [hct] at hw
              clear hct
              rw [show (zcl ((((pst q) (i)) * (f (i))).tdiv (1000)) (-((pmo q) (i))) ((pmo q) (i)) : Int) = zgb q f (i) from rfl]
              have b9 := zgb_bd hg f i
              refine z_i2l hx hb dX0_gatherPushes_146 ⟨by omega, by omega⟩ ?_
              refine z_lsub hx hb dX0_gatherPushes_147 ?_
              refine z_last (f := h1) hx hb hK hw hI6 (zU_s _ _ _) (by omega) (by omega) (by decide) dX0_gatherPushes_148 (fun H locs hw => ?_)
              refine z_iinc (lv' := [(2, zi (i + 1)), (0, .ref (ad (3))), (1, .ref (ad (k)))]) hx hb dX0_gatherPushes_149 hl (k := 2) rfl (by decide) rfl (fun ls hl => ?_)
              refine lv_goto (tgt := 96) hx hb dX0_gatherPushes_152 (by decide) ?_
              exact ih96 (i + 1) (zup (h1) (i) ((h1 (i)) - (zgb q f (i)))) (by omega) (by omega) (by omega) (zgp4 (by omega) (by omega) hh) _ _ (zWe hw (by simp only [zU_zU])) _ (lv_sub hl [1, 2, 0] rfl)
        exact L96 _ (0) (h1) (Nat.lt_succ_self _) (by omega) (by omega) (zgp3 (by omega) hh) _ _ hw _ (lv_sub hl [1, 2, 0] rfl)
      · refine lv_aload_n hx hb dX0_gatherPushes_54 rfl (lv_at hl 0 rfl) ?_
        refine lv_iload_n hx hb dX0_gatherPushes_55 rfl (lv_at hl 2 rfl) ?_
        refine lv_iload_n hx hb dX0_gatherPushes_56 rfl (lv_at hl 2 rfl) ?_
        refine z_ic hx hb dX0_gatherPushes_57 ?_
        refine z_iadd hx hb dX0_gatherPushes_58 ?_
        refine lv_aload_n hx hb dX0_gatherPushes_59 rfl (lv_at hl 1 rfl) ?_
        refine z_get (C := RX1) (T := TX1) (N := 9) (fs := [zi (psp q), zi (pma q), zi (pco q), .ref (ad (k + 1)), .ref (ad (k + 2)), .ref (ad (k + 3)), zi (pts q), zi (ptm q), zi (pjo q)]) hx hb hts w_10 hown hK hw hk0 (zU_n (by omega) hp0) rfl 0 (by decide) w_17 rfl rfl dX0_gatherPushes_60 ?_
        refine z_i2l hx hb dX0_gatherPushes_63 ⟨by omega, by omega⟩ ?_
        refine lv_aload_n hx hb dX0_gatherPushes_64 rfl (lv_at hl 0 rfl) ?_
        refine z_get (C := RX0) (T := TX0) (N := 6) (fs := [zi (pn q), zi (b1), .ref (ad (4)), .ref (ad (5)), .ref (ad (6)), .ref (ad (7))]) hx hb hts w_1 hown hK hw hI3 (zU_n (by decide) h3) rfl 2 (by decide) w_4 rfl rfl dX0_gatherPushes_65 ?_
        refine lv_iload_n hx hb dX0_gatherPushes_68 rfl (lv_at hl 2 rfl) ?_
        have b2 := hfB (i) (by omega) (by omega)
        have b3 := hfB (i + 1) (by omega) (by omega)
        have b4 := (zsf_bd hg hfB (i := i) (by omega) (by omega)).1
        refine z_iald (f := f) hx hb hK hw hI4 (zU_n (by decide) h4) (by omega) (by omega) (by decide) dX0_gatherPushes_69 ?_
        refine lv_aload_n hx hb dX0_gatherPushes_70 rfl (lv_at hl 0 rfl) ?_
        refine z_get (C := RX0) (T := TX0) (N := 6) (fs := [zi (pn q), zi (b1), .ref (ad (4)), .ref (ad (5)), .ref (ad (6)), .ref (ad (7))]) hx hb hts w_1 hown hK hw hI3 (zU_n (by decide) h3) rfl 2 (by decide) w_4 rfl rfl dX0_gatherPushes_71 ?_
        refine lv_iload_n hx hb dX0_gatherPushes_74 rfl (lv_at hl 2 rfl) ?_
        refine z_ic hx hb dX0_gatherPushes_75 ?_
        refine z_iadd hx hb dX0_gatherPushes_76 ?_
        refine z_iald (f := f) hx hb hK hw hI4 (zU_n (by decide) h4) (by omega) (by omega) (by decide) dX0_gatherPushes_77 ?_
        refine z_isub hx hb dX0_gatherPushes_78 ?_
        refine z_i2l hx hb dX0_gatherPushes_79 ⟨by omega, by omega⟩ ?_
        refine z_lmul hx hb dX0_gatherPushes_80 ?_
        refine z_ldc2 (n := 1000) hx hb hown w_11 (by decide) dX0_gatherPushes_81 ?_
        refine z_ldiv hx hb dX0_gatherPushes_84 ⟨by omega, by omega⟩ ⟨by decide, by decide⟩ (by decide) ?_
        rw [show (((psp q) * ((f (i)) - (f ((i) + (1))))).tdiv (1000) : Int) = zsf q f (i) from rfl]
        refine z_kV (z_runV (As := [zi (i), zi ((i) + (1)), zl (zsf q f (i))]) (rest := []) (k := 3) (fs := [zi (pn q), zi (b1), .ref (ad (4)), .ref (ad (5)), .ref (ad (6)), .ref (ad (7))]) ⟨hx, hb, hml, hown, hts⟩ hK hw (k_press l hl0 G I ad _ _ (pn q) (b1) (f) (g) (h1) (wv) hI3 hI4 hI5 hI6 hI7 (zU_n (by decide) h3) (zU_n (by decide) h4) (zU_n (by decide) h5) (zU_s _ _ _) (zU_n (by decide) h7)  (i) ((i) + (1)) (zsf q f (i)) (by omega) (by omega) (by omega) (by omega)) (cwV 3 hts gX0_gatherPushes_X0_press rfl rfl rfl (by decide +kernel) ⟨Nat.le_of_ble_eq_true rfl, Nat.le_of_ble_eq_true rfl⟩) hI3 (zU_n (by decide) h3) rfl rfl rfl hl.1 rfl (Nat.le_of_ble_eq_true rfl) dX0_gatherPushes_85 ⟨Nat.le_of_ble_eq_true rfl, Nat.le_of_ble_eq_true rfl⟩) hw (fun ct_13 H locs hP hw => ?_)
        rw [hP] at hw
        clear hP
        refine z_iinc (lv' := [(2, zi (i + 1)), (0, .ref (ad (3))), (1, .ref (ad (k)))]) hx hb dX0_gatherPushes_88 hl (k := 2) rfl (by decide) rfl (fun ls hl => ?_)
        refine lv_goto (tgt := 44) hx hb dX0_gatherPushes_91 (by decide) ?_
        exact ih44 (i + 1) ((zup (zup (h1) (i) ((h1) (i) - (zsf q f (i)))) ((i) + (1)) ((zup (h1) (i) ((h1) (i) - (zsf q f (i)))) ((i) + (1)) + (zsf q f (i))))) (by omega) (by omega) (by omega) (zgp2 (by omega) (by omega) hh) _ _ (zWe hw (by simp only [zU_zU])) _ (lv_sub hl [1, 2, 0] rfl)
  exact L44 _ (0) ((zup (zup (F_1) (pn q) ((F_1) (pn q) - (zcu q f))) (0) ((zup (F_1) (pn q) ((F_1) (pn q) - (zcu q f))) (0) + (zcu q f)))) (Nat.lt_succ_self _) (by omega) (by omega) (zgp1 hg f hF_1) _ _ (zWe hw (by simp only [zU_zU])) _ (lv_sub hl [1, 2, 0] rfl)

theorem zro0 {q : zPl} {hm v : Int} {F : Int → Int} {n : Nat} (hF : ∀ x : Int, 0 ≤ x → x < n → F x = 0) (hn : pn q < n) (_h : 0 ≤ pn q) : zEq q (zup F (pn q) (1000 * v)) (zro q hm v 0).2 := fun x h1 h2 => by
  show _ = if x = pn q then 1000 * v else 0
  by_cases a : x = pn q
  · rw [if_pos a, a, zup_s]
  · rw [if_neg a, zup_n _ _ a]; exact hF x h1 (by omega)

set_option maxHeartbeats 4000000 in
set_option maxRecDepth 100000 in
theorem k_strike (l : Launch) (hl0 : l.stackTraces = false) (G : zG) (I : List Nat) (ad : Nat → Nat) (ct : Nat → va_E) (sz : Nat) (k : Nat) (q : zPl) (hg : zGood q) (hk : zMem4 I k) (hp : zPileAt G ad ct k q) (b0 b1 : Int) (f g h wv : Int → Int) (hI3 : 3 ∈ I) (hI4 : 4 ∈ I) (hI5 : 5 ∈ I) (hI6 : 6 ∈ I) (hI7 : 7 ∈ I) (h3 : ct 3 = .inr (0, [zi b0, zi b1, .ref (ad 4), .ref (ad 5), .ref (ad 6), .ref (ad 7)])) (h4 : ct 4 = zI G 13 f) (h5 : ct 5 = zI G 13 g) (h6 : ct 6 = zL G 13 h) (h7 : ct 7 = zI G 2600 wv) (hkk : 40 ≤ k) (hm v : Int) (hm1 : 1 ≤ hm) (hm2 : hm ≤ 10000) (hv1 : 1 ≤ v) (hv2 : v ≤ 1000) : zN l yX0_strike wsX0_strike 2 60 0 0 G [.ref (ad (3)), .ref (ad (k)), zi (hm), zi (v)] I ad ct zno sz (zk I (zqv fun u => ∃ f1 g1 h1 wv1 : Int → Int, zwv q hm v 200 wv1 ∧ u = (zU5 ct (.inr (0, [zi (pn q), zi (zdp q hm v 200), .ref (ad (4)), .ref (ad (5)), .ref (ad (6)), .ref (ad (7))])) (zI G 13 (f1)) (zI G 13 (g1)) (zL G 13 (h1)) (zI G 2600 (wv1))))) := by
  obtain ⟨hp0, hp1, hp2, hp3⟩ := hp
  obtain ⟨hk0, hk1, hk2, hk3⟩ := hk
  have hg0 := hg
  obtain ⟨⟨g1, g2⟩, ⟨g3, g4⟩, ⟨g5, g6⟩, ⟨g7, g8⟩, ⟨g9, g10⟩, ⟨g11, g12⟩, g13, g14, g15, g16⟩ := hg0
  have gn : (q.1 : Int) = pn q := rfl
  refine z_ofW (ret := none) hl0 (by decide +kernel) rfl (Nat.le_of_ble_eq_true rfl) ?_
  intro p e s m args below meth c A ls hA0 hsz hF hr hout hnm hw hl
  obtain ⟨hx, hb, hml, hown, hts, hK, hlk, hst⟩ := hF
  have hown : s.vm.findClass RX0 = some m.cls := hown
  have hl : lv_has ls 7 [(0, .ref (ad (3))), (1, .ref (ad (k))), (2, zi (hm)), (3, zi (v))] := hl
  have w_0 := hts (.fieldLink RX0 25 "PileMoves$Blow" "pieces" "I") (by decide +kernel)
  have w_1 : ∀ w ∈ wsX00, w ∈ wsX0_strike := by decide +kernel
  have w_2 := hts (.fieldLink RX0 30 "PileMoves$Blow" "deepest" "I") (by decide +kernel)
  have w_3 := hts (.fieldLink RX0 11 "PileMoves$Blow" "places" "[I") (by decide +kernel)
  have w_4 := hts (.fieldLink RX0 15 "PileMoves$Blow" "speeds" "[I") (by decide +kernel)
  have w_5 := hts (.methodLink RX0 65 Lib.Math.max.name) (by decide +kernel)
  have w_6 := hts (.static Lib.Math.max.name) (by decide +kernel)
  have w_7 := hts (.initialized "java/lang/Math") (by decide +kernel)
  have w_8 := hts (.code Lib.Math.max.name Lib.Math.max.code 2 (some .int)) (by decide +kernel)
  have w_9 := hts (.fieldLink RX0 22 "PileMoves$Blow" "waves" "[I") (by decide +kernel)
  have w_10 := hts (.methodLink RX0 68 arraycopyName) (by decide +kernel)
  have w_11 := hts (.native arraycopyName) (by decide +kernel)
  have w_12 := hts (.static arraycopyName) (by decide +kernel)
  have w_13 := hts (.initialized "java/lang/System") (by decide +kernel)
  have w_14 := hts (.fieldLink RX0 58 "PileMoves$Pile" "mass" "I") (by decide +kernel)
  have w_15 : ∀ w ∈ wsX10, w ∈ wsX0_strike := by decide +kernel
  have hw := zWe hw (zU5_id h3 h4 h5 h6 h7).symm
  refine lv_aload_n hx hb dX0_strike_0 rfl (lv_at hl 1 rfl) ?_
  refine z_kI (z_runV (As := []) (rest := []) (k := k) (fs := [zi (psp q), zi (pma q), zi (pco q), .ref (ad (k + 1)), .ref (ad (k + 2)), .ref (ad (k + 3)), zi (pts q), zi (ptm q), zi (pjo q)]) ⟨hx, hb, hml, hown, hts⟩ hK hw (k_pieces l hl0 G I ad _ _ (k) q hg ⟨hk0, hk1, hk2, hk3⟩ ⟨(zU5_n (by omega) hp0), (zU5_n (by omega) hp1), (zU5_n (by omega) hp2), (zU5_n (by omega) hp3)⟩) (cwV 0 hts gX0_strike_X1_pieces rfl rfl rfl (by decide +kernel) ⟨Nat.le_of_ble_eq_true rfl, Nat.le_of_ble_eq_true rfl⟩) hk0 (zU5_n (by omega) hp0) rfl rfl rfl hl.1 rfl (Nat.le_of_ble_eq_true rfl) dX0_strike_1 ⟨Nat.le_of_ble_eq_true rfl, Nat.le_of_ble_eq_true rfl⟩) hw (fun r_1 ct_2 H locs hP hw => ?_)
  obtain ⟨rfl, hct⟩ := hP
  rw [hct] at hw
  clear hct
  refine lv_istore (lv' := [(4, zi (pn q)), (0, .ref (ad (3))), (1, .ref (ad (k))), (2, zi (hm)), (3, zi (v))]) hx hb dX0_strike_4 hl (by decide) rfl (fun ls hl => ?_)
  refine lv_iload hx hb dX0_strike_6 (lv_at hl 0 rfl) ?_
  refine z_ic hx hb dX0_strike_8 ?_
  refine z_icmp_lt (tgt := 19) hx hb dX0_strike_9 (by decide) ⟨by omega, by omega⟩ ⟨by decide, by decide⟩ (fun c_3 => ?_) (fun c_3 => ?_)
  · exact absurd c_3 (by omega)
  · refine lv_iload hx hb dX0_strike_12 (lv_at hl 0 rfl) ?_
    refine z_bi hx hb dX0_strike_14 (by decide) ?_
    refine z_icmp_lt (tgt := 20) hx hb dX0_strike_16 (by decide) ⟨by omega, by omega⟩ ⟨by decide, by decide⟩ (fun c_4 => ?_) (fun c_4 => ?_)
    · refine lv_aload_n hx hb dX0_strike_20 rfl (lv_at hl 1 rfl) ?_
      refine lv_iload hx hb dX0_strike_21 (lv_at hl 0 rfl) ?_
      refine z_put (C := RX0) (T := TX0) (N := 6) (fs := [zi (b0), zi (b1), .ref (ad (4)), .ref (ad (5)), .ref (ad (6)), .ref (ad (7))]) (fs' := [zi (pn q), zi (b1), .ref (ad (4)), .ref (ad (5)), .ref (ad (6)), .ref (ad (7))]) hx hb hts w_1 tyX0_ok nmX0 hown hK hw hI3 rfl rfl 0 (by decide) w_0 rfl rfl rfl rfl (Nat.le_of_ble_eq_true rfl) rfl dX0_strike_23 (fun H locs hw => ?_)
      refine lv_aload_n hx hb dX0_strike_26 rfl (lv_at hl 1 rfl) ?_
      refine z_ic hx hb dX0_strike_27 ?_
      refine z_put (C := RX0) (T := TX0) (N := 6) (fs := [zi (pn q), zi (b1), .ref (ad (4)), .ref (ad (5)), .ref (ad (6)), .ref (ad (7))]) (fs' := [zi (pn q), zi (0), .ref (ad (4)), .ref (ad (5)), .ref (ad (6)), .ref (ad (7))]) hx hb hts w_1 tyX0_ok nmX0 hown hK hw hI3 (zU_s _ _ _) rfl 1 (by decide) w_2 rfl rfl rfl rfl (Nat.le_of_ble_eq_true rfl) rfl dX0_strike_28 (fun H locs hw => ?_)
      refine lv_aload_n hx hb dX0_strike_31 rfl (lv_at hl 1 rfl) ?_
      refine z_get (C := RX0) (T := TX0) (N := 6) (fs := [zi (pn q), zi (0), .ref (ad (4)), .ref (ad (5)), .ref (ad (6)), .ref (ad (7))]) hx hb hts w_1 hown hK hw hI3 (zU_s _ _ _) rfl 2 (by decide) w_3 rfl rfl dX0_strike_32 ?_
      refine z_ic hx hb dX0_strike_35 ?_
      refine z_kV (z_runS (As := [.ref (ad (4)), zi (0)]) (rest := []) ⟨hx, hb, hml, hown, hts⟩ hK hw (k_filli l hl0 G I ad _ _ (4) (13) (f) (0) (by decide) hI4 (zU_n (by decide) (zU_n (by decide) rfl))) (va_cwS 2 hts gX0_strike_J7_fill_53178 rfl rfl rfl (by decide +kernel) ⟨Nat.le_of_ble_eq_true rfl, Nat.le_of_ble_eq_true rfl⟩) rfl hl.1 rfl (Nat.le_of_ble_eq_true rfl) dX0_strike_36 ⟨Nat.le_of_ble_eq_true rfl, Nat.le_of_ble_eq_true rfl⟩) hw (fun ct_7 H locs hP hw => ?_)
      obtain ⟨F_5, hF_5, hct⟩ := hP
      rw [hct] at hw
      clear hct
      refine lv_aload_n hx hb dX0_strike_39 rfl (lv_at hl 1 rfl) ?_
      refine z_get (C := RX0) (T := TX0) (N := 6) (fs := [zi (pn q), zi (0), .ref (ad (4)), .ref (ad (5)), .ref (ad (6)), .ref (ad (7))]) hx hb hts w_1 hown hK hw hI3 (zU_n (by decide) (zU_s _ _ _)) rfl 3 (by decide) w_4 rfl rfl dX0_strike_40 ?_
      refine z_ic hx hb dX0_strike_43 ?_
      refine z_kV (z_runS (As := [.ref (ad (5)), zi (0)]) (rest := []) ⟨hx, hb, hml, hown, hts⟩ hK hw (k_filli l hl0 G I ad _ _ (5) (13) (g) (0) (by decide) hI5 (zU_n (by decide) (zU_n (by decide) (zU_n (by decide) rfl)))) (va_cwS 2 hts gX0_strike_J7_fill_53178 rfl rfl rfl (by decide +kernel) ⟨Nat.le_of_ble_eq_true rfl, Nat.le_of_ble_eq_true rfl⟩) rfl hl.1 rfl (Nat.le_of_ble_eq_true rfl) dX0_strike_44 ⟨Nat.le_of_ble_eq_true rfl, Nat.le_of_ble_eq_true rfl⟩) hw (fun ct_10 H locs hP hw => ?_)
      obtain ⟨F_8, hF_8, hct⟩ := hP
      rw [hct] at hw
      clear hct
      refine lv_aload_n hx hb dX0_strike_47 rfl (lv_at hl 1 rfl) ?_
      refine z_get (C := RX0) (T := TX0) (N := 6) (fs := [zi (pn q), zi (0), .ref (ad (4)), .ref (ad (5)), .ref (ad (6)), .ref (ad (7))]) hx hb hts w_1 hown hK hw hI3 (zU_n (by decide) (zU_n (by decide) (zU_s _ _ _))) rfl 3 (by decide) w_4 rfl rfl dX0_strike_48 ?_
      refine lv_aload_n hx hb dX0_strike_51 rfl (lv_at hl 1 rfl) ?_
      refine z_get (C := RX0) (T := TX0) (N := 6) (fs := [zi (pn q), zi (0), .ref (ad (4)), .ref (ad (5)), .ref (ad (6)), .ref (ad (7))]) hx hb hts w_1 hown hK hw hI3 (zU_n (by decide) (zU_n (by decide) (zU_s _ _ _))) rfl 0 (by decide) w_0 rfl rfl dX0_strike_52 ?_
      refine z_si hx hb dX0_strike_55 (by decide) ?_
      refine lv_iload_n hx hb dX0_strike_58 rfl (lv_at hl 4 rfl) ?_
      refine z_imul hx hb dX0_strike_59 ?_
      refine z_iast (f := F_8) hx hb hK hw hI5 (zU_s _ _ _) (by omega) (by omega) (by decide) dX0_strike_60 (fun H locs hw => ?_)
      refine z_ic hx hb dX0_strike_61 ?_
      refine lv_istore (lv' := [(5, zi (0)), (4, zi (pn q)), (0, .ref (ad (3))), (1, .ref (ad (k))), (2, zi (hm)), (3, zi (v))]) hx hb dX0_strike_62 hl (by decide) rfl (fun ls hl => ?_)
      have L64 : ∀ (nn : Nat) (K : Nat) (r : Int) (dp : Int) (f1 : Int → Int) (g1 : Int → Int) (h1 : Int → Int) (wv1 : Int → Int), (200 - K) < nn → (r = K) → (K ≤ 200) → (zEq q f1 (zro q hm v K).1) → (zEq q g1 (zro q hm v K).2) → (dp = zdp q hm v K) → (zwv q hm v K wv1) → ∀ (H : Heap) (locs : List Loc), zW G A s.heap H locs I ad (zU5 ct (.inr (0, [zi (pn q), zi (dp), .ref (ad (4)), .ref (ad (5)), .ref (ad (6)), .ref (ad (7))])) (zI G 13 (f1)) (zI G 13 (g1)) (zL G 13 (h1)) (zI G 2600 (wv1))) → ∀ ls, lv_has ls 7 [(0, .ref (ad (3))), (1, .ref (ad (k))), (2, zi (hm)), (3, zi (v)), (4, zi (pn q)), (5, zi (r))] → W p l e ({ frames := 2, cells := 0, slots := 0, locals := 60 } : Room) s m args below meth c H locs 0 0 (vx_MQ below (zQ G A ad (zk I (zqv fun u => ∃ f1 g1 h1 wv1 : Int → Int, zwv q hm v 200 wv1 ∧ u = (zU5 ct (.inr (0, [zi (pn q), zi (zdp q hm v 200), .ref (ad (4)), .ref (ad (5)), .ref (ad (6)), .ref (ad (7))])) (zI G 13 (f1)) (zI G 13 (g1)) (zL G 13 (h1)) (zI G 2600 (wv1)))))) (zX G A I ad ct zno) args s 0 0 A) (F0 m 64 ls []) := by
        intro nn
        induction nn with
        | zero => intro K r dp f1 g1 h1 wv1 hme; exact absurd hme (Nat.not_lt_zero _)
        | succ nn ih64 =>
          intro K r dp f1 g1 h1 wv1 hme64 hr9 hK9 hf1 hg1 hdp hwv H locs hw ls hl
          have hfB : zB q f1 := fun x h1 h2 => by have e1 := hf1 x h1 h2; have e2 := zro_pl q hm v K x; omega
          refine lv_iload hx hb dX0_strike_64 (lv_at hl 5 rfl) ?_
          refine z_si hx hb dX0_strike_66 (by decide) ?_
          refine z_icmp_ge (tgt := 165) hx hb dX0_strike_69 (by decide) ⟨by omega, by omega⟩ ⟨by decide, by decide⟩ (fun c_11 => ?_) (fun c_11 => ?_)
          · exact z_vret hx hb hlk hr hw dX0_strike_165 (Nat.zero_le _) (Nat.zero_le _) ⟨rfl, rfl, ⟨f1, g1, h1, wv1, by rw [show K = 200 by omega] at hwv; exact hwv, by rw [hdp, show K = 200 by omega]⟩⟩
          · refine lv_aload_n hx hb dX0_strike_72 rfl (lv_at hl 0 rfl) ?_
            refine lv_aload_n hx hb dX0_strike_73 rfl (lv_at hl 1 rfl) ?_
            refine z_kV (z_runV (As := [.ref (ad (k))]) (rest := []) (k := 3) (fs := [zi (pn q), zi (dp), .ref (ad (4)), .ref (ad (5)), .ref (ad (6)), .ref (ad (7))]) ⟨hx, hb, hml, hown, hts⟩ hK hw (k_gather l hl0 G I ad _ _ (k) q hg ⟨hk0, hk1, hk2, hk3⟩ ⟨(zU5_n (by omega) hp0), (zU5_n (by omega) hp1), (zU5_n (by omega) hp2), (zU5_n (by omega) hp3)⟩ (dp) (f1) (g1) (h1) (wv1) hI3 hI4 hI5 hI6 hI7 rfl rfl rfl rfl rfl hfB (by omega)) (cwV 1 hts gX0_strike_X0_gatherPushes rfl rfl rfl (by decide +kernel) ⟨Nat.le_of_ble_eq_true rfl, Nat.le_of_ble_eq_true rfl⟩) hI3 rfl rfl rfl rfl hl.1 rfl (Nat.le_of_ble_eq_true rfl) dX0_strike_74 ⟨Nat.le_of_ble_eq_true rfl, Nat.le_of_ble_eq_true rfl⟩) hw (fun ct_14 H locs hP hw => ?_)
            obtain ⟨h_12, hh_12, hct⟩ := hP
            rw [hct] at hw
            clear hct
            refine z_ic hx hb dX0_strike_77 ?_
            refine lv_istore (lv' := [(6, zi (0)), (0, .ref (ad (3))), (1, .ref (ad (k))), (2, zi (hm)), (3, zi (v)), (4, zi (pn q)), (5, zi (r))]) hx hb dX0_strike_78 hl (by decide) rfl (fun ls hl => ?_)
            have L80 : ∀ (nn : Nat) (i : Int) (f2 : Int → Int) (g2 : Int → Int), ((14 - i).toNat) < nn → (0 ≤ i) → (i ≤ pn q + 1) → (zmid f1 f2 (znp q hm f1 g1) (pn q) i) → (zmid g1 g2 (znv q hm f1 g1) (pn q) i) → ∀ (H : Heap) (locs : List Loc), zW G A s.heap H locs I ad (zU5 ct (.inr (0, [zi (pn q), zi (dp), .ref (ad (4)), .ref (ad (5)), .ref (ad (6)), .ref (ad (7))])) (zI G 13 (f2)) (zI G 13 (g2)) (zL G 13 (h_12)) (zI G 2600 (wv1))) → ∀ ls, lv_has ls 7 [(0, .ref (ad (3))), (1, .ref (ad (k))), (2, zi (hm)), (3, zi (v)), (4, zi (pn q)), (5, zi (r)), (6, zi (i))] → W p l e ({ frames := 2, cells := 0, slots := 0, locals := 60 } : Room) s m args below meth c H locs 0 0 (vx_MQ below (zQ G A ad (zk I (zqv fun u => ∃ f1 g1 h1 wv1 : Int → Int, zwv q hm v 200 wv1 ∧ u = (zU5 ct (.inr (0, [zi (pn q), zi (zdp q hm v 200), .ref (ad (4)), .ref (ad (5)), .ref (ad (6)), .ref (ad (7))])) (zI G 13 (f1)) (zI G 13 (g1)) (zL G 13 (h1)) (zI G 2600 (wv1)))))) (zX G A I ad ct zno) args s 0 0 A) (F0 m 80 ls []) := by
              intro nn
              induction nn with
              | zero => intro i f2 g2 hme; exact absurd hme (Nat.not_lt_zero _)
              | succ nn ih80 =>
                intro i f2 g2 hme80 hi0 hi1 hf2 hg2 H locs hw ls hl
                refine lv_iload hx hb dX0_strike_80 (lv_at hl 6 rfl) ?_
                refine lv_aload_n hx hb dX0_strike_82 rfl (lv_at hl 0 rfl) ?_
                refine z_get (C := RX0) (T := TX0) (N := 6) (fs := [zi (pn q), zi (dp), .ref (ad (4)), .ref (ad (5)), .ref (ad (6)), .ref (ad (7))]) hx hb hts w_1 hown hK hw hI3 rfl rfl 0 (by decide) w_0 rfl rfl dX0_strike_83 ?_
                refine z_icmp_gt (tgt := 118) hx hb dX0_strike_86 (by decide) ⟨by omega, by omega⟩ ⟨by omega, by omega⟩ (fun c_15 => ?_) (fun c_15 => ?_)
                · have hfe : zEq q f2 (zro q hm v (K + 1)).1 := fun x h1 h2 => (zmid_e hf2 (by omega) x h1 h2).trans (znp_c hg hm hf1 hg1 h1 h2)
                  have hge : zEq q g2 (zro q hm v (K + 1)).2 := fun x h1 h2 => (zmid_e hg2 (by omega) x h1 h2).trans (znv_c hg hm hf1 hg1 h1 h2)
                  have bd1 := zdp_bd q hm v K
                  have bd2 := hfe (pn q - 1) (by omega) (by omega)
                  have bd3 := zro_pl q hm v (K + 1) (pn q - 1)
                  have hde : (if dp < f2 (pn q - 1) then f2 (pn q - 1) else dp) = zdp q hm v (K + 1) := by rw [hdp, bd2]; rfl
                  refine lv_aload_n hx hb dX0_strike_118 rfl (lv_at hl 0 rfl) ?_
                  refine lv_aload_n hx hb dX0_strike_119 rfl (lv_at hl 0 rfl) ?_
                  refine z_get (C := RX0) (T := TX0) (N := 6) (fs := [zi (pn q), zi (dp), .ref (ad (4)), .ref (ad (5)), .ref (ad (6)), .ref (ad (7))]) hx hb hts w_1 hown hK hw hI3 rfl rfl 1 (by decide) w_2 rfl rfl dX0_strike_120 ?_
                  refine lv_aload_n hx hb dX0_strike_123 rfl (lv_at hl 0 rfl) ?_
                  refine z_get (C := RX0) (T := TX0) (N := 6) (fs := [zi (pn q), zi (dp), .ref (ad (4)), .ref (ad (5)), .ref (ad (6)), .ref (ad (7))]) hx hb hts w_1 hown hK hw hI3 rfl rfl 2 (by decide) w_3 rfl rfl dX0_strike_124 ?_
                  refine lv_aload_n hx hb dX0_strike_127 rfl (lv_at hl 0 rfl) ?_
                  refine z_get (C := RX0) (T := TX0) (N := 6) (fs := [zi (pn q), zi (dp), .ref (ad (4)), .ref (ad (5)), .ref (ad (6)), .ref (ad (7))]) hx hb hts w_1 hown hK hw hI3 rfl rfl 0 (by decide) w_0 rfl rfl dX0_strike_128 ?_
                  refine z_ic hx hb dX0_strike_131 ?_
                  refine z_isub hx hb dX0_strike_132 ?_
                  refine z_iald (f := f2) hx hb hK hw hI4 rfl (by omega) (by omega) (by decide) dX0_strike_133 ?_
                  refine z_mmax hx hb (hml.trans hl.1.symm) hown w_5 w_6 w_7 w_8 (Nat.le_of_ble_eq_true rfl) (Nat.le_of_ble_eq_true rfl) (Nat.le_of_ble_eq_true rfl) (Nat.le_of_ble_eq_true rfl) ⟨by omega, by omega⟩ ⟨by omega, by omega⟩ dX0_strike_134 ?_
                  refine z_put (C := RX0) (T := TX0) (N := 6) (fs := [zi (pn q), zi (dp), .ref (ad (4)), .ref (ad (5)), .ref (ad (6)), .ref (ad (7))]) (fs' := [zi (pn q), zi (if (dp) < (f2 ((pn q) - (1))) then (f2 ((pn q) - (1))) else (dp)), .ref (ad (4)), .ref (ad (5)), .ref (ad (6)), .ref (ad (7))]) hx hb hts w_1 tyX0_ok nmX0 hown hK hw hI3 rfl rfl 1 (by decide) w_2 rfl rfl rfl rfl (Nat.le_of_ble_eq_true rfl) rfl dX0_strike_137 (fun H locs hw => ?_)
                  refine lv_aload_n hx hb dX0_strike_140 rfl (lv_at hl 0 rfl) ?_
                  refine z_get (C := RX0) (T := TX0) (N := 6) (fs := [zi (pn q), zi (if (dp) < (f2 ((pn q) - (1))) then (f2 ((pn q) - (1))) else (dp)), .ref (ad (4)), .ref (ad (5)), .ref (ad (6)), .ref (ad (7))]) hx hb hts w_1 hown hK hw hI3 (zU_s _ _ _) rfl 2 (by decide) w_3 rfl rfl dX0_strike_141 ?_
                  refine z_ic hx hb dX0_strike_144 ?_
                  refine lv_aload_n hx hb dX0_strike_145 rfl (lv_at hl 0 rfl) ?_
                  refine z_get (C := RX0) (T := TX0) (N := 6) (fs := [zi (pn q), zi (if (dp) < (f2 ((pn q) - (1))) then (f2 ((pn q) - (1))) else (dp)), .ref (ad (4)), .ref (ad (5)), .ref (ad (6)), .ref (ad (7))]) hx hb hts w_1 hown hK hw hI3 (zU_s _ _ _) rfl 5 (by decide) w_9 rfl rfl dX0_strike_146 ?_
                  refine lv_iload hx hb dX0_strike_149 (lv_at hl 5 rfl) ?_
                  refine z_bi hx hb dX0_strike_151 (by decide) ?_
                  refine z_imul hx hb dX0_strike_153 ?_
                  refine z_bi hx hb dX0_strike_154 (by decide) ?_
                  refine z_copyi hx hb (hml.trans hl.1.symm) hown w_10 w_11 w_12 w_13 hK hw hI4 hI7 (zU_n (by decide) rfl) (zU_n (by decide) rfl) (by omega) (by omega) (by omega) (by omega) (by decide) (by decide) (Nat.le_of_ble_eq_true rfl) (Nat.le_of_ble_eq_true rfl) dX0_strike_156 (fun H locs hw => ?_)
                  refine z_iinc (lv' := [(5, zi (r + 1)), (0, .ref (ad (3))), (1, .ref (ad (k))), (2, zi (hm)), (3, zi (v)), (4, zi (pn q)), (6, zi (i))]) hx hb dX0_strike_159 hl (k := 5) rfl (by decide) rfl (fun ls hl => ?_)
                  refine lv_goto (tgt := 64) hx hb dX0_strike_162 (by decide) ?_
                  exact ih64 (K + 1) (r + 1) (if (dp) < (f2 ((pn q) - (1))) then (f2 ((pn q) - (1))) else (dp)) (f2) (g2) (h_12) ((zcpy (f2) (wv1) ((r) * (13)) (13))) (by omega) (by omega) (by omega) hfe hge hde (zwv_s hg hwv hfe (by omega)) _ _ (zWe hw (by simp only [zU5_p3, zU5_p4, zU5_p5, zU5_p6, zU5_p7])) _ (lv_sub hl [1, 2, 3, 4, 5, 0] rfl)
                · refine lv_aload_n hx hb dX0_strike_89 rfl (lv_at hl 0 rfl) ?_
                  refine lv_iload hx hb dX0_strike_90 (lv_at hl 6 rfl) ?_
                  refine lv_iload hx hb dX0_strike_92 (lv_at hl 6 rfl) ?_
                  refine lv_aload_n hx hb dX0_strike_94 rfl (lv_at hl 0 rfl) ?_
                  refine z_get (C := RX0) (T := TX0) (N := 6) (fs := [zi (pn q), zi (dp), .ref (ad (4)), .ref (ad (5)), .ref (ad (6)), .ref (ad (7))]) hx hb hts w_1 hown hK hw hI3 rfl rfl 0 (by decide) w_0 rfl rfl dX0_strike_95 ?_
                  refine z_icmp_ge (tgt := 108) hx hb dX0_strike_98 (by decide) ⟨by omega, by omega⟩ ⟨by omega, by omega⟩ (fun c_16 => ?_) (fun c_16 => ?_)
                  · refine lv_iload_n hx hb dX0_strike_108 rfl (lv_at hl 2 rfl) ?_
                    refine z_kV (z_runV (As := [zi (i), zi (hm)]) (rest := []) (k := 3) (fs := [zi (pn q), zi (dp), .ref (ad (4)), .ref (ad (5)), .ref (ad (6)), .ref (ad (7))]) ⟨hx, hb, hml, hown, hts⟩ hK hw (k_move l hl0 G I ad _ _ (pn q) (dp) (f2) (g2) (h_12) (wv1) hI3 hI4 hI5 hI6 hI7 rfl rfl rfl rfl rfl  (i) (hm) (by omega) (by omega) (by omega) (by omega) (by rw [hh_12 i (by omega) (by omega)]; have := zpu_bd hg hfB (i := i) (by omega) (by omega); omega) (by rw [zmid_at hg2 (by omega) (by omega), hg1 i (by omega) (by omega)]; exact zro_sp (by omega) hv2 K i)) (cwV 2 hts gX0_strike_X0_move rfl rfl rfl (by decide +kernel) ⟨Nat.le_of_ble_eq_true rfl, Nat.le_of_ble_eq_true rfl⟩) hI3 rfl rfl rfl rfl hl.1 rfl (Nat.le_of_ble_eq_true rfl) dX0_strike_109 ⟨Nat.le_of_ble_eq_true rfl, Nat.le_of_ble_eq_true rfl⟩) hw (fun ct_18 H locs hP hw => ?_)
                    rw [hP] at hw
                    clear hP
                    refine z_iinc (lv' := [(6, zi (i + 1)), (0, .ref (ad (3))), (1, .ref (ad (k))), (2, zi (hm)), (3, zi (v)), (4, zi (pn q)), (5, zi (r))]) hx hb dX0_strike_112 hl (k := 6) rfl (by decide) rfl (fun ls hl => ?_)
                    refine lv_goto (tgt := 80) hx hb dX0_strike_115 (by decide) ?_
                    exact ih80 (i + 1) ((zup (f2) (i) ((f2) (i) + (zcl ((g2) (i) + (1000 * (h_12) (i)).tdiv (hm)) (-1000000000) 1000000000).tdiv 1000))) ((zup (g2) (i) (zcl ((g2) (i) + (1000 * (h_12) (i)).tdiv (hm)) (-1000000000) 1000000000))) (by omega) (by omega) (by omega) (zmid_s hf2 (by unfold znp; rw [(zmv (hm := hm) (mm := hm) (g := g1) (g2 := g2) (hh_12 i (by omega) (by omega)) (zmid_at hg2 (by omega) (by omega)) (by unfold zms; split <;> omega)), zmid_at hf2 (by omega) (by omega)])) (zmid_s hg2 (zmv (hm := hm) (mm := hm) (g := g1) (g2 := g2) (hh_12 i (by omega) (by omega)) (zmid_at hg2 (by omega) (by omega)) (by unfold zms; split <;> omega))) _ _ (zWe hw (by simp only [zU5_p3, zU5_p4, zU5_p5, zU5_p6, zU5_p7])) _ (lv_sub hl [1, 2, 3, 4, 5, 6, 0] rfl)
                  · refine lv_aload_n hx hb dX0_strike_101 rfl (lv_at hl 1 rfl) ?_
                    refine z_get (C := RX1) (T := TX1) (N := 9) (fs := [zi (psp q), zi (pma q), zi (pco q), .ref (ad (k + 1)), .ref (ad (k + 2)), .ref (ad (k + 3)), zi (pts q), zi (ptm q), zi (pjo q)]) hx hb hts w_15 hown hK hw hk0 (zU5_n (by omega) hp0) rfl 1 (by decide) w_14 rfl rfl dX0_strike_102 ?_
                    refine lv_goto (tgt := 109) hx hb dX0_strike_105 (by decide) ?_
                    refine z_kV (z_runV (As := [zi (i), zi (pma q)]) (rest := []) (k := 3) (fs := [zi (pn q), zi (dp), .ref (ad (4)), .ref (ad (5)), .ref (ad (6)), .ref (ad (7))]) ⟨hx, hb, hml, hown, hts⟩ hK hw (k_move l hl0 G I ad _ _ (pn q) (dp) (f2) (g2) (h_12) (wv1) hI3 hI4 hI5 hI6 hI7 rfl rfl rfl rfl rfl  (i) (pma q) (by omega) (by omega) (by omega) (by omega) (by rw [hh_12 i (by omega) (by omega)]; have := zpu_bd hg hfB (i := i) (by omega) (by omega); omega) (by rw [zmid_at hg2 (by omega) (by omega), hg1 i (by omega) (by omega)]; exact zro_sp (by omega) hv2 K i)) (cwV 2 hts gX0_strike_X0_move rfl rfl rfl (by decide +kernel) ⟨Nat.le_of_ble_eq_true rfl, Nat.le_of_ble_eq_true rfl⟩) hI3 rfl rfl rfl rfl hl.1 rfl (Nat.le_of_ble_eq_true rfl) dX0_strike_109 ⟨Nat.le_of_ble_eq_true rfl, Nat.le_of_ble_eq_true rfl⟩) hw (fun ct_20 H locs hP hw => ?_)
                    rw [hP] at hw
                    clear hP
                    refine z_iinc (lv' := [(6, zi (i + 1)), (0, .ref (ad (3))), (1, .ref (ad (k))), (2, zi (hm)), (3, zi (v)), (4, zi (pn q)), (5, zi (r))]) hx hb dX0_strike_112 hl (k := 6) rfl (by decide) rfl (fun ls hl => ?_)
                    refine lv_goto (tgt := 80) hx hb dX0_strike_115 (by decide) ?_
                    exact ih80 (i + 1) ((zup (f2) (i) ((f2) (i) + (zcl ((g2) (i) + (1000 * (h_12) (i)).tdiv (pma q)) (-1000000000) 1000000000).tdiv 1000))) ((zup (g2) (i) (zcl ((g2) (i) + (1000 * (h_12) (i)).tdiv (pma q)) (-1000000000) 1000000000))) (by omega) (by omega) (by omega) (zmid_s hf2 (by unfold znp; rw [(zmv (hm := hm) (mm := pma q) (g := g1) (g2 := g2) (hh_12 i (by omega) (by omega)) (zmid_at hg2 (by omega) (by omega)) (by unfold zms; split <;> omega)), zmid_at hf2 (by omega) (by omega)])) (zmid_s hg2 (zmv (hm := hm) (mm := pma q) (g := g1) (g2 := g2) (hh_12 i (by omega) (by omega)) (zmid_at hg2 (by omega) (by omega)) (by unfold zms; split <;> omega))) _ _ (zWe hw (by simp only [zU5_p3, zU5_p4, zU5_p5, zU5_p6, zU5_p7])) _ (lv_sub hl [1, 2, 3, 4, 5, 6, 0] rfl)
            exact L80 _ (0) (f1) (g1) (Nat.lt_succ_self _) (by omega) (by omega) (zmid_0 _ _ _) (zmid_0 _ _ _) _ _ (zWe hw (by simp only [zU5_p3, zU5_p4, zU5_p5, zU5_p6, zU5_p7])) _ (lv_sub hl [1, 2, 3, 4, 5, 6, 0] rfl)
      exact L64 _ (0) (0) (0) (F_5) (zup (F_8) (pn q) ((1000) * (v))) (h) (wv) (Nat.lt_succ_self _) rfl (by omega) (fun x h1 h2 => hF_5 x h1 (by omega)) (zro0 hF_8 (by omega) (by omega)) rfl (fun r9 h9 => absurd h9 (by omega)) _ _ (zWe hw (by simp only [zU5_p3, zU5_p4, zU5_p5, zU5_p6, zU5_p7])) _ (lv_sub hl [2, 3, 4, 5, 1, 0] rfl)
    · exact absurd c_4 (by omega)
