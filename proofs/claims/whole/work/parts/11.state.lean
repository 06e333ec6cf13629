set_option maxHeartbeats 4000000 in
set_option maxRecDepth 100000 in
/-- climb to the piece pi, j + 1 pieces up -/
theorem k_climb (l : Launch) (hl0 : l.stackTraces = false) (G : zG) (I : List Nat) (ad : Nat → Nat) (ct : Nat → va_E) (sz : Nat) (k : Nat) (q : zPl) (hg : zGood q) (hk : zMem4 I k) (hp : zPileAt G ad ct k q) (w p0 f0 a0 : Int) (h2m : 2 ∈ I) (h2 : ct 2 = .inr (2, [zi w, zi p0, zi f0, zi a0])) (hkk : 40 ≤ k) (hw1 : -200000 ≤ w) (hw2 : w ≤ 200000) (j : Nat) (pi : Int) (hj : j < q.1) (hpi : pi = pn q - 1 - j) : zN l yX2_climb wsX2_climb 1 23 0 0 G [.ref (ad (2)), .ref (ad (k)), zi (pi)] I ad ct zno sz (zk I (zqv fun u => u = zU ct 2 (.inr (2, [zi w, zi (zp q w j), zi (zgf q pi (zp q w j)), zi (zf q w (j + 1))])))) := by
  obtain ⟨hp0, hp1, hp2, hp3⟩ := hp
  obtain ⟨hk0, hk1, hk2, hk3⟩ := hk
  have hg0 := hg
  obtain ⟨⟨g1, g2⟩, ⟨g3, g4⟩, ⟨g5, g6⟩, ⟨g7, g8⟩, ⟨g9, g10⟩, ⟨g11, g12⟩, g13, g14, g15, g16⟩ := hg0
  have gn : (q.1 : Int) = pn q := rfl
  have rT := zmulb g9 g10 (b := w) (B := 200000) (by omega) hw2
  refine z_ofW (ret := none) hl0 (by decide +kernel) rfl (Nat.le_of_ble_eq_true rfl) ?_
  intro p e s m args below meth c A ls hA0 hsz hF hr hout hnm hw hl
  obtain ⟨hx, hb, hml, hown, hts, hK, hlk, hst⟩ := hF
  have hown : s.vm.findClass RX2 = some m.cls := hown
  have hl : lv_has ls 7 [(0, .ref (ad (2))), (1, .ref (ad (k))), (2, zi (pi))] := hl
  have w_0 := hts (.fieldLink RX2 15 "PileMoves$State" "last" "I") (by decide +kernel)
  have w_1 : ∀ w ∈ wsX20, w ∈ wsX2_climb := by decide +kernel
  have w_2 := hts (.fieldLink RX2 26 "PileMoves$State" "place" "I") (by decide +kernel)
  have w_3 := hts (.fieldLink RX2 29 "PileMoves$Pile" "tipStiff" "I") (by decide +kernel)
  have w_4 : ∀ w ∈ wsX10, w ∈ wsX2_climb := by decide +kernel
  have w_5 := hts (.fieldLink RX2 32 "PileMoves$Pile" "tipMost" "I") (by decide +kernel)
  have w_6 := hts (.initialized RX3) (by decide +kernel)
  have w_7 := hts (.static yX3_clamp) (by decide +kernel)
  have w_8 := hts (.fieldLink RX2 39 "PileMoves$State" "forceAbove" "I") (by decide +kernel)
  have w_9 := hts (.fieldLink RX2 51 "PileMoves$Pile" "stiff" "[I") (by decide +kernel)
  have w_10 := hts (.fieldLink RX2 55 "PileMoves$Pile" "sunk" "[I") (by decide +kernel)
  have w_11 := hts (.fieldLink RX2 58 "PileMoves$Pile" "most" "[I") (by decide +kernel)
  have w_12 := hts (.fieldLink RX2 61 "PileMoves$State" "groundForce" "I") (by decide +kernel)
  have w_13 := hts (.fieldLink RX2 42 "PileMoves$Pile" "spring" "I") (by decide +kernel)
  refine lv_aload_n hx hb dX2_climb_0 rfl (lv_at hl 1 rfl) ?_
  refine z_kI (z_runV (As := []) (rest := []) (k := k) (fs := [zi (psp q), zi (pma q), zi (pco q), .ref (ad (k + 1)), .ref (ad (k + 2)), .ref (ad (k + 3)), zi (pts q), zi (ptm q), zi (pjo q)]) ⟨hx, hb, hml, hown, hts⟩ hK hw (k_pieces l hl0 G I ad _ _ (k) q hg ⟨hk0, hk1, hk2, hk3⟩ ⟨hp0, hp1, hp2, hp3⟩) (cwV 0 hts gX2_climb_X1_pieces rfl rfl rfl (by decide +kernel) ⟨Nat.le_of_ble_eq_true rfl, Nat.le_of_ble_eq_true rfl⟩) hk0 hp0 rfl rfl rfl hl.1 rfl (Nat.le_of_ble_eq_true rfl) dX2_climb_1 ⟨Nat.le_of_ble_eq_true rfl, Nat.le_of_ble_eq_true rfl⟩) hw (fun r_1 ct_2 H locs hP hw => ?_)
  obtain ⟨rfl, hct⟩ := hP
  rw [hct] at hw
  clear hct
  refine z_ic hx hb dX2_climb_4 ?_
  refine z_isub hx hb dX2_climb_5 ?_
  refine lv_istore_n (lv' := [(3, zi ((pn q) - (1))), (0, .ref (ad (2))), (1, .ref (ad (k))), (2, zi (pi))]) hx hb dX2_climb_6 rfl hl (by decide) rfl (fun ls hl => ?_)
  refine lv_aload_n hx hb dX2_climb_7 rfl (lv_at hl 1 rfl) ?_
  refine lv_aload_n hx hb dX2_climb_8 rfl (lv_at hl 1 rfl) ?_
  refine z_get (C := RX2) (T := TX2) (N := 4) (fs := [zi (w), zi (p0), zi (f0), zi (a0)]) hx hb hts w_1 hown hK hw h2m h2 rfl 0 (by decide) w_0 rfl rfl dX2_climb_9 ?_
  refine z_put (C := RX2) (T := TX2) (N := 4) (fs := [zi (w), zi (p0), zi (f0), zi (a0)]) (fs' := [zi (w), zi (w), zi (f0), zi (a0)]) hx hb hts w_1 tyX2_ok nmX2 hown hK hw h2m h2 rfl 1 (by decide) w_2 rfl rfl rfl rfl (Nat.le_of_ble_eq_true rfl) rfl dX2_climb_12 (fun H locs hw => ?_)
  refine lv_aload_n hx hb dX2_climb_15 rfl (lv_at hl 1 rfl) ?_
  refine lv_aload_n hx hb dX2_climb_16 rfl (lv_at hl 2 rfl) ?_
  refine z_get (C := RX1) (T := TX1) (N := 9) (fs := [zi (psp q), zi (pma q), zi (pco q), .ref (ad (k + 1)), .ref (ad (k + 2)), .ref (ad (k + 3)), zi (pts q), zi (ptm q), zi (pjo q)]) hx hb hts w_4 hown hK hw hk0 (zU_n (by omega) hp0) rfl 6 (by decide) w_3 rfl rfl dX2_climb_17 ?_
  refine z_i2l hx hb dX2_climb_20 ⟨by omega, by omega⟩ ?_
  refine lv_aload_n hx hb dX2_climb_21 rfl (lv_at hl 1 rfl) ?_
  refine z_get (C := RX2) (T := TX2) (N := 4) (fs := [zi (w), zi (w), zi (f0), zi (a0)]) hx hb hts w_1 hown hK hw h2m (zU_s _ _ _) rfl 0 (by decide) w_0 rfl rfl dX2_climb_22 ?_
  refine z_i2l hx hb dX2_climb_25 ⟨by omega, by omega⟩ ?_
  refine z_lmul hx hb dX2_climb_26 ?_
  refine z_ic hx hb dX2_climb_27 ?_
  refine lv_aload_n hx hb dX2_climb_28 rfl (lv_at hl 2 rfl) ?_
  refine z_get (C := RX1) (T := TX1) (N := 9) (fs := [zi (psp q), zi (pma q), zi (pco q), .ref (ad (k + 1)), .ref (ad (k + 2)), .ref (ad (k + 3)), zi (pts q), zi (ptm q), zi (pjo q)]) hx hb hts w_4 hown hK hw hk0 (zU_n (by omega) hp0) rfl 7 (by decide) w_5 rfl rfl dX2_climb_29 ?_
  refine z_kI (z_runSN (As := [zl ((pts q) * (w)), zi (0), zi (ptm q)]) (rest := [.ref (ad (2))]) ⟨hx, hb, hml, hown, hts⟩ hK hw (k_clamp l hl0 G I ad _ _ ((pts q) * (w)) (0) (ptm q) ⟨by omega, by omega⟩ ⟨by decide, by decide⟩ ⟨by omega, by omega⟩) (⟨va_cnB 3 hts gX2_climb_X3_clamp_n35 rfl rfl rfl hK.2.1.2.2.2.2.1 w_6 (by decide +kernel) ⟨Nat.le_of_ble_eq_true rfl, Nat.le_of_ble_eq_true rfl⟩, w_7, trivial⟩) rfl hl.1 rfl (Nat.le_of_ble_eq_true rfl) dX2_climb_32 ⟨Nat.le_of_ble_eq_true rfl, Nat.le_of_ble_eq_true rfl⟩) hw (fun r_3 ct_4 H locs hP hw => ?_)
  obtain ⟨rfl, hct⟩ := hP
  rw [hct] at hw
  clear hct
  refine z_put (C := RX2) (T := TX2) (N := 4) (fs := [zi (w), zi (w), zi (f0), zi (a0)]) (fs' := [zi (w), zi (w), zi (f0), zi (zcl ((pts q) * (w)) (0) (ptm q))]) hx hb hts w_1 tyX2_ok nmX2 hown hK hw h2m (zU_s _ _ _) rfl 3 (by decide) w_8 rfl rfl rfl rfl (Nat.le_of_ble_eq_true rfl) rfl dX2_climb_35 (fun H locs hw => ?_)
  refine lv_iload_n hx hb dX2_climb_38 rfl (lv_at hl 0 rfl) ?_
  refine lv_istore (lv' := [(4, zi ((pn q) - (1))), (3, zi ((pn q) - (1))), (0, .ref (ad (2))), (1, .ref (ad (k))), (2, zi (pi))]) hx hb dX2_climb_39 hl (by decide) rfl (fun ls hl => ?_)
  have L41 : ∀ (nn : Nat) (K : Nat) (i : Int) (P : Int) (Gf : Int) (F : Int), (j + 1 - K) < nn → (K ≤ j + 1) → (i = pn q - 1 - K) → (K = 0 → P = w) → (∀ n : Nat, K = n + 1 → P = zp q w n) → (F = zf q w K) → (∀ n : Nat, K = n + 1 → Gf = zgf q (pn q - 1 - n) (zp q w n)) → ∀ (H : Heap) (locs : List Loc), zW G A s.heap H locs I ad (zU ct 2 (.inr (2, [zi w, zi P, zi Gf, zi F]))) → ∀ ls, lv_has ls 7 [(0, .ref (ad (2))), (1, .ref (ad (k))), (2, zi (pi)), (3, zi ((pn q) - (1))), (4, zi (i))] → W p l e ({ frames := 1, cells := 0, slots := 0, locals := 23 } : Room) s m args below meth c H locs 0 0 (vx_MQ below (zQ G A ad (zk I (zqv fun u => u = zU ct 2 (.inr (2, [zi w, zi (zp q w j), zi (zgf q pi (zp q w j)), zi (zf q w (j + 1))]))))) (zX G A I ad ct zno) args s 0 0 A) (F0 m 41 ls []) := by
    intro nn
    induction nn with
    | zero => intro K i P Gf F hme; exact absurd hme (Nat.not_lt_zero _)
    | succ nn ih41 =>
      intro K i P Gf F hme41 hKj hi hP0 hP1 hF hG H locs hw ls hl
      have bF := zf_bd2 hg w (k := K) (by omega)
      rw [← hF] at bF
      refine lv_iload hx hb dX2_climb_41 (lv_at hl 4 rfl) ?_
      refine lv_iload_n hx hb dX2_climb_43 rfl (lv_at hl 2 rfl) ?_
      refine z_icmp_lt (tgt := 152) hx hb dX2_climb_44 (by decide) ⟨by omega, by omega⟩ ⟨by omega, by omega⟩ (fun c_5 => ?_) (fun c_5 => ?_)
      · exact z_vret hx hb hlk hr hw dX2_climb_152 (Nat.zero_le _) (Nat.zero_le _) ⟨rfl, rfl, by rw [hP1 j (by omega), hG j (by omega), hF, show K = j + 1 by omega, hpi]⟩
      · refine lv_iload hx hb dX2_climb_47 (lv_at hl 4 rfl) ?_
        refine z_if_lt (tgt := 152) hx hb dX2_climb_49 (by decide) ⟨by omega, by omega⟩ (fun c_6 => ?_) (fun c_6 => ?_)
        · exact absurd c_6 (by omega)
        · refine lv_iload hx hb dX2_climb_52 (lv_at hl 4 rfl) ?_
          refine lv_iload_n hx hb dX2_climb_54 rfl (lv_at hl 3 rfl) ?_
          refine z_icmp_ge (tgt := 85) hx hb dX2_climb_55 (by decide) ⟨by omega, by omega⟩ ⟨by omega, by omega⟩ (fun c_7 => ?_) (fun c_7 => ?_)
          · have eP : (P : Int) = zp q w K := by
              rw [hP0 (by omega), show K = 0 by omega, zp_0]
            rw [eP] at hw
            have bP := zp_bd2 hg hw1 hw2 (k := K) (by omega)
            have bs := g14 (i)
            have bm := g15 (i)
            have bk := g16 (i)
            have r1 := zmulb (b := zp q w K - psk q i) (B := 40000000) bs.1 bs.2 (by omega) (by omega)
            refine lv_aload_n hx hb dX2_climb_85 rfl (lv_at hl 1 rfl) ?_
            refine z_get (C := RX1) (T := TX1) (N := 9) (fs := [zi (psp q), zi (pma q), zi (pco q), .ref (ad (k + 1)), .ref (ad (k + 2)), .ref (ad (k + 3)), zi (pts q), zi (ptm q), zi (pjo q)]) hx hb hts w_4 hown hK hw hk0 (zU_n (by omega) hp0) rfl 3 (by decide) w_9 rfl rfl dX2_climb_86 ?_
            refine lv_iload hx hb dX2_climb_89 (lv_at hl 4 rfl) ?_
            refine z_iald (f := pst q) hx hb hK hw hk1 (zU_n (by omega) hp1) (by omega) (by omega) (by omega) dX2_climb_91 ?_
            refine z_i2l hx hb dX2_climb_92 ⟨by omega, by omega⟩ ?_
            refine lv_aload_n hx hb dX2_climb_93 rfl (lv_at hl 0 rfl) ?_
            refine z_get (C := RX2) (T := TX2) (N := 4) (fs := [zi (w), zi (zp q w K), zi (Gf), zi (F)]) hx hb hts w_1 hown hK hw h2m (zU_s _ _ _) rfl 1 (by decide) w_2 rfl rfl dX2_climb_94 ?_
            refine lv_aload_n hx hb dX2_climb_97 rfl (lv_at hl 1 rfl) ?_
            refine z_get (C := RX1) (T := TX1) (N := 9) (fs := [zi (psp q), zi (pma q), zi (pco q), .ref (ad (k + 1)), .ref (ad (k + 2)), .ref (ad (k + 3)), zi (pts q), zi (ptm q), zi (pjo q)]) hx hb hts w_4 hown hK hw hk0 (zU_n (by omega) hp0) rfl 5 (by decide) w_10 rfl rfl dX2_climb_98 ?_
            refine lv_iload hx hb dX2_climb_101 (lv_at hl 4 rfl) ?_
            refine z_iald (f := psk q) hx hb hK hw hk3 (zU_n (by omega) hp3) (by omega) (by omega) (by omega) dX2_climb_103 ?_
            refine z_isub hx hb dX2_climb_104 ?_
            refine z_i2l hx hb dX2_climb_105 ⟨by omega, by omega⟩ ?_
            refine z_lmul hx hb dX2_climb_106 ?_
            refine lv_lstore (lv' := [(5, zl (((pst q) (i)) * ((zp q w K) - ((psk q) (i))))), (0, .ref (ad (2))), (1, .ref (ad (k))), (2, zi (pi)), (3, zi ((pn q) - (1))), (4, zi (i))]) hx hb dX2_climb_107 hl (by decide) rfl (fun ls hl => ?_)
            refine lv_aload_n hx hb dX2_climb_109 rfl (lv_at hl 1 rfl) ?_
            refine lv_lload hx hb dX2_climb_110 (lv_at hl 0 rfl) ?_
            refine lv_aload_n hx hb dX2_climb_112 rfl (lv_at hl 2 rfl) ?_
            refine z_get (C := RX1) (T := TX1) (N := 9) (fs := [zi (psp q), zi (pma q), zi (pco q), .ref (ad (k + 1)), .ref (ad (k + 2)), .ref (ad (k + 3)), zi (pts q), zi (ptm q), zi (pjo q)]) hx hb hts w_4 hown hK hw hk0 (zU_n (by omega) hp0) rfl 4 (by decide) w_11 rfl rfl dX2_climb_113 ?_
            refine lv_iload hx hb dX2_climb_116 (lv_at hl 5 rfl) ?_
            refine z_iald (f := pmo q) hx hb hK hw hk2 (zU_n (by omega) hp2) (by omega) (by omega) (by omega) dX2_climb_118 ?_
            refine z_ineg hx hb dX2_climb_119 ?_
            refine lv_aload_n hx hb dX2_climb_120 rfl (lv_at hl 2 rfl) ?_
            refine z_get (C := RX1) (T := TX1) (N := 9) (fs := [zi (psp q), zi (pma q), zi (pco q), .ref (ad (k + 1)), .ref (ad (k + 2)), .ref (ad (k + 3)), zi (pts q), zi (ptm q), zi (pjo q)]) hx hb hts w_4 hown hK hw hk0 (zU_n (by omega) hp0) rfl 4 (by decide) w_11 rfl rfl dX2_climb_121 ?_
            refine lv_iload hx hb dX2_climb_124 (lv_at hl 5 rfl) ?_
            refine z_iald (f := pmo q) hx hb hK hw hk2 (zU_n (by omega) hp2) (by omega) (by omega) (by omega) dX2_climb_126 ?_
            refine z_kI (z_runSN (As := [zl (((pst q) (i)) * ((zp q w K) - ((psk q) (i)))), zi (-((pmo q) (i))), zi ((pmo q) (i))]) (rest := [.ref (ad (2))]) ⟨hx, hb, hml, hown, hts⟩ hK hw (k_clamp l hl0 G I ad _ _ (((pst q) (i)) * ((zp q w K) - ((psk q) (i)))) (-((pmo q) (i))) ((pmo q) (i)) ⟨by omega, by omega⟩ ⟨by omega, by omega⟩ ⟨by omega, by omega⟩) (⟨va_cnB 3 hts gX2_climb_X3_clamp_n35 rfl rfl rfl hK.2.1.2.2.2.2.1 w_6 (by decide +kernel) ⟨Nat.le_of_ble_eq_true rfl, Nat.le_of_ble_eq_true rfl⟩, w_7, trivial⟩) rfl hl.1 rfl (Nat.le_of_ble_eq_true rfl) dX2_climb_127 ⟨Nat.le_of_ble_eq_true rfl, Nat.le_of_ble_eq_true rfl⟩) hw (fun r_8 ct_9 H locs hP hw => ?_)
            obtain ⟨rfl, hct⟩ := hP
            rw [hct] at hw
            clear hct
            refine z_put (C := RX2) (T := TX2) (N := 4) (fs := [zi (w), zi (zp q w K), zi (Gf), zi (F)]) (fs' := [zi (w), zi (zp q w K), zi (zcl (((pst q) (i)) * ((zp q w K) - ((psk q) (i)))) (-((pmo q) (i))) ((pmo q) (i))), zi (F)]) hx hb hts w_1 tyX2_ok nmX2 hown hK hw h2m (zU_s _ _ _) rfl 2 (by decide) w_12 rfl rfl rfl rfl (Nat.le_of_ble_eq_true rfl) rfl dX2_climb_130 (fun H locs hw => ?_)
            refine lv_aload_n hx hb dX2_climb_133 rfl (lv_at hl 1 rfl) ?_
            refine lv_dup hx hb dX2_climb_134 rfl ?_
            refine z_get (C := RX2) (T := TX2) (N := 4) (fs := [zi (w), zi (zp q w K), zi (zcl (((pst q) (i)) * ((zp q w K) - ((psk q) (i)))) (-((pmo q) (i))) ((pmo q) (i))), zi (F)]) hx hb hts w_1 hown hK hw h2m (zU_s _ _ _) rfl 3 (by decide) w_8 rfl rfl dX2_climb_135 ?_
            refine lv_aload_n hx hb dX2_climb_138 rfl (lv_at hl 1 rfl) ?_
            refine z_get (C := RX2) (T := TX2) (N := 4) (fs := [zi (w), zi (zp q w K), zi (zcl (((pst q) (i)) * ((zp q w K) - ((psk q) (i)))) (-((pmo q) (i))) ((pmo q) (i))), zi (F)]) hx hb hts w_1 hown hK hw h2m (zU_s _ _ _) rfl 2 (by decide) w_12 rfl rfl dX2_climb_139 ?_
            refine z_iadd hx hb dX2_climb_142 ?_
            refine z_put (C := RX2) (T := TX2) (N := 4) (fs := [zi (w), zi (zp q w K), zi (zcl (((pst q) (i)) * ((zp q w K) - ((psk q) (i)))) (-((pmo q) (i))) ((pmo q) (i))), zi (F)]) (fs' := [zi (w), zi (zp q w K), zi (zcl (((pst q) (i)) * ((zp q w K) - ((psk q) (i)))) (-((pmo q) (i))) ((pmo q) (i))), zi ((F) + (zcl (((pst q) (i)) * ((zp q w K) - ((psk q) (i)))) (-((pmo q) (i))) ((pmo q) (i))))]) hx hb hts w_1 tyX2_ok nmX2 hown hK hw h2m (zU_s _ _ _) rfl 3 (by decide) w_8 rfl rfl rfl rfl (Nat.le_of_ble_eq_true rfl) rfl dX2_climb_143 (fun H locs hw => ?_)
            refine z_iinc (lv' := [(4, zi (i + (-1))), (5, zl (((pst q) (i)) * ((zp q w K) - ((psk q) (i))))), (0, .ref (ad (2))), (1, .ref (ad (k))), (2, zi (pi)), (3, zi ((pn q) - (1)))]) hx hb dX2_climb_146 hl (k := 5) rfl (by decide) rfl (fun ls hl => ?_)
            refine lv_goto (tgt := 41) hx hb dX2_climb_149 (by decide) ?_
            exact ih41 (K + 1) (i + (-1)) (zp q w K) (zcl (((pst q) (i)) * ((zp q w K) - ((psk q) (i)))) (-((pmo q) (i))) ((pmo q) (i))) ((F) + (zcl (((pst q) (i)) * ((zp q w K) - ((psk q) (i)))) (-((pmo q) (i))) ((pmo q) (i)))) (by omega) (by omega) (by omega) (fun h => absurd h (by omega)) (fun n h => by rw [show n = K by omega]) (by rw [zf_s, hF, hi]; rfl) (fun n h => by rw [show n = K by omega, hi]; rfl) _ _ (zWe hw (by simp only [zU_zU])) _ (lv_sub hl [2, 3, 4, 5, 0] rfl)
          · refine lv_aload_n hx hb dX2_climb_58 rfl (lv_at hl 1 rfl) ?_
            refine z_get (C := RX1) (T := TX1) (N := 9) (fs := [zi (psp q), zi (pma q), zi (pco q), .ref (ad (k + 1)), .ref (ad (k + 2)), .ref (ad (k + 3)), zi (pts q), zi (ptm q), zi (pjo q)]) hx hb hts w_4 hown hK hw hk0 (zU_n (by omega) hp0) rfl 0 (by decide) w_13 rfl rfl dX2_climb_59 ?_
            refine z_if_le (tgt := 85) hx hb dX2_climb_62 (by decide) ⟨by omega, by omega⟩ (fun c_10 => ?_) (fun c_10 => ?_)
            · exact absurd c_10 (by omega)
            · refine lv_aload_n hx hb dX2_climb_65 rfl (lv_at hl 0 rfl) ?_
              refine lv_dup hx hb dX2_climb_66 rfl ?_
              refine z_get (C := RX2) (T := TX2) (N := 4) (fs := [zi (w), zi (P), zi (Gf), zi (F)]) hx hb hts w_1 hown hK hw h2m (zU_s _ _ _) rfl 1 (by decide) w_2 rfl rfl dX2_climb_67 ?_
              refine lv_aload_n hx hb dX2_climb_70 rfl (lv_at hl 0 rfl) ?_
              refine z_get (C := RX2) (T := TX2) (N := 4) (fs := [zi (w), zi (P), zi (Gf), zi (F)]) hx hb hts w_1 hown hK hw h2m (zU_s _ _ _) rfl 3 (by decide) w_8 rfl rfl dX2_climb_71 ?_
              refine lv_aload_n hx hb dX2_climb_74 rfl (lv_at hl 1 rfl) ?_
              refine z_get (C := RX1) (T := TX1) (N := 9) (fs := [zi (psp q), zi (pma q), zi (pco q), .ref (ad (k + 1)), .ref (ad (k + 2)), .ref (ad (k + 3)), zi (pts q), zi (ptm q), zi (pjo q)]) hx hb hts w_4 hown hK hw hk0 (zU_n (by omega) hp0) rfl 0 (by decide) w_13 rfl rfl dX2_climb_75 ?_
              refine z_kI (z_runS (As := [zi (F), zi (psp q)]) (rest := [zi (P), .ref (ad (2))]) ⟨hx, hb, hml, hown, hts⟩ hK hw (k_fdiv l hl0 G I ad _ _ (F) (psp q) ⟨by omega, by omega⟩ (by omega) (by omega)) (va_cwS 2 hts gX2_climb_J9_floorDiv_7cf53 rfl rfl rfl (by decide +kernel) ⟨Nat.le_of_ble_eq_true rfl, Nat.le_of_ble_eq_true rfl⟩) rfl hl.1 rfl (Nat.le_of_ble_eq_true rfl) dX2_climb_78 ⟨Nat.le_of_ble_eq_true rfl, Nat.le_of_ble_eq_true rfl⟩) hw (fun r_11 ct_12 H locs hP hw => ?_)
              obtain ⟨rfl, hct⟩ := hP
              rw [hct] at hw
              clear hct
              refine z_iadd hx hb dX2_climb_81 ?_
              refine z_put (C := RX2) (T := TX2) (N := 4) (fs := [zi (w), zi (P), zi (Gf), zi (F)]) (fs' := [zi (w), zi ((P) + ((F) / (psp q))), zi (Gf), zi (F)]) hx hb hts w_1 tyX2_ok nmX2 hown hK hw h2m (zU_s _ _ _) rfl 1 (by decide) w_2 rfl rfl rfl rfl (Nat.le_of_ble_eq_true rfl) rfl dX2_climb_82 (fun H locs hw => ?_)
              have eP : ((P) + ((F) / (psp q)) : Int) = zp q w K := by
                have e1 := hP1 (K - 1) (by omega)
                have e2 := zp_s q w (K - 1)
                rw [show K - 1 + 1 = K by omega] at e2
                rw [e1, hF, e2]
              rw [eP] at hw
              have bP := zp_bd2 hg hw1 hw2 (k := K) (by omega)
              have bs := g14 (i)
              have bm := g15 (i)
              have bk := g16 (i)
              have r1 := zmulb (b := zp q w K - psk q i) (B := 40000000) bs.1 bs.2 (by omega) (by omega)
              refine lv_aload_n hx hb dX2_climb_85 rfl (lv_at hl 1 rfl) ?_
              refine z_get (C := RX1) (T := TX1) (N := 9) (fs := [zi (psp q), zi (pma q), zi (pco q), .ref (ad (k + 1)), .ref (ad (k + 2)), .ref (ad (k + 3)), zi (pts q), zi (ptm q), zi (pjo q)]) hx hb hts w_4 hown hK hw hk0 (zU_n (by omega) (zU_n (by omega) hp0)) rfl 3 (by decide) w_9 rfl rfl dX2_climb_86 ?_
              refine lv_iload hx hb dX2_climb_89 (lv_at hl 4 rfl) ?_
              refine z_iald (f := pst q) hx hb hK hw hk1 (zU_n (by omega) (zU_n (by omega) hp1)) (by omega) (by omega) (by omega) dX2_climb_91 ?_
              refine z_i2l hx hb dX2_climb_92 ⟨by omega, by omega⟩ ?_
              refine lv_aload_n hx hb dX2_climb_93 rfl (lv_at hl 0 rfl) ?_
              refine z_get (C := RX2) (T := TX2) (N := 4) (fs := [zi (w), zi (zp q w K), zi (Gf), zi (F)]) hx hb hts w_1 hown hK hw h2m (zU_s _ _ _) rfl 1 (by decide) w_2 rfl rfl dX2_climb_94 ?_
              refine lv_aload_n hx hb dX2_climb_97 rfl (lv_at hl 1 rfl) ?_
              refine z_get (C := RX1) (T := TX1) (N := 9) (fs := [zi (psp q), zi (pma q), zi (pco q), .ref (ad (k + 1)), .ref (ad (k + 2)), .ref (ad (k + 3)), zi (pts q), zi (ptm q), zi (pjo q)]) hx hb hts w_4 hown hK hw hk0 (zU_n (by omega) (zU_n (by omega) hp0)) rfl 5 (by decide) w_10 rfl rfl dX2_climb_98 ?_
              refine lv_iload hx hb dX2_climb_101 (lv_at hl 4 rfl) ?_
              refine z_iald (f := psk q) hx hb hK hw hk3 (zU_n (by omega) (zU_n (by omega) hp3)) (by omega) (by omega) (by omega) dX2_climb_103 ?_
              refine z_isub hx hb dX2_climb_104 ?_
              refine z_i2l hx hb dX2_climb_105 ⟨by omega, by omega⟩ ?_
              refine z_lmul hx hb dX2_climb_106 ?_
              refine lv_lstore (lv' := [(5, zl (((pst q) (i)) * ((zp q w K) - ((psk q) (i))))), (0, .ref (ad (2))), (1, .ref (ad (k))), (2, zi (pi)), (3, zi ((pn q) - (1))), (4, zi (i))]) hx hb dX2_climb_107 hl (by decide) rfl (fun ls hl => ?_)
              refine lv_aload_n hx hb dX2_climb_109 rfl (lv_at hl 1 rfl) ?_
              refine lv_lload hx hb dX2_climb_110 (lv_at hl 0 rfl) ?_
              refine lv_aload_n hx hb dX2_climb_112 rfl (lv_at hl 2 rfl) ?_
              refine z_get (C := RX1) (T := TX1) (N := 9) (fs := [zi (psp q), zi (pma q), zi (pco q), .ref (ad (k + 1)), .ref (ad (k + 2)), .ref (ad (k + 3)), zi (pts q), zi (ptm q), zi (pjo q)]) hx hb hts w_4 hown hK hw hk0 (zU_n (by omega) (zU_n (by omega) hp0)) rfl 4 (by decide) w_11 rfl rfl dX2_climb_113 ?_
              refine lv_iload hx hb dX2_climb_116 (lv_at hl 5 rfl) ?_
              refine z_iald (f := pmo q) hx hb hK hw hk2 (zU_n (by omega) (zU_n (by omega) hp2)) (by omega) (by omega) (by omega) dX2_climb_118 ?_
              refine z_ineg hx hb dX2_climb_119 ?_
              refine lv_aload_n hx hb dX2_climb_120 rfl (lv_at hl 2 rfl) ?_
              refine z_get (C := RX1) (T := TX1) (N := 9) (fs := [zi (psp q), zi (pma q), zi (pco q), .ref (ad (k + 1)), .ref (ad (k + 2)), .ref (ad (k + 3)), zi (pts q), zi (ptm q), zi (pjo q)]) hx hb hts w_4 hown hK hw hk0 (zU_n (by omega) (zU_n (by omega) hp0)) rfl 4 (by decide) w_11 rfl rfl dX2_climb_121 ?_
              refine lv_iload hx hb dX2_climb_124 (lv_at hl 5 rfl) ?_
              refine z_iald (f := pmo q) hx hb hK hw hk2 (zU_n (by omega) (zU_n (by omega) hp2)) (by omega) (by omega) (by omega) dX2_climb_126 ?_
              refine z_kI (z_runSN (As := [zl (((pst q) (i)) * ((zp q w K) - ((psk q) (i)))), zi (-((pmo q) (i))), zi ((pmo q) (i))]) (rest := [.ref (ad (2))]) ⟨hx, hb, hml, hown, hts⟩ hK hw (k_clamp l hl0 G I ad _ _ (((pst q) (i)) * ((zp q w K) - ((psk q) (i)))) (-((pmo q) (i))) ((pmo q) (i)) ⟨by omega, by omega⟩ ⟨by omega, by omega⟩ ⟨by omega, by omega⟩) (⟨va_cnB 3 hts gX2_climb_X3_clamp_n35 rfl rfl rfl hK.2.1.2.2.2.2.1 w_6 (by decide +kernel) ⟨Nat.le_of_ble_eq_true rfl, Nat.le_of_ble_eq_true rfl⟩, w_7, trivial⟩) rfl hl.1 rfl (Nat.le_of_ble_eq_true rfl) dX2_climb_127 ⟨Nat.le_of_ble_eq_true rfl, Nat.le_of_ble_eq_true rfl⟩) hw (fun r_13 ct_14 H locs hP hw => ?_)
              obtain ⟨rfl, hct⟩ := hP
              rw [hct] at hw
              clear hct
              refine z_put (C := RX2) (T := TX2) (N := 4) (fs := [zi (w), zi (zp q w K), zi (Gf), zi (F)]) (fs' := [zi (w), zi (zp q w K), zi (zcl (((pst q) (i)) * ((zp q w K) - ((psk q) (i)))) (-((pmo q) (i))) ((pmo q) (i))), zi (F)]) hx hb hts w_1 tyX2_ok nmX2 hown hK hw h2m (zU_s _ _ _) rfl 2 (by decide) w_12 rfl rfl rfl rfl (Nat.le_of_ble_eq_true rfl) rfl dX2_climb_130 (fun H locs hw => ?_)
              refine lv_aload_n hx hb dX2_climb_133 rfl (lv_at hl 1 rfl) ?_
              refine lv_dup hx hb dX2_climb_134 rfl ?_
              refine z_get (C := RX2) (T := TX2) (N := 4) (fs := [zi (w), zi (zp q w K), zi (zcl (((pst q) (i)) * ((zp q w K) - ((psk q) (i)))) (-((pmo q) (i))) ((pmo q) (i))), zi (F)]) hx hb hts w_1 hown hK hw h2m (zU_s _ _ _) rfl 3 (by decide) w_8 rfl rfl dX2_climb_135 ?_
              refine lv_aload_n hx hb dX2_climb_138 rfl (lv_at hl 1 rfl) ?_
              refine z_get (C := RX2) (T := TX2) (N := 4) (fs := [zi (w), zi (zp q w K), zi (zcl (((pst q) (i)) * ((zp q w K) - ((psk q) (i)))) (-((pmo q) (i))) ((pmo q) (i))), zi (F)]) hx hb hts w_1 hown hK hw h2m (zU_s _ _ _) rfl 2 (by decide) w_12 rfl rfl dX2_climb_139 ?_
              refine z_iadd hx hb dX2_climb_142 ?_
              refine z_put (C := RX2) (T := TX2) (N := 4) (fs := [zi (w), zi (zp q w K), zi (zcl (((pst q) (i)) * ((zp q w K) - ((psk q) (i)))) (-((pmo q) (i))) ((pmo q) (i))), zi (F)]) (fs' := [zi (w), zi (zp q w K), zi (zcl (((pst q) (i)) * ((zp q w K) - ((psk q) (i)))) (-((pmo q) (i))) ((pmo q) (i))), zi ((F) + (zcl (((pst q) (i)) * ((zp q w K) - ((psk q) (i)))) (-((pmo q) (i))) ((pmo q) (i))))]) hx hb hts w_1 tyX2_ok nmX2 hown hK hw h2m (zU_s _ _ _) rfl 3 (by decide) w_8 rfl rfl rfl rfl (Nat.le_of_ble_eq_true rfl) rfl dX2_climb_143 (fun H locs hw => ?_)
              refine z_iinc (lv' := [(4, zi (i + (-1))), (5, zl (((pst q) (i)) * ((zp q w K) - ((psk q) (i))))), (0, .ref (ad (2))), (1, .ref (ad (k))), (2, zi (pi)), (3, zi ((pn q) - (1)))]) hx hb dX2_climb_146 hl (k := 5) rfl (by decide) rfl (fun ls hl => ?_)
              refine lv_goto (tgt := 41) hx hb dX2_climb_149 (by decide) ?_
              exact ih41 (K + 1) (i + (-1)) (zp q w K) (zcl (((pst q) (i)) * ((zp q w K) - ((psk q) (i)))) (-((pmo q) (i))) ((pmo q) (i))) ((F) + (zcl (((pst q) (i)) * ((zp q w K) - ((psk q) (i)))) (-((pmo q) (i))) ((pmo q) (i)))) (by omega) (by omega) (by omega) (fun h => absurd h (by omega)) (fun n h => by rw [show n = K by omega]) (by rw [zf_s, hF, hi]; rfl) (fun n h => by rw [show n = K by omega, hi]; rfl) _ _ (zWe hw (by simp only [zU_zU])) _ (lv_sub hl [2, 3, 4, 5, 0] rfl)
  exact L41 _ (0) ((pn q) - (1)) (w) (f0) (zcl ((pts q) * (w)) (0) (ptm q)) (Nat.lt_succ_self _) (by omega) (by omega) (fun _ => rfl) (fun n h => absurd h (by omega)) rfl (fun n h => absurd h (by omega)) _ _ (zWe hw (by simp only [zU_zU])) _ (lv_sub hl [2, 3, 4, 1, 0] rfl)

theorem k_climb0 (l : Launch) (hl0 : l.stackTraces = false) (G : zG) (I : List Nat) (ad : Nat → Nat) (ct : Nat → va_E) (sz : Nat) (k : Nat) (q : zPl) (hg : zGood q) (hk : zMem4 I k) (hp : zPileAt G ad ct k q) (w p0 f0 a0 : Int) (h2m : 2 ∈ I) (h2 : ct 2 = .inr (2, [zi w, zi p0, zi f0, zi a0])) (hkk : 40 ≤ k) (hw1 : -200000 ≤ w) (hw2 : w ≤ 200000) : zN l yX2_climb wsX2_climb 1 23 0 0 G [.ref (ad (2)), .ref (ad (k)), zi (0)] I ad ct zno sz (zk I (zqv fun u => u = zU ct 2 (.inr (2, [zi w, zi (zhp q w), zi (zgf q 0 (zhp q w)), zi (zld q w)])))) := by
  have gn : (q.1 : Int) = pn q := rfl
  have g1 := hg.1.1
  have h := k_climb l hl0 G I ad ct sz k q hg hk hp w p0 f0 a0 h2m h2 hkk hw1 hw2 (q.1 - 1) 0 (by omega) (by omega)
  rw [show q.1 - 1 + 1 = q.1 by omega] at h
  exact h

set_option maxHeartbeats 4000000 in
set_option maxRecDepth 100000 in
/-- find -/
theorem k_find (l : Launch) (hl0 : l.stackTraces = false) (G : zG) (I : List Nat) (ad : Nat → Nat) (ct : Nat → va_E) (sz : Nat) (k : Nat) (q : zPl) (hg : zGood q) (hk : zMem4 I k) (hp : zPileAt G ad ct k q) (w p0 f0 a0 : Int) (h2m : 2 ∈ I) (h2 : ct 2 = .inr (2, [zi w, zi p0, zi f0, zi a0])) (hkk : 40 ≤ k) (b : Bool) (bd : Int) (hbd : zr bd) : zN l yX2_find wsX2_find 2 49 0 0 G [.ref (ad (2)), .ref (ad (k)), zi (bd), zi (zb (b = true))] I ad ct zno sz (zk I (zqi fun z u => z = zb (-100000 ≤ zg q b bd) ∧ u = zU ct 2 (.inr (2, [zi (zg q b bd), zi (zhp q (zg q b bd)), zi (zgf q 0 (zhp q (zg q b bd))), zi (zld q (zg q b bd))])))) := by
  obtain ⟨hp0, hp1, hp2, hp3⟩ := hp
  obtain ⟨hk0, hk1, hk2, hk3⟩ := hk
  have hg0 := hg
  obtain ⟨⟨g1, g2⟩, ⟨g3, g4⟩, ⟨g5, g6⟩, ⟨g7, g8⟩, ⟨g9, g10⟩, ⟨g11, g12⟩, g13, g14, g15, g16⟩ := hg0
  have gn : (q.1 : Int) = pn q := rfl
  refine z_ofW (ret := (some .boolean)) hl0 (by decide +kernel) rfl (Nat.le_of_ble_eq_true rfl) ?_
  intro p e s m args below meth c A ls hA0 hsz hF hr hout hnm hw hl
  obtain ⟨hx, hb, hml, hown, hts, hK, hlk, hst⟩ := hF
  have hown : s.vm.findClass RX2 = some m.cls := hown
  have hl : lv_has ls 6 [(0, .ref (ad (2))), (1, .ref (ad (k))), (2, zi (bd)), (3, zi (zb (b = true)))] := hl
  have w_0 := hts (.constant RX2 64 (-100001)) (by decide +kernel)
  have w_1 := hts (.constant RX2 65 (131072)) (by decide +kernel)
  have w_2 := hts (.fieldLink RX2 15 "PileMoves$State" "last" "I") (by decide +kernel)
  have w_3 : ∀ w ∈ wsX20, w ∈ wsX2_find := by decide +kernel
  have w_4 := hts (.constant RX2 70 (-100000)) (by decide +kernel)
  have w_5 := hts (.constant RX2 19 (100000)) (by decide +kernel)
  have w_6 := hts (.fieldLink RX2 26 "PileMoves$State" "place" "I") (by decide +kernel)
  have w_7 := hts (.fieldLink RX2 39 "PileMoves$State" "forceAbove" "I") (by decide +kernel)
  refine z_ldc (n := -100001) hx hb hown w_0 (by decide) dX2_find_0 ?_
  refine lv_istore (lv' := [(4, zi (-100001)), (0, .ref (ad (2))), (1, .ref (ad (k))), (2, zi (bd)), (3, zi (zb (b = true)))]) hx hb dX2_find_2 hl (by decide) rfl (fun ls hl => ?_)
  refine z_ldc (n := 131072) hx hb hown w_1 (by decide) dX2_find_4 ?_
  refine lv_istore (lv' := [(5, zi (131072)), (4, zi (-100001)), (0, .ref (ad (2))), (1, .ref (ad (k))), (2, zi (bd)), (3, zi (zb (b = true)))]) hx hb dX2_find_6 hl (by decide) rfl (fun ls hl => ?_)
  have L8 : ∀ (nn : Nat) (f : Int) (s2 : Int) (w1 : Int) (p1 : Int) (f1 : Int) (a1 : Int), (s2.toNat) < nn → (zSch (zin q b bd) f s2) → ∀ (H : Heap) (locs : List Loc), zW G A s.heap H locs I ad (zU ct 2 (.inr (2, [zi w1, zi p1, zi f1, zi a1]))) → ∀ ls, lv_has ls 6 [(0, .ref (ad (2))), (1, .ref (ad (k))), (2, zi (bd)), (3, zi (zb (b = true))), (4, zi (f)), (5, zi (s2))] → W p l e ({ frames := 2, cells := 0, slots := 0, locals := 49 } : Room) s m args below meth c H locs 0 0 (vx_MQ below (zQ G A ad (zk I (zqi fun z u => z = zb (-100000 ≤ zg q b bd) ∧ u = zU ct 2 (.inr (2, [zi (zg q b bd), zi (zhp q (zg q b bd)), zi (zgf q 0 (zhp q (zg q b bd))), zi (zld q (zg q b bd))]))))) (zX G A I ad ct zno) args s 0 0 A) (F0 m 8 ls []) := by
    intro nn
    induction nn with
    | zero => intro f s2 w1 p1 f1 a1 hme; exact absurd hme (Nat.not_lt_zero _)
    | succ nn ih8 =>
      intro f s2 w1 p1 f1 a1 hme8 hz H locs hw ls hl
      have q1 := hz.1
      have q2 := hz.2.1
      have q4 := hz.2.2.2.1
      have q5 := hz.2.2.2.2.1
      refine lv_iload hx hb dX2_find_8 (lv_at hl 5 rfl) ?_
      refine z_if_le (tgt := 74) hx hb dX2_find_10 (by decide) ⟨by omega, by omega⟩ (fun c_1 => ?_) (fun c_1 => ?_)
      · have es : s2 = 0 := by have := hz.2.2.2.1; omega
        rw [es] at hz
        have ef : f = zg q b bd := zg_uniq (zSch_done hz) (zg_is q b bd)
        refine lv_aload_n hx hb dX2_find_74 rfl (lv_at hl 0 rfl) ?_
        refine lv_iload hx hb dX2_find_75 (lv_at hl 4 rfl) ?_
        refine z_put (C := RX2) (T := TX2) (N := 4) (fs := [zi (w1), zi (p1), zi (f1), zi (a1)]) (fs' := [zi (f), zi (p1), zi (f1), zi (a1)]) hx hb hts w_3 tyX2_ok nmX2 hown hK hw h2m (zU_s _ _ _) rfl 0 (by decide) w_2 rfl rfl rfl rfl (Nat.le_of_ble_eq_true rfl) rfl dX2_find_77 (fun H locs hw => ?_)
        refine lv_aload_n hx hb dX2_find_80 rfl (lv_at hl 0 rfl) ?_
        refine lv_aload_n hx hb dX2_find_81 rfl (lv_at hl 1 rfl) ?_
        refine z_ic hx hb dX2_find_82 ?_
        refine z_kV (z_runV (As := [.ref (ad (k)), zi (0)]) (rest := []) (k := 2) (fs := [zi (f), zi (p1), zi (f1), zi (a1)]) ⟨hx, hb, hml, hown, hts⟩ hK hw (k_climb0 l hl0 G I ad _ _ (k) q hg ⟨hk0, hk1, hk2, hk3⟩ ⟨(zU_n (by omega) (zU_n (by omega) hp0)), (zU_n (by omega) (zU_n (by omega) hp1)), (zU_n (by omega) (zU_n (by omega) hp2)), (zU_n (by omega) (zU_n (by omega) hp3))⟩ (f) (p1) (f1) (a1) h2m (zU_s _ _ _) (by omega) (by omega) (by omega)) (cwV 2 hts gX2_find_X2_climb rfl rfl rfl (by decide +kernel) ⟨Nat.le_of_ble_eq_true rfl, Nat.le_of_ble_eq_true rfl⟩) h2m (zU_s _ _ _) rfl rfl rfl hl.1 rfl (Nat.le_of_ble_eq_true rfl) dX2_find_83 ⟨Nat.le_of_ble_eq_true rfl, Nat.le_of_ble_eq_true rfl⟩) hw (fun ct_3 H locs hP hw => ?_)
        rw [hP] at hw
        clear hP
        refine lv_iload hx hb dX2_find_86 (lv_at hl 4 rfl) ?_
        refine z_ldc (n := -100000) hx hb hown w_4 (by decide) dX2_find_88 ?_
        refine z_icmp_lt (tgt := 97) hx hb dX2_find_90 (by decide) ⟨by omega, by omega⟩ ⟨by decide, by decide⟩ (fun c_4 => ?_) (fun c_4 => ?_)
        · refine z_ic hx hb dX2_find_97 ?_
          exact z_zret hx hb hlk hr hw (Or.inl rfl) dX2_find_98 (Nat.zero_le _) (Nat.zero_le _) ⟨rfl, _, rfl, ⟨by rw [← ef]; show _ = ite _ _ _; split <;> omega, by simp only [zU_zU, ef]⟩⟩
        · refine z_ic hx hb dX2_find_93 ?_
          refine lv_goto (tgt := 98) hx hb dX2_find_94 (by decide) ?_
          exact z_zret hx hb hlk hr hw (Or.inr rfl) dX2_find_98 (Nat.zero_le _) (Nat.zero_le _) ⟨rfl, _, rfl, ⟨by rw [← ef]; show _ = ite _ _ _; split <;> omega, by simp only [zU_zU, ef]⟩⟩
      · refine lv_aload_n hx hb dX2_find_13 rfl (lv_at hl 0 rfl) ?_
        refine lv_iload hx hb dX2_find_14 (lv_at hl 4 rfl) ?_
        refine lv_iload hx hb dX2_find_16 (lv_at hl 5 rfl) ?_
        refine z_iadd hx hb dX2_find_18 ?_
        refine z_put (C := RX2) (T := TX2) (N := 4) (fs := [zi (w1), zi (p1), zi (f1), zi (a1)]) (fs' := [zi ((f) + (s2)), zi (p1), zi (f1), zi (a1)]) hx hb hts w_3 tyX2_ok nmX2 hown hK hw h2m (zU_s _ _ _) rfl 0 (by decide) w_2 rfl rfl rfl rfl (Nat.le_of_ble_eq_true rfl) rfl dX2_find_19 (fun H locs hw => ?_)
        refine lv_aload_n hx hb dX2_find_22 rfl (lv_at hl 0 rfl) ?_
        refine z_get (C := RX2) (T := TX2) (N := 4) (fs := [zi ((f) + (s2)), zi (p1), zi (f1), zi (a1)]) hx hb hts w_3 hown hK hw h2m (zU_s _ _ _) rfl 0 (by decide) w_2 rfl rfl dX2_find_23 ?_
        refine z_ldc (n := 100000) hx hb hown w_5 (by decide) dX2_find_26 ?_
        refine z_icmp_le (tgt := 34) hx hb dX2_find_28 (by decide) ⟨by omega, by omega⟩ ⟨by decide, by decide⟩ (fun c_5 => ?_) (fun c_5 => ?_)
        · refine lv_aload_n hx hb dX2_find_34 rfl (lv_at hl 0 rfl) ?_
          refine lv_aload_n hx hb dX2_find_35 rfl (lv_at hl 1 rfl) ?_
          refine z_ic hx hb dX2_find_36 ?_
          refine z_kV (z_runV (As := [.ref (ad (k)), zi (0)]) (rest := []) (k := 2) (fs := [zi ((f) + (s2)), zi (p1), zi (f1), zi (a1)]) ⟨hx, hb, hml, hown, hts⟩ hK hw (k_climb0 l hl0 G I ad _ _ (k) q hg ⟨hk0, hk1, hk2, hk3⟩ ⟨(zU_n (by omega) (zU_n (by omega) hp0)), (zU_n (by omega) (zU_n (by omega) hp1)), (zU_n (by omega) (zU_n (by omega) hp2)), (zU_n (by omega) (zU_n (by omega) hp3))⟩ ((f) + (s2)) (p1) (f1) (a1) h2m (zU_s _ _ _) (by omega) (by omega) (by omega)) (cwV 2 hts gX2_find_X2_climb rfl rfl rfl (by decide +kernel) ⟨Nat.le_of_ble_eq_true rfl, Nat.le_of_ble_eq_true rfl⟩) h2m (zU_s _ _ _) rfl rfl rfl hl.1 rfl (Nat.le_of_ble_eq_true rfl) dX2_find_37 ⟨Nat.le_of_ble_eq_true rfl, Nat.le_of_ble_eq_true rfl⟩) hw (fun ct_7 H locs hP hw => ?_)
          rw [hP] at hw
          clear hP
          refine lv_iload_n hx hb dX2_find_40 rfl (lv_at hl 3 rfl) ?_
          refine z_ifb_eq (tgt := 51) hx hb dX2_find_41 (by decide) (fun c_8 => ?_) (fun c_8 => ?_)
          · refine lv_aload_n hx hb dX2_find_51 rfl (lv_at hl 0 rfl) ?_
            refine z_get (C := RX2) (T := TX2) (N := 4) (fs := [zi ((f) + (s2)), zi (zhp q ((f) + (s2))), zi (zgf q 0 (zhp q ((f) + (s2)))), zi (zld q ((f) + (s2)))]) hx hb hts w_3 hown hK hw h2m (zU_s _ _ _) rfl 1 (by decide) w_6 rfl rfl dX2_find_52 ?_
            refine lv_iload_n hx hb dX2_find_55 rfl (lv_at hl 2 rfl) ?_
            refine z_icmp_gt (tgt := 65) hx hb dX2_find_56 (by decide) ⟨by have := zp_bd2 hg (w := ((f) + (s2))) (by omega) (by omega) (k := q.1 - 1) (by omega); unfold zhp; omega, by have := zp_bd2 hg (w := ((f) + (s2))) (by omega) (by omega) (k := q.1 - 1) (by omega); unfold zhp; omega⟩ ⟨by omega, by omega⟩ (fun c_9 => ?_) (fun c_9 => ?_)
            · refine lv_iload hx hb dX2_find_65 (lv_at hl 5 rfl) ?_
              refine z_ic hx hb dX2_find_67 ?_
              refine z_idiv hx hb dX2_find_68 ⟨by omega, by omega⟩ ⟨by decide, by decide⟩ (by decide) ?_
              refine lv_istore (lv' := [(5, zi ((s2).tdiv (2))), (0, .ref (ad (2))), (1, .ref (ad (k))), (2, zi (bd)), (3, zi (zb (b = true))), (4, zi (f))]) hx hb dX2_find_69 hl (by decide) rfl (fun ls hl => ?_)
              refine lv_goto (tgt := 8) hx hb dX2_find_71 (by decide) ?_
              obtain ⟨-, b2, b3, -⟩ := zp2_half hz.2.2.1 (by omega)
              have hbt : b = false := by simpa using c_8
              exact ih8 (f) ((s2).tdiv (2)) ((f) + (s2)) (zhp q ((f) + (s2))) (zgf q 0 (zhp q ((f) + (s2)))) (zld q ((f) + (s2))) (by omega) (zSch_no hz (by omega) (fun w9 v9 h1 h2 => zin_mono hg h1 h2) (by unfold zin; simp only [hbt, if_true, if_false, decide_eq_false_iff_not, Bool.false_eq_true]; omega)) _ _ (zWe hw (by simp only [zU_zU])) _ (lv_sub hl [1, 2, 3, 4, 5, 0] rfl)
            · refine lv_aload_n hx hb dX2_find_59 rfl (lv_at hl 0 rfl) ?_
              refine z_get (C := RX2) (T := TX2) (N := 4) (fs := [zi ((f) + (s2)), zi (zhp q ((f) + (s2))), zi (zgf q 0 (zhp q ((f) + (s2)))), zi (zld q ((f) + (s2)))]) hx hb hts w_3 hown hK hw h2m (zU_s _ _ _) rfl 0 (by decide) w_2 rfl rfl dX2_find_60 ?_
              refine lv_istore (lv' := [(4, zi ((f) + (s2))), (0, .ref (ad (2))), (1, .ref (ad (k))), (2, zi (bd)), (3, zi (zb (b = true))), (5, zi (s2))]) hx hb dX2_find_63 hl (by decide) rfl (fun ls hl => ?_)
              refine lv_iload hx hb dX2_find_65 (lv_at hl 5 rfl) ?_
              refine z_ic hx hb dX2_find_67 ?_
              refine z_idiv hx hb dX2_find_68 ⟨by omega, by omega⟩ ⟨by decide, by decide⟩ (by decide) ?_
              refine lv_istore (lv' := [(5, zi ((s2).tdiv (2))), (4, zi ((f) + (s2))), (0, .ref (ad (2))), (1, .ref (ad (k))), (2, zi (bd)), (3, zi (zb (b = true)))]) hx hb dX2_find_69 hl (by decide) rfl (fun ls hl => ?_)
              refine lv_goto (tgt := 8) hx hb dX2_find_71 (by decide) ?_
              obtain ⟨-, b2, b3, -⟩ := zp2_half hz.2.2.1 (by omega)
              have hbt : b = false := by simpa using c_8
              exact ih8 ((f) + (s2)) ((s2).tdiv (2)) ((f) + (s2)) (zhp q ((f) + (s2))) (zgf q 0 (zhp q ((f) + (s2)))) (zld q ((f) + (s2))) (by omega) (zSch_yes hz (by omega) (by omega) (by unfold zin; simp only [hbt, if_true, if_false, decide_eq_true_eq, Bool.false_eq_true]; omega)) _ _ (zWe hw (by simp only [zU_zU])) _ (lv_sub hl [2, 3, 4, 5, 1, 0] rfl)
          · refine lv_aload_n hx hb dX2_find_44 rfl (lv_at hl 0 rfl) ?_
            refine z_get (C := RX2) (T := TX2) (N := 4) (fs := [zi ((f) + (s2)), zi (zhp q ((f) + (s2))), zi (zgf q 0 (zhp q ((f) + (s2)))), zi (zld q ((f) + (s2)))]) hx hb hts w_3 hown hK hw h2m (zU_s _ _ _) rfl 3 (by decide) w_7 rfl rfl dX2_find_45 ?_
            refine lv_goto (tgt := 55) hx hb dX2_find_48 (by decide) ?_
            refine lv_iload_n hx hb dX2_find_55 rfl (lv_at hl 2 rfl) ?_
            refine z_icmp_gt (tgt := 65) hx hb dX2_find_56 (by decide) ⟨by have := zf_bd2 hg ((f) + (s2)) (k := q.1) (by omega); unfold zld; omega, by have := zf_bd2 hg ((f) + (s2)) (k := q.1) (by omega); unfold zld; omega⟩ ⟨by omega, by omega⟩ (fun c_10 => ?_) (fun c_10 => ?_)
            · refine lv_iload hx hb dX2_find_65 (lv_at hl 5 rfl) ?_
              refine z_ic hx hb dX2_find_67 ?_
              refine z_idiv hx hb dX2_find_68 ⟨by omega, by omega⟩ ⟨by decide, by decide⟩ (by decide) ?_
              refine lv_istore (lv' := [(5, zi ((s2).tdiv (2))), (0, .ref (ad (2))), (1, .ref (ad (k))), (2, zi (bd)), (3, zi (zb (b = true))), (4, zi (f))]) hx hb dX2_find_69 hl (by decide) rfl (fun ls hl => ?_)
              refine lv_goto (tgt := 8) hx hb dX2_find_71 (by decide) ?_
              obtain ⟨-, b2, b3, -⟩ := zp2_half hz.2.2.1 (by omega)
              have hbt : b = true := by simpa using c_8
              exact ih8 (f) ((s2).tdiv (2)) ((f) + (s2)) (zhp q ((f) + (s2))) (zgf q 0 (zhp q ((f) + (s2)))) (zld q ((f) + (s2))) (by omega) (zSch_no hz (by omega) (fun w9 v9 h1 h2 => zin_mono hg h1 h2) (by unfold zin; simp only [hbt, if_true, if_false, decide_eq_false_iff_not, Bool.false_eq_true]; omega)) _ _ (zWe hw (by simp only [zU_zU])) _ (lv_sub hl [1, 2, 3, 4, 5, 0] rfl)
            · refine lv_aload_n hx hb dX2_find_59 rfl (lv_at hl 0 rfl) ?_
              refine z_get (C := RX2) (T := TX2) (N := 4) (fs := [zi ((f) + (s2)), zi (zhp q ((f) + (s2))), zi (zgf q 0 (zhp q ((f) + (s2)))), zi (zld q ((f) + (s2)))]) hx hb hts w_3 hown hK hw h2m (zU_s _ _ _) rfl 0 (by decide) w_2 rfl rfl dX2_find_60 ?_
              refine lv_istore (lv' := [(4, zi ((f) + (s2))), (0, .ref (ad (2))), (1, .ref (ad (k))), (2, zi (bd)), (3, zi (zb (b = true))), (5, zi (s2))]) hx hb dX2_find_63 hl (by decide) rfl (fun ls hl => ?_)
              refine lv_iload hx hb dX2_find_65 (lv_at hl 5 rfl) ?_
              refine z_ic hx hb dX2_find_67 ?_
              refine z_idiv hx hb dX2_find_68 ⟨by omega, by omega⟩ ⟨by decide, by decide⟩ (by decide) ?_
              refine lv_istore (lv' := [(5, zi ((s2).tdiv (2))), (4, zi ((f) + (s2))), (0, .ref (ad (2))), (1, .ref (ad (k))), (2, zi (bd)), (3, zi (zb (b = true)))]) hx hb dX2_find_69 hl (by decide) rfl (fun ls hl => ?_)
              refine lv_goto (tgt := 8) hx hb dX2_find_71 (by decide) ?_
              obtain ⟨-, b2, b3, -⟩ := zp2_half hz.2.2.1 (by omega)
              have hbt : b = true := by simpa using c_8
              exact ih8 ((f) + (s2)) ((s2).tdiv (2)) ((f) + (s2)) (zhp q ((f) + (s2))) (zgf q 0 (zhp q ((f) + (s2)))) (zld q ((f) + (s2))) (by omega) (zSch_yes hz (by omega) (by omega) (by unfold zin; simp only [hbt, if_true, if_false, decide_eq_true_eq, Bool.false_eq_true]; omega)) _ _ (zWe hw (by simp only [zU_zU])) _ (lv_sub hl [2, 3, 4, 5, 1, 0] rfl)
        · refine lv_goto (tgt := 65) hx hb dX2_find_31 (by decide) ?_
          refine lv_iload hx hb dX2_find_65 (lv_at hl 5 rfl) ?_
          refine z_ic hx hb dX2_find_67 ?_
          refine z_idiv hx hb dX2_find_68 ⟨by omega, by omega⟩ ⟨by decide, by decide⟩ (by decide) ?_
          refine lv_istore (lv' := [(5, zi ((s2).tdiv (2))), (0, .ref (ad (2))), (1, .ref (ad (k))), (2, zi (bd)), (3, zi (zb (b = true))), (4, zi (f))]) hx hb dX2_find_69 hl (by decide) rfl (fun ls hl => ?_)
          refine lv_goto (tgt := 8) hx hb dX2_find_71 (by decide) ?_
          obtain ⟨-, b2, b3, -⟩ := zp2_half hz.2.2.1 (by omega)
          exact ih8 (f) ((s2).tdiv (2)) ((f) + (s2)) (p1) (f1) (a1) (by omega) (zSch_far hz (by omega) (by omega)) _ _ (zWe hw (by simp only [zU_zU])) _ (lv_sub hl [1, 2, 3, 4, 5, 0] rfl)
  exact L8 _ (-100001) (131072) (w) (p0) (f0) (a0) (Nat.lt_succ_self _) ⟨by decide, by decide, Or.inr ⟨17, by decide, by decide⟩, by decide, by decide, fun h => absurd h (by decide), fun w9 h1 h2 h3 => absurd h2 (by omega)⟩ _ _ (zWe hw (zU_id h2).symm) _ (lv_sub hl [2, 3, 4, 5, 1, 0] rfl)

set_option maxHeartbeats 4000000 in
set_option maxRecDepth 100000 in
theorem k_findUnder (l : Launch) (hl0 : l.stackTraces = false) (G : zG) (I : List Nat) (ad : Nat → Nat) (ct : Nat → va_E) (sz : Nat) (k : Nat) (q : zPl) (hg : zGood q) (hk : zMem4 I k) (hp : zPileAt G ad ct k q) (w p0 f0 a0 : Int) (h2m : 2 ∈ I) (h2 : ct 2 = .inr (2, [zi w, zi p0, zi f0, zi a0])) (hkk : 40 ≤ k) (bd : Int) (hbd : zr bd) : zN l yX2_findUnder wsX2_findUnder 3 74 0 0 G [.ref (ad (2)), .ref (ad (k)), zi (bd)] I ad ct zno sz (zk I (zqi fun z u => z = zb (-100000 ≤ zg q true bd ∧ zg q true bd < 100000) ∧ u = zU ct 2 (.inr (2, [zi (zg q true bd), zi (zhp q (zg q true bd)), zi (zgf q 0 (zhp q (zg q true bd))), zi (zld q (zg q true bd))])))) := by
  obtain ⟨hp0, hp1, hp2, hp3⟩ := hp
  obtain ⟨hk0, hk1, hk2, hk3⟩ := hk
  have hg0 := hg
  obtain ⟨⟨g1, g2⟩, ⟨g3, g4⟩, ⟨g5, g6⟩, ⟨g7, g8⟩, ⟨g9, g10⟩, ⟨g11, g12⟩, g13, g14, g15, g16⟩ := hg0
  have gn : (q.1 : Int) = pn q := rfl
  have gb := zg_bd q true bd
  refine z_ofW (ret := (some .boolean)) hl0 (by decide +kernel) rfl (Nat.le_of_ble_eq_true rfl) ?_
  intro p e s m args below meth c A ls hA0 hsz hF hr hout hnm hw hl
  obtain ⟨hx, hb, hml, hown, hts, hK, hlk, hst⟩ := hF
  have hown : s.vm.findClass RX2 = some m.cls := hown
  have hl : lv_has ls 3 [(0, .ref (ad (2))), (1, .ref (ad (k))), (2, zi (bd))] := hl
  have w_0 := hts (.fieldLink RX2 15 "PileMoves$State" "last" "I") (by decide +kernel)
  have w_1 : ∀ w ∈ wsX20, w ∈ wsX2_findUnder := by decide +kernel
  have w_2 := hts (.constant RX2 19 (100000)) (by decide +kernel)
  refine lv_aload_n hx hb dX2_findUnder_0 rfl (lv_at hl 0 rfl) ?_
  refine lv_aload_n hx hb dX2_findUnder_1 rfl (lv_at hl 1 rfl) ?_
  refine lv_iload_n hx hb dX2_findUnder_2 rfl (lv_at hl 2 rfl) ?_
  refine z_ic hx hb dX2_findUnder_3 ?_
  refine z_kI (z_runV (As := [.ref (ad (k)), zi (bd), zi (1)]) (rest := []) (k := 2) (fs := [zi (w), zi (p0), zi (f0), zi (a0)]) ⟨hx, hb, hml, hown, hts⟩ hK hw (k_find l hl0 G I ad _ _ (k) q hg ⟨hk0, hk1, hk2, hk3⟩ ⟨hp0, hp1, hp2, hp3⟩ (w) (p0) (f0) (a0) h2m h2 (by omega) true (bd) hbd) (cwV 3 hts gX2_findUnder_X2_find rfl rfl rfl (by decide +kernel) ⟨Nat.le_of_ble_eq_true rfl, Nat.le_of_ble_eq_true rfl⟩) h2m h2 rfl rfl rfl hl.1 rfl (Nat.le_of_ble_eq_true rfl) dX2_findUnder_4 ⟨Nat.le_of_ble_eq_true rfl, Nat.le_of_ble_eq_true rfl⟩) hw (fun r_1 ct_2 H locs hP hw => ?_)
  obtain ⟨rfl, hct⟩ := hP
  rw [hct] at hw
  clear hct
  refine z_ifb_eq (tgt := 23) hx hb dX2_findUnder_7 (by decide) (fun c_3 => ?_) (fun c_3 => ?_)
  · refine z_ic hx hb dX2_findUnder_23 ?_
    exact z_zret hx hb hlk hr hw (Or.inl rfl) dX2_findUnder_24 (Nat.zero_le _) (Nat.zero_le _) ⟨rfl, _, rfl, ⟨by show _ = ite _ _ _; split <;> omega, rfl⟩⟩
  · refine lv_aload_n hx hb dX2_findUnder_10 rfl (lv_at hl 0 rfl) ?_
    refine z_get (C := RX2) (T := TX2) (N := 4) (fs := [zi (zg q true (bd)), zi (zhp q (zg q true (bd))), zi (zgf q 0 (zhp q (zg q true (bd)))), zi (zld q (zg q true (bd)))]) hx hb hts w_1 hown hK hw h2m (zU_s _ _ _) rfl 0 (by decide) w_0 rfl rfl dX2_findUnder_11 ?_
    refine z_ldc (n := 100000) hx hb hown w_2 (by decide) dX2_findUnder_14 ?_
    refine z_icmp_ge (tgt := 23) hx hb dX2_findUnder_16 (by decide) ⟨by omega, by omega⟩ ⟨by decide, by decide⟩ (fun c_4 => ?_) (fun c_4 => ?_)
    · refine z_ic hx hb dX2_findUnder_23 ?_
      exact z_zret hx hb hlk hr hw (Or.inl rfl) dX2_findUnder_24 (Nat.zero_le _) (Nat.zero_le _) ⟨rfl, _, rfl, ⟨by show _ = ite _ _ _; split <;> omega, rfl⟩⟩
    · refine z_ic hx hb dX2_findUnder_19 ?_
      refine lv_goto (tgt := 24) hx hb dX2_findUnder_20 (by decide) ?_
      exact z_zret hx hb hlk hr hw (Or.inr rfl) dX2_findUnder_24 (Nat.zero_le _) (Nat.zero_le _) ⟨rfl, _, rfl, ⟨by show _ = ite _ _ _; split <;> omega, rfl⟩⟩

set_option maxHeartbeats 4000000 in
set_option maxRecDepth 100000 in
theorem k_findAt (l : Launch) (hl0 : l.stackTraces = false) (G : zG) (I : List Nat) (ad : Nat → Nat) (ct : Nat → va_E) (sz : Nat) (k : Nat) (q : zPl) (hg : zGood q) (hk : zMem4 I k) (hp : zPileAt G ad ct k q) (w p0 f0 a0 : Int) (h2m : 2 ∈ I) (h2 : ct 2 = .inr (2, [zi w, zi p0, zi f0, zi a0])) (hkk : 40 ≤ k) (bd : Int) (hbd : zr bd) : zN l yX2_findAt wsX2_findAt 3 74 0 0 G [.ref (ad (2)), .ref (ad (k)), zi (bd)] I ad ct zno sz (zk I (zqi fun z u => z = zb (-100000 ≤ zg q false bd) ∧ u = zU ct 2 (.inr (2, [zi (zg q false bd), zi (zhp q (zg q false bd)), zi (zgf q 0 (zhp q (zg q false bd))), zi (zld q (zg q false bd))])))) := by
  obtain ⟨hp0, hp1, hp2, hp3⟩ := hp
  obtain ⟨hk0, hk1, hk2, hk3⟩ := hk
  have hg0 := hg
  obtain ⟨⟨g1, g2⟩, ⟨g3, g4⟩, ⟨g5, g6⟩, ⟨g7, g8⟩, ⟨g9, g10⟩, ⟨g11, g12⟩, g13, g14, g15, g16⟩ := hg0
  have gn : (q.1 : Int) = pn q := rfl
  refine z_ofW (ret := (some .boolean)) hl0 (by decide +kernel) rfl (Nat.le_of_ble_eq_true rfl) ?_
  intro p e s m args below meth c A ls hA0 hsz hF hr hout hnm hw hl
  obtain ⟨hx, hb, hml, hown, hts, hK, hlk, hst⟩ := hF
  have hown : s.vm.findClass RX2 = some m.cls := hown
  have hl : lv_has ls 3 [(0, .ref (ad (2))), (1, .ref (ad (k))), (2, zi (bd))] := hl
  refine lv_aload_n hx hb dX2_findAt_0 rfl (lv_at hl 0 rfl) ?_
  refine lv_aload_n hx hb dX2_findAt_1 rfl (lv_at hl 1 rfl) ?_
  refine lv_iload_n hx hb dX2_findAt_2 rfl (lv_at hl 2 rfl) ?_
  refine z_ic hx hb dX2_findAt_3 ?_
  refine z_kI (z_runV (As := [.ref (ad (k)), zi (bd), zi (0)]) (rest := []) (k := 2) (fs := [zi (w), zi (p0), zi (f0), zi (a0)]) ⟨hx, hb, hml, hown, hts⟩ hK hw (k_find l hl0 G I ad _ _ (k) q hg ⟨hk0, hk1, hk2, hk3⟩ ⟨hp0, hp1, hp2, hp3⟩ (w) (p0) (f0) (a0) h2m h2 (by omega) false (bd) hbd) (cwV 3 hts gX2_findAt_X2_find rfl rfl rfl (by decide +kernel) ⟨Nat.le_of_ble_eq_true rfl, Nat.le_of_ble_eq_true rfl⟩) h2m h2 rfl rfl rfl hl.1 rfl (Nat.le_of_ble_eq_true rfl) dX2_findAt_4 ⟨Nat.le_of_ble_eq_true rfl, Nat.le_of_ble_eq_true rfl⟩) hw (fun r_1 ct_2 H locs hP hw => ?_)
  obtain ⟨rfl, hct⟩ := hP
  rw [hct] at hw
  clear hct
  exact z_zret hx hb hlk hr hw (by show ite _ _ _ = _ ∨ ite _ _ _ = _; split <;> omega) dX2_findAt_7 (Nat.zero_le _) (Nat.zero_le _) ⟨rfl, _, rfl, ⟨rfl, rfl⟩⟩
