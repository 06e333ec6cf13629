set_option maxHeartbeats 4000000 in
set_option maxRecDepth 100000 in
theorem k_happened (l : Launch) (hl0 : l.stackTraces = false) (G : zG) (I : List Nat) (ad : Nat → Nat) (ct : Nat → va_E) (sz : Nat) (b0 b1 : Int) (r4 r5 r6 r7 : Nat) (hI3 : 3 ∈ I) (h3 : ct 3 = .inr (0, [zi b0, zi b1, .ref r4, .ref r5, .ref r6, .ref r7])) (hb0 : zr b0) : zN l yX0_happened wsX0_happened 0 0 0 0 G [.ref (ad (3))] I ad ct zno sz (zk I (zqi fun z u => z = zb (0 < b0) ∧ u = ct)) := by
  refine z_ofW (ret := (some .boolean)) hl0 (by decide +kernel) rfl (Nat.le_of_ble_eq_true rfl) ?_
  intro p e s m args below meth c A ls hA0 hsz hF hr hout hnm hw hl
  obtain ⟨hx, hb, hml, hown, hts, hK, hlk, hst⟩ := hF
  have hown : s.vm.findClass RX0 = some m.cls := hown
  have hl : lv_has ls 1 [(0, .ref (ad (3)))] := hl
  have w_0 := hts (.fieldLink RX0 25 "PileMoves$Blow" "pieces" "I") (by decide +kernel)
  have w_1 : ∀ w ∈ wsX00, w ∈ wsX0_happened := by decide +kernel
  refine lv_aload_n hx hb dX0_happened_0 rfl (lv_at hl 0 rfl) ?_
  refine z_get (C := RX0) (T := TX0) (N := 6) (fs := [zi (b0), zi (b1), .ref r4, .ref r5, .ref r6, .ref r7]) hx hb hts w_1 hown hK hw hI3 h3 rfl 0 (by decide) w_0 rfl rfl dX0_happened_1 ?_
  refine z_if_le (tgt := 11) hx hb dX0_happened_4 (by decide) ⟨by omega, by omega⟩ (fun c_1 => ?_) (fun c_1 => ?_)
  · refine z_ic hx hb dX0_happened_11 ?_
    exact z_zret hx hb hlk hr hw (Or.inl rfl) dX0_happened_12 (Nat.zero_le _) (Nat.zero_le _) ⟨rfl, _, rfl, ⟨by show _ = ite _ _ _; split <;> omega, rfl⟩⟩
  · refine z_ic hx hb dX0_happened_7 ?_
    refine lv_goto (tgt := 12) hx hb dX0_happened_8 (by decide) ?_
    exact z_zret hx hb hlk hr hw (Or.inr rfl) dX0_happened_12 (Nat.zero_le _) (Nat.zero_le _) ⟨rfl, _, rfl, ⟨by show _ = ite _ _ _; split <;> omega, rfl⟩⟩

set_option maxHeartbeats 4000000 in
set_option maxRecDepth 100000 in
theorem k_behind (l : Launch) (hl0 : l.stackTraces = false) (G : zG) (I : List Nat) (ad : Nat → Nat) (ct : Nat → va_E) (sz : Nat) (b0 b1 : Int) (f g h wv : Int → Int) (hI3 : 3 ∈ I) (hI4 : 4 ∈ I) (hI5 : 5 ∈ I) (hI6 : 6 ∈ I) (hI7 : 7 ∈ I) (h3 : ct 3 = .inr (0, [zi b0, zi b1, .ref (ad 4), .ref (ad 5), .ref (ad 6), .ref (ad 7)])) (h4 : ct 4 = zI G 13 f) (h5 : ct 5 = zI G 13 g) (h6 : ct 6 = zL G 13 h) (h7 : ct 7 = zI G 2600 wv) (ro pi : Int) (hr0 : 0 ≤ ro) (hr1 : ro < 200) (hp0 : 0 ≤ pi) (hp1 : pi ≤ 12) : zN l yX0_behindRound wsX0_behindRound 0 0 0 0 G [.ref (ad (3)), zi (ro), zi (pi)] I ad ct zno sz (zk I (zqi fun z u => z = wv (13 * ro + pi) ∧ u = ct)) := by
  refine z_ofW (ret := (some .int)) hl0 (by decide +kernel) rfl (Nat.le_of_ble_eq_true rfl) ?_
  intro p e s m args below meth c A ls hA0 hsz hF hr hout hnm hw hl
  obtain ⟨hx, hb, hml, hown, hts, hK, hlk, hst⟩ := hF
  have hown : s.vm.findClass RX0 = some m.cls := hown
  have hl : lv_has ls 4 [(0, .ref (ad (3))), (1, zi (ro)), (2, zi (pi))] := hl
  have w_0 := hts (.fieldLink RX0 22 "PileMoves$Blow" "waves" "[I") (by decide +kernel)
  have w_1 : ∀ w ∈ wsX00, w ∈ wsX0_behindRound := by decide +kernel
  refine lv_iload_n hx hb dX0_behindRound_0 rfl (lv_at hl 1 rfl) ?_
  refine z_bi hx hb dX0_behindRound_1 (by decide) ?_
  refine z_imul hx hb dX0_behindRound_3 ?_
  refine lv_iload_n hx hb dX0_behindRound_4 rfl (lv_at hl 2 rfl) ?_
  refine z_iadd hx hb dX0_behindRound_5 ?_
  refine lv_istore_n (lv' := [(3, zi (((ro) * (13)) + (pi))), (0, .ref (ad (3))), (1, zi (ro)), (2, zi (pi))]) hx hb dX0_behindRound_6 rfl hl (by decide) rfl (fun ls hl => ?_)
  refine lv_iload_n hx hb dX0_behindRound_7 rfl (lv_at hl 0 rfl) ?_
  refine z_if_lt (tgt := 20) hx hb dX0_behindRound_8 (by decide) ⟨by omega, by omega⟩ (fun c_1 => ?_) (fun c_1 => ?_)
  · exact absurd c_1 (by omega)
  · refine lv_iload_n hx hb dX0_behindRound_11 rfl (lv_at hl 0 rfl) ?_
    refine lv_aload_n hx hb dX0_behindRound_12 rfl (lv_at hl 1 rfl) ?_
    refine z_get (C := RX0) (T := TX0) (N := 6) (fs := [zi (b0), zi (b1), .ref (ad (4)), .ref (ad (5)), .ref (ad (6)), .ref (ad (7))]) hx hb hts w_1 hown hK hw hI3 h3 rfl 5 (by decide) w_0 rfl rfl dX0_behindRound_13 ?_
    refine z_alen (n := 2600) hx hb hK hw hI7 h7 0 rfl rfl dX0_behindRound_16 ?_
    refine z_icmp_lt (tgt := 25) hx hb dX0_behindRound_17 (by decide) ⟨by omega, by omega⟩ ⟨by decide, by decide⟩ (fun c_2 => ?_) (fun c_2 => ?_)
    · refine lv_aload_n hx hb dX0_behindRound_25 rfl (lv_at hl 1 rfl) ?_
      refine z_get (C := RX0) (T := TX0) (N := 6) (fs := [zi (b0), zi (b1), .ref (ad (4)), .ref (ad (5)), .ref (ad (6)), .ref (ad (7))]) hx hb hts w_1 hown hK hw hI3 h3 rfl 5 (by decide) w_0 rfl rfl dX0_behindRound_26 ?_
      refine lv_iload_n hx hb dX0_behindRound_29 rfl (lv_at hl 0 rfl) ?_
      refine z_iald (f := wv) hx hb hK hw hI7 h7 (by omega) (by omega) (by decide) dX0_behindRound_30 ?_
      exact z_iret hx hb hlk hr hw dX0_behindRound_31 (Nat.zero_le _) (Nat.zero_le _) ⟨rfl, _, rfl, ⟨by rw [Int.mul_comm ro 13], rfl⟩⟩
    · exact absurd c_2 (by omega)

set_option maxHeartbeats 4000000 in
set_option maxRecDepth 100000 in
theorem k_press (l : Launch) (hl0 : l.stackTraces = false) (G : zG) (I : List Nat) (ad : Nat → Nat) (ct : Nat → va_E) (sz : Nat) (b0 b1 : Int) (f g h wv : Int → Int) (hI3 : 3 ∈ I) (hI4 : 4 ∈ I) (hI5 : 5 ∈ I) (hI6 : 6 ∈ I) (hI7 : 7 ∈ I) (h3 : ct 3 = .inr (0, [zi b0, zi b1, .ref (ad 4), .ref (ad 5), .ref (ad 6), .ref (ad 7)])) (h4 : ct 4 = zI G 13 f) (h5 : ct 5 = zI G 13 g) (h6 : ct 6 = zL G 13 h) (h7 : ct 7 = zI G 2600 wv) (i j fo : Int) (hi0 : 0 ≤ i) (hi1 : i < 13) (hj0 : 0 ≤ j) (hj1 : j < 13) : zN l yX0_press wsX0_press 0 0 0 0 G [.ref (ad (3)), zi (i), zi (j), zl (fo)] I ad ct zno sz (zk I (zqv fun u => u = zU ct 6 (zL G 13 (zup (zup h i (h i - fo)) j ((zup h i (h i - fo)) j + fo))))) := by
  refine z_ofW (ret := none) hl0 (by decide +kernel) rfl (Nat.le_of_ble_eq_true rfl) ?_
  intro p e s m args below meth c A ls hA0 hsz hF hr hout hnm hw hl
  obtain ⟨hx, hb, hml, hown, hts, hK, hlk, hst⟩ := hF
  have hown : s.vm.findClass RX0 = some m.cls := hown
  have hl : lv_has ls 5 [(0, .ref (ad (3))), (1, zi (i)), (2, zi (j)), (3, zl (fo))] := hl
  have w_0 := hts (.fieldLink RX0 18 "PileMoves$Blow" "pushes" "[J") (by decide +kernel)
  have w_1 : ∀ w ∈ wsX00, w ∈ wsX0_press := by decide +kernel
  refine lv_aload_n hx hb dX0_press_0 rfl (lv_at hl 0 rfl) ?_
  refine z_get (C := RX0) (T := TX0) (N := 6) (fs := [zi (b0), zi (b1), .ref (ad (4)), .ref (ad (5)), .ref (ad (6)), .ref (ad (7))]) hx hb hts w_1 hown hK hw hI3 h3 rfl 4 (by decide) w_0 rfl rfl dX0_press_1 ?_
  refine lv_iload_n hx hb dX0_press_4 rfl (lv_at hl 1 rfl) ?_
  refine lv_dup2_11 hx hb dX0_press_5 rfl rfl ?_
  refine z_lald (f := h) hx hb hK hw hI6 h6 (by omega) (by omega) (by decide) dX0_press_6 ?_
  refine lv_lload_n hx hb dX0_press_7 rfl (lv_at hl 3 rfl) ?_
  refine z_lsub hx hb dX0_press_8 ?_
  refine z_last (f := h) hx hb hK hw hI6 h6 (by omega) (by omega) (by decide) dX0_press_9 (fun H locs hw => ?_)
  refine lv_aload_n hx hb dX0_press_10 rfl (lv_at hl 0 rfl) ?_
  refine z_get (C := RX0) (T := TX0) (N := 6) (fs := [zi (b0), zi (b1), .ref (ad (4)), .ref (ad (5)), .ref (ad (6)), .ref (ad (7))]) hx hb hts w_1 hown hK hw hI3 (zU_n (by decide) h3) rfl 4 (by decide) w_0 rfl rfl dX0_press_11 ?_
  refine lv_iload_n hx hb dX0_press_14 rfl (lv_at hl 2 rfl) ?_
  refine lv_dup2_11 hx hb dX0_press_15 rfl rfl ?_
  refine z_lald (f := zup (h) (i) ((h (i)) - (fo))) hx hb hK hw hI6 (zU_s _ _ _) (by omega) (by omega) (by decide) dX0_press_16 ?_
  refine lv_lload_n hx hb dX0_press_17 rfl (lv_at hl 3 rfl) ?_
  refine z_ladd hx hb dX0_press_18 ?_
  refine z_last (f := zup (h) (i) ((h (i)) - (fo))) hx hb hK hw hI6 (zU_s _ _ _) (by omega) (by omega) (by decide) dX0_press_19 (fun H locs hw => ?_)
  exact z_vret hx hb hlk hr hw dX0_press_20 (Nat.zero_le _) (Nat.zero_le _) ⟨rfl, rfl, by simp only [zU_zU]⟩

set_option maxHeartbeats 4000000 in
set_option maxRecDepth 100000 in
theorem k_settled (l : Launch) (hl0 : l.stackTraces = false) (G : zG) (I : List Nat) (ad : Nat → Nat) (ct : Nat → va_E) (sz : Nat) (k : Nat) (q : zPl) (hg : zGood q) (hk : zMem4 I k) (hp : zPileAt G ad ct k q) (b0 b1 : Int) (r4 r5 r6 r7 : Nat) (hI3 : 3 ∈ I) (h3 : ct 3 = .inr (0, [zi b0, zi b1, .ref r4, .ref r5, .ref r6, .ref r7])) (hb1 : 0 ≤ b1 ∧ b1 ≤ 200000000) : zN l yX0_settled wsX0_settled 1 23 0 0 G [.ref (ad (3)), .ref (ad (k))] I ad ct zno sz (zk I (zqi fun z u => z = (if b1 - zqk q < 0 then 0 else b1 - zqk q) ∧ u = ct)) := by
  obtain ⟨hp0, hp1, hp2, hp3⟩ := hp
  obtain ⟨hk0, hk1, hk2, hk3⟩ := hk
  have hg0 := hg
  obtain ⟨⟨g1, g2⟩, ⟨g3, g4⟩, ⟨g5, g6⟩, ⟨g7, g8⟩, ⟨g9, g10⟩, ⟨g11, g12⟩, g13, g14, g15, g16⟩ := hg0
  have gn : (q.1 : Int) = pn q := rfl
  have gq := zqk_bd hg
  refine z_ofW (ret := (some .int)) hl0 (by decide +kernel) rfl (Nat.le_of_ble_eq_true rfl) ?_
  intro p e s m args below meth c A ls hA0 hsz hF hr hout hnm hw hl
  obtain ⟨hx, hb, hml, hown, hts, hK, hlk, hst⟩ := hF
  have hown : s.vm.findClass RX0 = some m.cls := hown
  have hl : lv_has ls 2 [(0, .ref (ad (3))), (1, .ref (ad (k)))] := hl
  have w_0 := hts (.fieldLink RX0 30 "PileMoves$Blow" "deepest" "I") (by decide +kernel)
  have w_1 : ∀ w ∈ wsX00, w ∈ wsX0_settled := by decide +kernel
  have w_2 := hts (.methodLink RX0 39 Lib.MathLoose.max_long.x) (by decide +kernel)
  have w_3 := hts (.static Lib.MathLoose.max_long.x) (by decide +kernel)
  have w_4 := hts (.initialized "java/lang/Math") (by decide +kernel)
  have w_5 := hts (.code Lib.MathLoose.max_long.x Lib.MathLoose.max_long.code 4 (some .long)) (by decide +kernel)
  refine z_lc0 hx hb dX0_settled_0 ?_
  refine lv_aload_n hx hb dX0_settled_1 rfl (lv_at hl 0 rfl) ?_
  refine z_get (C := RX0) (T := TX0) (N := 6) (fs := [zi (b0), zi (b1), .ref r4, .ref r5, .ref r6, .ref r7]) hx hb hts w_1 hown hK hw hI3 h3 rfl 1 (by decide) w_0 rfl rfl dX0_settled_2 ?_
  refine z_i2l hx hb dX0_settled_5 ⟨by omega, by omega⟩ ?_
  refine lv_aload_n hx hb dX0_settled_6 rfl (lv_at hl 1 rfl) ?_
  refine z_kL (z_runV (As := []) (rest := [zl (b1), zl (0)]) (k := k) (fs := [zi (psp q), zi (pma q), zi (pco q), .ref (ad (k + 1)), .ref (ad (k + 2)), .ref (ad (k + 3)), zi (pts q), zi (ptm q), zi (pjo q)]) ⟨hx, hb, hml, hown, hts⟩ hK hw (k_quake l hl0 G I ad _ _ (k) q hg ⟨hk0, hk1, hk2, hk3⟩ ⟨hp0, hp1, hp2, hp3⟩) (cwV 0 hts gX0_settled_X1_quake rfl rfl rfl (by decide +kernel) ⟨Nat.le_of_ble_eq_true rfl, Nat.le_of_ble_eq_true rfl⟩) hk0 hp0 rfl rfl rfl hl.1 rfl (Nat.le_of_ble_eq_true rfl) dX0_settled_7 ⟨Nat.le_of_ble_eq_true rfl, Nat.le_of_ble_eq_true rfl⟩) hw (fun r_1 ct_2 H locs hP hw => ?_)
  obtain ⟨rfl, hct⟩ := hP
  rw [hct] at hw
  clear hct
  refine z_lsub hx hb dX0_settled_10 ?_
  refine z_mmaxl hx hb (hml.trans hl.1.symm) hown w_2 w_3 w_4 w_5 (Nat.le_of_ble_eq_true rfl) (Nat.le_of_ble_eq_true rfl) (Nat.le_of_ble_eq_true rfl) (Nat.le_of_ble_eq_true rfl) ⟨by decide, by decide⟩ ⟨by omega, by omega⟩ dX0_settled_11 ?_
  have rr : zR (if (b1 - zqk q) < 0 then 0 else b1 - zqk q) := ⟨by split <;> omega, by split <;> omega⟩
  refine z_l2i hx hb dX0_settled_14 rr ?_
  exact z_iret hx hb hlk hr hw dX0_settled_15 (Nat.zero_le _) (Nat.zero_le _) ⟨rfl, _, rfl, ⟨rfl, rfl⟩⟩

theorem zfill_s {F : Int → Int} {v i : Int} (hF : ∀ x : Int, 0 ≤ x → x < i → F x = v) : ∀ x : Int, 0 ≤ x → x < i + 1 → zup F i v x = v := fun x h1 h2 => by
  by_cases hx9 : x = i
  · rw [hx9, zup_s]
  · rw [zup_n _ _ hx9]; exact hF x h1 (by omega)

set_option maxHeartbeats 4000000 in
set_option maxRecDepth 100000 in
theorem k_filli (l : Launch) (hl0 : l.stackTraces = false) (G : zG) (I : List Nat) (ad : Nat → Nat) (ct : Nat → va_E) (sz : Nat) (a N : Nat) (f : Int → Int) (v : Int) (hN : N < 2147483648) (hIa : a ∈ I) (ha : ct a = zI G N f) : zN l yJ7_fill_53178 wsJ7_fill_53178 0 0 0 0 G [.ref (ad (a)), zi (v)] I ad ct zno sz (zk I (zqv fun u => ∃ F : Int → Int, (∀ x : Int, 0 ≤ x → x < N → F x = v) ∧ u = zU ct a (zI G N F))) := by
  refine z_ofW (ret := none) hl0 (by decide +kernel) rfl (Nat.le_of_ble_eq_true rfl) ?_
  intro p e s m args below meth c A ls hA0 hsz hF hr hout hnm hw hl
  obtain ⟨hx, hb, hml, hown, hts, hK, hlk, hst⟩ := hF
  have hown : s.vm.findClass RJ7 = some m.cls := hown
  have hl : lv_has ls 4 [(0, .ref (ad (a))), (1, zi (v))] := hl
  refine z_ic hx hb dJ7_fill_53178_0 ?_
  refine lv_istore_n (lv' := [(2, zi (0)), (0, .ref (ad (a))), (1, zi (v))]) hx hb dJ7_fill_53178_1 rfl hl (by decide) rfl (fun ls hl => ?_)
  refine lv_aload_n hx hb dJ7_fill_53178_2 rfl (lv_at hl 1 rfl) ?_
  refine z_alen (n := N) hx hb hK hw hIa ha 0 rfl rfl dJ7_fill_53178_3 ?_
  refine lv_istore_n (lv' := [(3, zi (N)), (2, zi (0)), (0, .ref (ad (a))), (1, zi (v))]) hx hb dJ7_fill_53178_4 rfl hl (by decide) rfl (fun ls hl => ?_)
  have L5 : ∀ (nn : Nat) (i : Int) (F : Int → Int), ((N - i).toNat) < nn → (0 ≤ i) → (i ≤ N) → (∀ x : Int, 0 ≤ x → x < i → F x = v) → ∀ (H : Heap) (locs : List Loc), zW G A s.heap H locs I ad (zU ct a (zI G N F)) → ∀ ls, lv_has ls 4 [(0, .ref (ad (a))), (1, zi (v)), (2, zi (i)), (3, zi (N))] → W p l e ({ frames := 0, cells := 0, slots := 0, locals := 0 } : Room) s m args below meth c H locs 0 0 (vx_MQ below (zQ G A ad (zk I (zqv fun u => ∃ F : Int → Int, (∀ x : Int, 0 ≤ x → x < N → F x = v) ∧ u = zU ct a (zI G N F)))) (zX G A I ad ct zno) args s 0 0 A) (F0 m 5 ls []) := by
    intro nn
    induction nn with
    | zero => intro i F hme; exact absurd hme (Nat.not_lt_zero _)
    | succ nn ih5 =>
      intro i F hme5 hi0 hi1 hF H locs hw ls hl
      refine lv_iload_n hx hb dJ7_fill_53178_5 rfl (lv_at hl 2 rfl) ?_
      refine lv_iload_n hx hb dJ7_fill_53178_6 rfl (lv_at hl 3 rfl) ?_
      refine z_icmp_ge (tgt := 20) hx hb dJ7_fill_53178_7 (by decide) ⟨by omega, by omega⟩ ⟨by omega, by omega⟩ (fun c_1 => ?_) (fun c_1 => ?_)
      · exact z_vret hx hb hlk hr hw dJ7_fill_53178_20 (Nat.zero_le _) (Nat.zero_le _) ⟨rfl, rfl, ⟨F, fun x h1 h2 => hF x h1 (by omega), rfl⟩⟩
      · refine lv_aload_n hx hb dJ7_fill_53178_10 rfl (lv_at hl 0 rfl) ?_
        refine lv_iload_n hx hb dJ7_fill_53178_11 rfl (lv_at hl 2 rfl) ?_
        refine lv_iload_n hx hb dJ7_fill_53178_12 rfl (lv_at hl 1 rfl) ?_
        refine z_iast (f := F) hx hb hK hw hIa (zU_s _ _ _) (by omega) (by omega) (by omega) dJ7_fill_53178_13 (fun H locs hw => ?_)
        refine z_iinc (lv' := [(2, zi (i + 1)), (0, .ref (ad (a))), (1, zi (v)), (3, zi (N))]) hx hb dJ7_fill_53178_14 hl (k := 2) rfl (by decide) rfl (fun ls hl => ?_)
        refine lv_goto (tgt := 5) hx hb dJ7_fill_53178_17 (by decide) ?_
        exact ih5 (i + 1) (zup F i v) (by omega) (by omega) (by omega) (zfill_s hF) _ _ (zWe hw (by simp only [zU_zU])) _ (lv_sub hl [1, 2, 0, 3] rfl)
  exact L5 _ (0) (f) (Nat.lt_succ_self _) (by omega) (by omega) (fun x h1 h2 => absurd h2 (by omega)) _ _ (zWe hw (zU_id ha).symm) _ (lv_sub hl [2, 3, 1, 0] rfl)

set_option maxHeartbeats 4000000 in
set_option maxRecDepth 100000 in
theorem k_filll (l : Launch) (hl0 : l.stackTraces = false) (G : zG) (I : List Nat) (ad : Nat → Nat) (ct : Nat → va_E) (sz : Nat) (a N : Nat) (f : Int → Int) (v : Int) (hN : N < 2147483648) (hIa : a ∈ I) (ha : ct a = zL G N f) : zN l yJ7_fill_d0a16 wsJ7_fill_d0a16 0 0 0 0 G [.ref (ad (a)), zl (v)] I ad ct zno sz (zk I (zqv fun u => ∃ F : Int → Int, (∀ x : Int, 0 ≤ x → x < N → F x = v) ∧ u = zU ct a (zL G N F))) := by
  refine z_ofW (ret := none) hl0 (by decide +kernel) rfl (Nat.le_of_ble_eq_true rfl) ?_
  intro p e s m args below meth c A ls hA0 hsz hF hr hout hnm hw hl
  obtain ⟨hx, hb, hml, hown, hts, hK, hlk, hst⟩ := hF
  have hown : s.vm.findClass RJ7 = some m.cls := hown
  have hl : lv_has ls 5 [(0, .ref (ad (a))), (1, zl (v))] := hl
  refine z_ic hx hb dJ7_fill_d0a16_0 ?_
  refine lv_istore_n (lv' := [(3, zi (0)), (0, .ref (ad (a))), (1, zl (v))]) hx hb dJ7_fill_d0a16_1 rfl hl (by decide) rfl (fun ls hl => ?_)
  refine lv_aload_n hx hb dJ7_fill_d0a16_2 rfl (lv_at hl 1 rfl) ?_
  refine z_alen (n := N) hx hb hK hw hIa ha 1 rfl rfl dJ7_fill_d0a16_3 ?_
  refine lv_istore (lv' := [(4, zi (N)), (3, zi (0)), (0, .ref (ad (a))), (1, zl (v))]) hx hb dJ7_fill_d0a16_4 hl (by decide) rfl (fun ls hl => ?_)
  have L6 : ∀ (nn : Nat) (i : Int) (F : Int → Int), ((N - i).toNat) < nn → (0 ≤ i) → (i ≤ N) → (∀ x : Int, 0 ≤ x → x < i → F x = v) → ∀ (H : Heap) (locs : List Loc), zW G A s.heap H locs I ad (zU ct a (zL G N F)) → ∀ ls, lv_has ls 5 [(0, .ref (ad (a))), (1, zl (v)), (3, zi (i)), (4, zi (N))] → W p l e ({ frames := 0, cells := 0, slots := 0, locals := 0 } : Room) s m args below meth c H locs 0 0 (vx_MQ below (zQ G A ad (zk I (zqv fun u => ∃ F : Int → Int, (∀ x : Int, 0 ≤ x → x < N → F x = v) ∧ u = zU ct a (zL G N F)))) (zX G A I ad ct zno) args s 0 0 A) (F0 m 6 ls []) := by
    intro nn
    induction nn with
    | zero => intro i F hme; exact absurd hme (Nat.not_lt_zero _)
    | succ nn ih6 =>
      intro i F hme6 hi0 hi1 hF H locs hw ls hl
      refine lv_iload_n hx hb dJ7_fill_d0a16_6 rfl (lv_at hl 2 rfl) ?_
      refine lv_iload hx hb dJ7_fill_d0a16_7 (lv_at hl 3 rfl) ?_
      refine z_icmp_ge (tgt := 22) hx hb dJ7_fill_d0a16_9 (by decide) ⟨by omega, by omega⟩ ⟨by omega, by omega⟩ (fun c_1 => ?_) (fun c_1 => ?_)
      · exact z_vret hx hb hlk hr hw dJ7_fill_d0a16_22 (Nat.zero_le _) (Nat.zero_le _) ⟨rfl, rfl, ⟨F, fun x h1 h2 => hF x h1 (by omega), rfl⟩⟩
      · refine lv_aload_n hx hb dJ7_fill_d0a16_12 rfl (lv_at hl 0 rfl) ?_
        refine lv_iload_n hx hb dJ7_fill_d0a16_13 rfl (lv_at hl 2 rfl) ?_
        refine lv_lload_n hx hb dJ7_fill_d0a16_14 rfl (lv_at hl 1 rfl) ?_
        refine z_last (f := F) hx hb hK hw hIa (zU_s _ _ _) (by omega) (by omega) (by omega) dJ7_fill_d0a16_15 (fun H locs hw => ?_)
        refine z_iinc (lv' := [(3, zi (i + 1)), (0, .ref (ad (a))), (1, zl (v)), (4, zi (N))]) hx hb dJ7_fill_d0a16_16 hl (k := 2) rfl (by decide) rfl (fun ls hl => ?_)
        refine lv_goto (tgt := 6) hx hb dJ7_fill_d0a16_19 (by decide) ?_
        exact ih6 (i + 1) (zup F i v) (by omega) (by omega) (by omega) (zfill_s hF) _ _ (zWe hw (by simp only [zU_zU])) _ (lv_sub hl [1, 2, 0, 3] rfl)
  exact L6 _ (0) (f) (Nat.lt_succ_self _) (by omega) (by omega) (fun x h1 h2 => absurd h2 (by omega)) _ _ (zWe hw (zU_id ha).symm) _ (lv_sub hl [2, 3, 1, 0] rfl)

set_option maxHeartbeats 4000000 in
set_option maxRecDepth 100000 in
theorem k_move (l : Launch) (hl0 : l.stackTraces = false) (G : zG) (I : List Nat) (ad : Nat → Nat) (ct : Nat → va_E) (sz : Nat) (b0 b1 : Int) (f g h wv : Int → Int) (hI3 : 3 ∈ I) (hI4 : 4 ∈ I) (hI5 : 5 ∈ I) (hI6 : 6 ∈ I) (hI7 : 7 ∈ I) (h3 : ct 3 = .inr (0, [zi b0, zi b1, .ref (ad 4), .ref (ad 5), .ref (ad 6), .ref (ad 7)])) (h4 : ct 4 = zI G 13 f) (h5 : ct 5 = zI G 13 g) (h6 : ct 6 = zL G 13 h) (h7 : ct 7 = zI G 2600 wv) (i mm : Int) (hi0 : 0 ≤ i) (hi1 : i < 13) (hm1 : 1 ≤ mm) (hm2 : mm ≤ 10000) (hh : -1000000000000 ≤ h i ∧ h i ≤ 1000000000000) (hg5 : -1000000000 ≤ g i ∧ g i ≤ 1000000000) : zN l yX0_move wsX0_move 1 23 0 0 G [.ref (ad (3)), zi (i), zi (mm)] I ad ct zno sz (zk I (zqv fun u => u = zU (zU ct 5 (zI G 13 (zup g i (zcl (g i + (1000 * h i).tdiv mm) (-1000000000) 1000000000)))) 4 (zI G 13 (zup f i (f i + (zcl (g i + (1000 * h i).tdiv mm) (-1000000000) 1000000000).tdiv 1000))))) := by
  have hd := ztdivb (x := 1000 * h i) (B := 1000000000000000) hm1 (by omega) (by omega)
  have hv := zcl_bd (v := g i + (1000 * h i).tdiv mm) (lo := -1000000000) (hi := 1000000000) (by omega)
  refine z_ofW (ret := none) hl0 (by decide +kernel) rfl (Nat.le_of_ble_eq_true rfl) ?_
  intro p e s m args below meth c A ls hA0 hsz hF hr hout hnm hw hl
  obtain ⟨hx, hb, hml, hown, hts, hK, hlk, hst⟩ := hF
  have hown : s.vm.findClass RX0 = some m.cls := hown
  have hl : lv_has ls 5 [(0, .ref (ad (3))), (1, zi (i)), (2, zi (mm))] := hl
  have w_0 := hts (.constantLong RX0 86 (1000)) (by decide +kernel)
  have w_1 := hts (.fieldLink RX0 18 "PileMoves$Blow" "pushes" "[J") (by decide +kernel)
  have w_2 : ∀ w ∈ wsX00, w ∈ wsX0_move := by decide +kernel
  have w_3 := hts (.fieldLink RX0 15 "PileMoves$Blow" "speeds" "[I") (by decide +kernel)
  have w_4 := hts (.constant RX0 104 (-1000000000)) (by decide +kernel)
  have w_5 := hts (.constant RX0 105 (1000000000)) (by decide +kernel)
  have w_6 := hts (.initialized RX3) (by decide +kernel)
  have w_7 := hts (.static yX3_clamp) (by decide +kernel)
  have w_8 := hts (.fieldLink RX0 11 "PileMoves$Blow" "places" "[I") (by decide +kernel)
  refine lv_iload_n hx hb dX0_move_0 rfl (lv_at hl 2 rfl) ?_
  refine z_if_ne (tgt := 8) hx hb dX0_move_1 (by decide) ⟨by omega, by omega⟩ (fun c_1 => ?_) (fun c_1 => ?_)
  · refine z_ldc2 (n := 1000) hx hb hown w_0 (by decide) dX0_move_8 ?_
    refine lv_aload_n hx hb dX0_move_11 rfl (lv_at hl 0 rfl) ?_
    refine z_get (C := RX0) (T := TX0) (N := 6) (fs := [zi (b0), zi (b1), .ref (ad (4)), .ref (ad (5)), .ref (ad (6)), .ref (ad (7))]) hx hb hts w_2 hown hK hw hI3 h3 rfl 4 (by decide) w_1 rfl rfl dX0_move_12 ?_
    refine lv_iload_n hx hb dX0_move_15 rfl (lv_at hl 1 rfl) ?_
    refine z_lald (f := h) hx hb hK hw hI6 h6 (by omega) (by omega) (by decide) dX0_move_16 ?_
    refine z_lmul hx hb dX0_move_17 ?_
    refine lv_iload_n hx hb dX0_move_18 rfl (lv_at hl 2 rfl) ?_
    refine z_i2l hx hb dX0_move_19 ⟨by omega, by omega⟩ ?_
    refine z_ldiv hx hb dX0_move_20 ⟨by omega, by omega⟩ ⟨by omega, by omega⟩ (by omega) ?_
    generalize edv : (((1000) * (h (i))).tdiv (mm) : Int) = dv
    refine lv_lstore_n (lv' := [(3, zl (dv)), (0, .ref (ad (3))), (1, zi (i)), (2, zi (mm))]) hx hb dX0_move_21 rfl hl (by decide) rfl (fun ls hl => ?_)
    refine lv_aload_n hx hb dX0_move_22 rfl (lv_at hl 1 rfl) ?_
    refine z_get (C := RX0) (T := TX0) (N := 6) (fs := [zi (b0), zi (b1), .ref (ad (4)), .ref (ad (5)), .ref (ad (6)), .ref (ad (7))]) hx hb hts w_2 hown hK hw hI3 h3 rfl 3 (by decide) w_3 rfl rfl dX0_move_23 ?_
    refine lv_iload_n hx hb dX0_move_26 rfl (lv_at hl 2 rfl) ?_
    refine lv_aload_n hx hb dX0_move_27 rfl (lv_at hl 1 rfl) ?_
    refine z_get (C := RX0) (T := TX0) (N := 6) (fs := [zi (b0), zi (b1), .ref (ad (4)), .ref (ad (5)), .ref (ad (6)), .ref (ad (7))]) hx hb hts w_2 hown hK hw hI3 h3 rfl 3 (by decide) w_3 rfl rfl dX0_move_28 ?_
    refine lv_iload_n hx hb dX0_move_31 rfl (lv_at hl 2 rfl) ?_
    refine z_iald (f := g) hx hb hK hw hI5 h5 (by omega) (by omega) (by decide) dX0_move_32 ?_
    refine z_i2l hx hb dX0_move_33 ⟨by omega, by omega⟩ ?_
    refine lv_lload_n hx hb dX0_move_34 rfl (lv_at hl 0 rfl) ?_
    refine z_ladd hx hb dX0_move_35 ?_
    refine z_ldc (n := -1000000000) hx hb hown w_4 (by decide) dX0_move_36 ?_
    refine z_ldc (n := 1000000000) hx hb hown w_5 (by decide) dX0_move_38 ?_
    refine z_kI (z_runSN (As := [zl ((g (i)) + (dv)), zi (-1000000000), zi (1000000000)]) (rest := [zi (i), .ref (ad (5))]) ⟨hx, hb, hml, hown, hts⟩ hK hw (k_clamp l hl0 G I ad _ _ ((g (i)) + (dv)) (-1000000000) (1000000000) ⟨by rw [← edv]; omega, by rw [← edv]; omega⟩ ⟨by decide, by decide⟩ ⟨by decide, by decide⟩) (⟨va_cnB 3 hts gX0_move_X3_clamp_n94 rfl rfl rfl hK.2.1.2.2.2.2.2.1 w_6 (by decide +kernel) ⟨Nat.le_of_ble_eq_true rfl, Nat.le_of_ble_eq_true rfl⟩, w_7, trivial⟩) rfl hl.1 rfl (Nat.le_of_ble_eq_true rfl) dX0_move_40 ⟨Nat.le_of_ble_eq_true rfl, Nat.le_of_ble_eq_true rfl⟩) hw (fun r_2 ct_3 H locs hP hw => ?_)
    obtain ⟨rfl, hct⟩ := hP
    rw [hct] at hw
    clear hct
    refine z_iast (f := g) hx hb hK hw hI5 h5 (by omega) (by omega) (by decide) dX0_move_43 (fun H locs hw => ?_)
    refine lv_aload_n hx hb dX0_move_44 rfl (lv_at hl 1 rfl) ?_
    refine z_get (C := RX0) (T := TX0) (N := 6) (fs := [zi (b0), zi (b1), .ref (ad (4)), .ref (ad (5)), .ref (ad (6)), .ref (ad (7))]) hx hb hts w_2 hown hK hw hI3 (zU_n (by decide) h3) rfl 2 (by decide) w_8 rfl rfl dX0_move_45 ?_
    refine lv_iload_n hx hb dX0_move_48 rfl (lv_at hl 2 rfl) ?_
    refine lv_dup2_11 hx hb dX0_move_49 rfl rfl ?_
    refine z_iald (f := f) hx hb hK hw hI4 (zU_n (by decide) h4) (by omega) (by omega) (by decide) dX0_move_50 ?_
    refine lv_aload_n hx hb dX0_move_51 rfl (lv_at hl 1 rfl) ?_
    refine z_get (C := RX0) (T := TX0) (N := 6) (fs := [zi (b0), zi (b1), .ref (ad (4)), .ref (ad (5)), .ref (ad (6)), .ref (ad (7))]) hx hb hts w_2 hown hK hw hI3 (zU_n (by decide) h3) rfl 3 (by decide) w_3 rfl rfl dX0_move_52 ?_
    refine lv_iload_n hx hb dX0_move_55 rfl (lv_at hl 2 rfl) ?_
    refine z_iald (f := zup (g) (i) (zcl ((g (i)) + (dv)) (-1000000000) (1000000000))) hx hb hK hw hI5 (zU_s _ _ _) (by omega) (by omega) (by decide) dX0_move_56 ?_
    rw [zup_s]
    refine z_si hx hb dX0_move_57 (by decide) ?_
    refine z_idiv hx hb dX0_move_60 ⟨by rw [← edv]; omega, by rw [← edv]; omega⟩ ⟨by decide, by decide⟩ (by decide) ?_
    refine z_iadd hx hb dX0_move_61 ?_
    refine z_iast (f := f) hx hb hK hw hI4 (zU_n (by decide) h4) (by omega) (by omega) (by decide) dX0_move_62 (fun H locs hw => ?_)
    exact z_vret hx hb hlk hr hw dX0_move_63 (Nat.zero_le _) (Nat.zero_le _) ⟨rfl, rfl, by rw [← edv]⟩
  · exact absurd c_1 (by omega)
