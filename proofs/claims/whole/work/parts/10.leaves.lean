set_option maxHeartbeats 4000000 in
set_option maxRecDepth 100000 in
/-- clamp -/
theorem k_clamp (l : Launch) (hl0 : l.stackTraces = false) (G : zG) (I : List Nat) (ad : Nat → Nat) (ct : Nat → va_E) (sz : Nat) (v lo hi : Int) (hv : zR v) (h1 : zr lo) (h2 : zr hi) : zN l yX3_clamp wsX3_clamp 0 0 0 0 G [zl (v), zi (lo), zi (hi)] I ad ct zno sz (zk I (zqi fun z u => z = zcl v lo hi ∧ u = ct)) := by
  refine z_ofW (ret := (some .int)) hl0 (by decide +kernel) rfl (Nat.le_of_ble_eq_true rfl) ?_
  intro p e s m args below meth c A ls hA0 hsz hF hr hout hnm hw hl
  obtain ⟨hx, hb, hml, hown, hts, hK, hlk, hst⟩ := hF
  have hown : s.vm.findClass RX3 = some m.cls := hown
  have hl : lv_has ls 4 [(0, zl (v)), (2, zi (lo)), (3, zi (hi))] := hl
  refine lv_lload_n hx hb dX3_clamp_0 rfl (lv_at hl 0 rfl) ?_
  refine lv_iload_n hx hb dX3_clamp_1 rfl (lv_at hl 1 rfl) ?_
  refine z_i2l hx hb dX3_clamp_2 ⟨by omega, by omega⟩ ?_
  refine z_lcmp_ge (tgt := 9) hx hb dX3_clamp_3 dX3_clamp_4 (by decide) hv ⟨by omega, by omega⟩ (fun c_1 => ?_) (fun c_1 => ?_)
  · refine lv_lload_n hx hb dX3_clamp_9 rfl (lv_at hl 0 rfl) ?_
    refine lv_iload_n hx hb dX3_clamp_10 rfl (lv_at hl 2 rfl) ?_
    refine z_i2l hx hb dX3_clamp_11 ⟨by omega, by omega⟩ ?_
    refine z_lcmp_le (tgt := 20) hx hb dX3_clamp_12 dX3_clamp_13 (by decide) hv ⟨by omega, by omega⟩ (fun c_2 => ?_) (fun c_2 => ?_)
    · refine lv_lload_n hx hb dX3_clamp_20 rfl (lv_at hl 0 rfl) ?_
      refine z_l2i hx hb dX3_clamp_21 hv ?_
      exact z_iret hx hb hlk hr hw dX3_clamp_22 (Nat.zero_le _) (Nat.zero_le _) ⟨rfl, _, rfl, ⟨by unfold zcl; (repeat' split) <;> omega, rfl⟩⟩
    · refine lv_iload_n hx hb dX3_clamp_16 rfl (lv_at hl 2 rfl) ?_
      refine lv_goto (tgt := 22) hx hb dX3_clamp_17 (by decide) ?_
      exact z_iret hx hb hlk hr hw dX3_clamp_22 (Nat.zero_le _) (Nat.zero_le _) ⟨rfl, _, rfl, ⟨by unfold zcl; (repeat' split) <;> omega, rfl⟩⟩
  · refine lv_iload_n hx hb dX3_clamp_7 rfl (lv_at hl 1 rfl) ?_
    exact z_iret hx hb hlk hr hw dX3_clamp_8 (Nat.zero_le _) (Nat.zero_le _) ⟨rfl, _, rfl, ⟨by unfold zcl; (repeat' split) <;> omega, rfl⟩⟩

set_option maxHeartbeats 4000000 in
set_option maxRecDepth 100000 in
theorem k_in (l : Launch) (hl0 : l.stackTraces = false) (G : zG) (I : List Nat) (ad : Nat → Nat) (ct : Nat → va_E) (sz : Nat) (v lo hi : Int) (hv : zR v) (h1 : zR lo) (h2 : zR hi) : zN l yX4_in wsX4_in 0 0 0 0 G [zl (v), zl (lo), zl (hi)] I ad ct zno sz (zk I (zqi fun z u => z = zb (lo ≤ v ∧ v ≤ hi) ∧ u = ct)) := by
  refine z_ofW (ret := (some .boolean)) hl0 (by decide +kernel) rfl (Nat.le_of_ble_eq_true rfl) ?_
  intro p e s m args below meth c A ls hA0 hsz hF hr hout hnm hw hl
  obtain ⟨hx, hb, hml, hown, hts, hK, hlk, hst⟩ := hF
  have hown : s.vm.findClass RX4 = some m.cls := hown
  have hl : lv_has ls 6 [(0, zl (v)), (2, zl (lo)), (4, zl (hi))] := hl
  refine lv_lload_n hx hb dX4_in_0 rfl (lv_at hl 0 rfl) ?_
  refine lv_lload_n hx hb dX4_in_1 rfl (lv_at hl 1 rfl) ?_
  refine z_lcmp_lt (tgt := 17) hx hb dX4_in_2 dX4_in_3 (by decide) hv h1 (fun c_1 => ?_) (fun c_1 => ?_)
  · refine z_ic hx hb dX4_in_17 ?_
    exact z_zret hx hb hlk hr hw (Or.inl rfl) dX4_in_18 (Nat.zero_le _) (Nat.zero_le _) ⟨rfl, _, rfl, ⟨by show _ = ite _ _ _; split <;> omega, rfl⟩⟩
  · refine lv_lload_n hx hb dX4_in_6 rfl (lv_at hl 0 rfl) ?_
    refine lv_lload hx hb dX4_in_7 (lv_at hl 2 rfl) ?_
    refine z_lcmp_gt (tgt := 17) hx hb dX4_in_9 dX4_in_10 (by decide) hv h2 (fun c_2 => ?_) (fun c_2 => ?_)
    · refine z_ic hx hb dX4_in_17 ?_
      exact z_zret hx hb hlk hr hw (Or.inl rfl) dX4_in_18 (Nat.zero_le _) (Nat.zero_le _) ⟨rfl, _, rfl, ⟨by show _ = ite _ _ _; split <;> omega, rfl⟩⟩
    · refine z_ic hx hb dX4_in_13 ?_
      refine lv_goto (tgt := 18) hx hb dX4_in_14 (by decide) ?_
      exact z_zret hx hb hlk hr hw (Or.inr rfl) dX4_in_18 (Nat.zero_le _) (Nat.zero_le _) ⟨rfl, _, rfl, ⟨by show _ = ite _ _ _; split <;> omega, rfl⟩⟩

set_option maxHeartbeats 4000000 in
set_option maxRecDepth 100000 in
theorem k_cut (l : Launch) (hl0 : l.stackTraces = false) (G : zG) (I : List Nat) (ad : Nat → Nat) (ct : Nat → va_E) (sz : Nat) (v lo hi : Int) (hv : zR v) (h1 : zR lo) (h2 : zR hi) : zN l yX4_cut wsX4_cut 0 0 0 0 G [zl (v), zl (lo), zl (hi)] I ad ct zno sz (zk I (zql fun z u => z = zcl v lo hi ∧ u = ct)) := by
  refine z_ofW (ret := (some .long)) hl0 (by decide +kernel) rfl (Nat.le_of_ble_eq_true rfl) ?_
  intro p e s m args below meth c A ls hA0 hsz hF hr hout hnm hw hl
  obtain ⟨hx, hb, hml, hown, hts, hK, hlk, hst⟩ := hF
  have hown : s.vm.findClass RX4 = some m.cls := hown
  have hl : lv_has ls 6 [(0, zl (v)), (2, zl (lo)), (4, zl (hi))] := hl
  refine lv_lload_n hx hb dX4_cut_0 rfl (lv_at hl 0 rfl) ?_
  refine lv_lload_n hx hb dX4_cut_1 rfl (lv_at hl 1 rfl) ?_
  refine z_lcmp_ge (tgt := 10) hx hb dX4_cut_2 dX4_cut_3 (by decide) hv h1 (fun c_1 => ?_) (fun c_1 => ?_)
  · refine lv_lload_n hx hb dX4_cut_10 rfl (lv_at hl 0 rfl) ?_
    refine lv_lload hx hb dX4_cut_11 (lv_at hl 2 rfl) ?_
    refine z_lcmp_le (tgt := 22) hx hb dX4_cut_13 dX4_cut_14 (by decide) hv h2 (fun c_2 => ?_) (fun c_2 => ?_)
    · refine lv_lload_n hx hb dX4_cut_22 rfl (lv_at hl 0 rfl) ?_
      exact z_lret hx hb hlk hr hw dX4_cut_23 (Nat.zero_le _) (Nat.zero_le _) ⟨rfl, _, rfl, ⟨by unfold zcl; (repeat' split) <;> omega, rfl⟩⟩
    · refine lv_lload hx hb dX4_cut_17 (lv_at hl 2 rfl) ?_
      refine lv_goto (tgt := 23) hx hb dX4_cut_19 (by decide) ?_
      exact z_lret hx hb hlk hr hw dX4_cut_23 (Nat.zero_le _) (Nat.zero_le _) ⟨rfl, _, rfl, ⟨by unfold zcl; (repeat' split) <;> omega, rfl⟩⟩
  · refine lv_lload_n hx hb dX4_cut_6 rfl (lv_at hl 1 rfl) ?_
    refine lv_goto (tgt := 23) hx hb dX4_cut_7 (by decide) ?_
    exact z_lret hx hb hlk hr hw dX4_cut_23 (Nat.zero_le _) (Nat.zero_le _) ⟨rfl, _, rfl, ⟨by unfold zcl; (repeat' split) <;> omega, rfl⟩⟩

set_option maxHeartbeats 4000000 in
set_option maxRecDepth 100000 in
theorem k_down (l : Launch) (hl0 : l.stackTraces = false) (G : zG) (I : List Nat) (ad : Nat → Nat) (ct : Nat → va_E) (sz : Nat) (a b : Int) (ha : -4000000000000000000 ≤ a ∧ a ≤ 4000000000000000000) (hb1 : 1 ≤ b) (hb2 : b ≤ 4000000000000000000) : zN l yX4_down wsX4_down 0 0 0 0 G [zl (a), zl (b)] I ad ct zno sz (zk I (zql fun z u => z = a / b ∧ u = ct)) := by
  refine z_ofW (ret := (some .long)) hl0 (by decide +kernel) rfl (Nat.le_of_ble_eq_true rfl) ?_
  intro p e s m args below meth c A ls hA0 hsz hF hr hout hnm hw hl
  obtain ⟨hx, hb, hml, hown, hts, hK, hlk, hst⟩ := hF
  have hown : s.vm.findClass RX4 = some m.cls := hown
  have hl : lv_has ls 4 [(0, zl (a)), (2, zl (b))] := hl
  refine lv_lload_n hx hb dX4_down_0 rfl (lv_at hl 0 rfl) ?_
  refine z_lc0 hx hb dX4_down_1 ?_
  refine z_lcmp_lt (tgt := 12) hx hb dX4_down_2 dX4_down_3 (by decide) ⟨by omega, by omega⟩ ⟨by decide, by decide⟩ (fun c_1 => ?_) (fun c_1 => ?_)
  · refine lv_lload_n hx hb dX4_down_12 rfl (lv_at hl 0 rfl) ?_
    refine z_lneg hx hb dX4_down_13 ?_
    refine lv_lload_n hx hb dX4_down_14 rfl (lv_at hl 1 rfl) ?_
    refine z_ladd hx hb dX4_down_15 ?_
    refine z_lc1 hx hb dX4_down_16 ?_
    refine z_lsub hx hb dX4_down_17 ?_
    refine lv_lload_n hx hb dX4_down_18 rfl (lv_at hl 1 rfl) ?_
    refine z_ldiv hx hb dX4_down_19 ⟨by omega, by omega⟩ ⟨by omega, by omega⟩ (by omega) ?_
    refine z_lneg hx hb dX4_down_20 ?_
    exact z_lret hx hb hlk hr hw dX4_down_21 (Nat.zero_le _) (Nat.zero_le _) ⟨rfl, _, rfl, ⟨zdn_neg hb1 (by omega), rfl⟩⟩
  · refine lv_lload_n hx hb dX4_down_6 rfl (lv_at hl 0 rfl) ?_
    refine lv_lload_n hx hb dX4_down_7 rfl (lv_at hl 1 rfl) ?_
    refine z_ldiv hx hb dX4_down_8 ⟨by omega, by omega⟩ ⟨by omega, by omega⟩ (by omega) ?_
    refine lv_goto (tgt := 21) hx hb dX4_down_9 (by decide) ?_
    exact z_lret hx hb hlk hr hw dX4_down_21 (Nat.zero_le _) (Nat.zero_le _) ⟨rfl, _, rfl, ⟨Int.tdiv_eq_ediv_of_nonneg (by omega), rfl⟩⟩

set_option maxHeartbeats 4000000 in
set_option maxRecDepth 100000 in
theorem k_fdiv (l : Launch) (hl0 : l.stackTraces = false) (G : zG) (I : List Nat) (ad : Nat → Nat) (ct : Nat → va_E) (sz : Nat) (a b : Int) (ha : -2147483647 ≤ a ∧ a ≤ 2147483647) (hb1 : 1 ≤ b) (hb2 : b ≤ 2147483647) : zN l yJ9_floorDiv_7cf53 wsJ9_floorDiv_7cf53 0 0 0 0 G [zi (a), zi (b)] I ad ct zno sz (zk I (zqi fun z u => z = a / b ∧ u = ct)) := by
  have hq : -2147483647 ≤ a.tdiv b * b ∧ a.tdiv b * b ≤ 2147483647 := by
    have h1 : a.tdiv b * b + a.tmod b = a := Int.tdiv_mul_add_tmod a b
    have h2 := Int.tmod_nonneg b (a := a)
    have h3 := Int.tmod_lt_of_pos a (show 0 < b by omega)
    have h4 := Int.tmod_nonneg b (a := -a)
    have h5 := Int.tmod_lt_of_pos (-a) (show 0 < b by omega)
    rw [Int.neg_tmod] at h4 h5
    rcases Int.le_total 0 a with h | h
    · have h6 : 0 ≤ a.tdiv b * b := Int.mul_nonneg (Int.tdiv_nonneg h (by omega)) (by omega)
      have := h2 h; omega
    · have h6 : a.tdiv b * b ≤ 0 := Int.mul_nonpos_of_nonpos_of_nonneg (by have := Int.tdiv_nonneg (show 0 ≤ -a by omega) (show 0 ≤ b by omega); rw [Int.neg_tdiv] at this; omega) (by omega)
      have := h4 (by omega); omega
  refine z_ofW (ret := (some .int)) hl0 (by decide +kernel) rfl (Nat.le_of_ble_eq_true rfl) ?_
  intro p e s m args below meth c A ls hA0 hsz hF hr hout hnm hw hl
  obtain ⟨hx, hb, hml, hown, hts, hK, hlk, hst⟩ := hF
  have hown : s.vm.findClass RJ9 = some m.cls := hown
  have hl : lv_has ls 3 [(0, zi (a)), (1, zi (b))] := hl
  refine lv_iload_n hx hb dJ9_floorDiv_7cf53_0 rfl (lv_at hl 0 rfl) ?_
  refine lv_iload_n hx hb dJ9_floorDiv_7cf53_1 rfl (lv_at hl 1 rfl) ?_
  refine z_idiv hx hb dJ9_floorDiv_7cf53_2 ⟨by omega, by omega⟩ ⟨by omega, by omega⟩ (by omega) ?_
  refine lv_istore_n (lv' := [(2, zi ((a).tdiv (b))), (0, zi (a)), (1, zi (b))]) hx hb dJ9_floorDiv_7cf53_3 rfl hl (by decide) rfl (fun ls hl => ?_)
  refine lv_iload_n hx hb dJ9_floorDiv_7cf53_4 rfl (lv_at hl 1 rfl) ?_
  refine lv_iload_n hx hb dJ9_floorDiv_7cf53_5 rfl (lv_at hl 2 rfl) ?_
  refine z_xorge (tgt := 21) hx hb dJ9_floorDiv_7cf53_6 dJ9_floorDiv_7cf53_7 (by decide) ⟨by omega, by omega⟩ ⟨by omega, by omega⟩ (by omega) (fun c_1 => ?_) (fun c_1 => ?_)
  · refine lv_iload_n hx hb dJ9_floorDiv_7cf53_21 rfl (lv_at hl 0 rfl) ?_
    exact z_iret hx hb hlk hr hw dJ9_floorDiv_7cf53_22 (Nat.zero_le _) (Nat.zero_le _) ⟨rfl, _, rfl, ⟨Int.tdiv_eq_ediv_of_nonneg (by omega), rfl⟩⟩
  · refine lv_iload_n hx hb dJ9_floorDiv_7cf53_10 rfl (lv_at hl 0 rfl) ?_
    refine lv_iload_n hx hb dJ9_floorDiv_7cf53_11 rfl (lv_at hl 2 rfl) ?_
    refine z_imul hx hb dJ9_floorDiv_7cf53_12 ?_
    refine lv_iload_n hx hb dJ9_floorDiv_7cf53_13 rfl (lv_at hl 1 rfl) ?_
    refine z_icmp_eq (tgt := 21) hx hb dJ9_floorDiv_7cf53_14 (by decide) ⟨by omega, by omega⟩ ⟨by omega, by omega⟩ (fun c_2 => ?_) (fun c_2 => ?_)
    · refine lv_iload_n hx hb dJ9_floorDiv_7cf53_21 rfl (lv_at hl 0 rfl) ?_
      exact z_iret hx hb hlk hr hw dJ9_floorDiv_7cf53_22 (Nat.zero_le _) (Nat.zero_le _) ⟨rfl, _, rfl, ⟨by rw [zfd_neg hb1 (by omega)]; split <;> omega, rfl⟩⟩
    · refine lv_iload_n hx hb dJ9_floorDiv_7cf53_17 rfl (lv_at hl 0 rfl) ?_
      refine z_ic hx hb dJ9_floorDiv_7cf53_18 ?_
      refine z_isub hx hb dJ9_floorDiv_7cf53_19 ?_
      exact z_iret hx hb hlk hr hw dJ9_floorDiv_7cf53_20 (Nat.zero_le _) (Nat.zero_le _) ⟨rfl, _, rfl, ⟨by rw [zfd_neg hb1 (by omega)]; split <;> omega, rfl⟩⟩

set_option maxHeartbeats 4000000 in
set_option maxRecDepth 100000 in
theorem k_pieces (l : Launch) (hl0 : l.stackTraces = false) (G : zG) (I : List Nat) (ad : Nat → Nat) (ct : Nat → va_E) (sz : Nat) (k : Nat) (q : zPl) (hg : zGood q) (hk : zMem4 I k) (hp : zPileAt G ad ct k q) : zN l yX1_pieces wsX1_pieces 0 0 0 0 G [.ref (ad (k))] I ad ct zno sz (zk I (zqi fun z u => z = pn q ∧ u = ct)) := by
  obtain ⟨hp0, hp1, hp2, hp3⟩ := hp
  obtain ⟨hk0, hk1, hk2, hk3⟩ := hk
  have hg0 := hg
  obtain ⟨⟨g1, g2⟩, ⟨g3, g4⟩, ⟨g5, g6⟩, ⟨g7, g8⟩, ⟨g9, g10⟩, ⟨g11, g12⟩, g13, g14, g15, g16⟩ := hg0
  have gn : (q.1 : Int) = pn q := rfl
  refine z_ofW (ret := (some .int)) hl0 (by decide +kernel) rfl (Nat.le_of_ble_eq_true rfl) ?_
  intro p e s m args below meth c A ls hA0 hsz hF hr hout hnm hw hl
  obtain ⟨hx, hb, hml, hown, hts, hK, hlk, hst⟩ := hF
  have hown : s.vm.findClass RX1 = some m.cls := hown
  have hl : lv_has ls 1 [(0, .ref (ad (k)))] := hl
  have w_0 := hts (.fieldLink RX1 19 "PileMoves$Pile" "stiff" "[I") (by decide +kernel)
  have w_1 : ∀ w ∈ wsX10, w ∈ wsX1_pieces := by decide +kernel
  refine lv_aload_n hx hb dX1_pieces_0 rfl (lv_at hl 0 rfl) ?_
  refine z_get (C := RX1) (T := TX1) (N := 9) (fs := [zi (psp q), zi (pma q), zi (pco q), .ref (ad (k + 1)), .ref (ad (k + 2)), .ref (ad (k + 3)), zi (pts q), zi (ptm q), zi (pjo q)]) hx hb hts w_1 hown hK hw hk0 hp0 rfl 3 (by decide) w_0 rfl rfl dX1_pieces_1 ?_
  refine z_alen (n := pn q) hx hb hK hw hk1 hp1 0 rfl rfl dX1_pieces_4 ?_
  exact z_iret hx hb hlk hr hw dX1_pieces_5 (Nat.zero_le _) (Nat.zero_le _) ⟨rfl, _, rfl, ⟨rfl, rfl⟩⟩

set_option maxHeartbeats 4000000 in
set_option maxRecDepth 100000 in
theorem k_quake (l : Launch) (hl0 : l.stackTraces = false) (G : zG) (I : List Nat) (ad : Nat → Nat) (ct : Nat → va_E) (sz : Nat) (k : Nat) (q : zPl) (hg : zGood q) (hk : zMem4 I k) (hp : zPileAt G ad ct k q) : zN l yX1_quake wsX1_quake 0 0 0 0 G [.ref (ad (k))] I ad ct zno sz (zk I (zql fun z u => z = zqk q ∧ u = ct)) := by
  obtain ⟨hp0, hp1, hp2, hp3⟩ := hp
  obtain ⟨hk0, hk1, hk2, hk3⟩ := hk
  have hg0 := hg
  obtain ⟨⟨g1, g2⟩, ⟨g3, g4⟩, ⟨g5, g6⟩, ⟨g7, g8⟩, ⟨g9, g10⟩, ⟨g11, g12⟩, g13, g14, g15, g16⟩ := hg0
  have gn : (q.1 : Int) = pn q := rfl
  refine z_ofW (ret := (some .long)) hl0 (by decide +kernel) rfl (Nat.le_of_ble_eq_true rfl) ?_
  intro p e s m args below meth c A ls hA0 hsz hF hr hout hnm hw hl
  obtain ⟨hx, hb, hml, hown, hts, hK, hlk, hst⟩ := hF
  have hown : s.vm.findClass RX1 = some m.cls := hown
  have hl : lv_has ls 1 [(0, .ref (ad (k)))] := hl
  have w_0 := hts (.fieldLink RX1 29 "PileMoves$Pile" "tipStiff" "I") (by decide +kernel)
  have w_1 : ∀ w ∈ wsX10, w ∈ wsX1_quake := by decide +kernel
  have w_2 := hts (.constantLong RX1 32 (1000)) (by decide +kernel)
  have w_3 := hts (.fieldLink RX1 34 "PileMoves$Pile" "tipMost" "I") (by decide +kernel)
  refine lv_aload_n hx hb dX1_quake_0 rfl (lv_at hl 0 rfl) ?_
  refine z_get (C := RX1) (T := TX1) (N := 9) (fs := [zi (psp q), zi (pma q), zi (pco q), .ref (ad (k + 1)), .ref (ad (k + 2)), .ref (ad (k + 3)), zi (pts q), zi (ptm q), zi (pjo q)]) hx hb hts w_1 hown hK hw hk0 hp0 rfl 6 (by decide) w_0 rfl rfl dX1_quake_1 ?_
  refine z_if_ne (tgt := 11) hx hb dX1_quake_4 (by decide) ⟨by omega, by omega⟩ (fun c_1 => ?_) (fun c_1 => ?_)
  · refine z_ldc2 (n := 1000) hx hb hown w_2 (by decide) dX1_quake_11 ?_
    refine lv_aload_n hx hb dX1_quake_14 rfl (lv_at hl 0 rfl) ?_
    refine z_get (C := RX1) (T := TX1) (N := 9) (fs := [zi (psp q), zi (pma q), zi (pco q), .ref (ad (k + 1)), .ref (ad (k + 2)), .ref (ad (k + 3)), zi (pts q), zi (ptm q), zi (pjo q)]) hx hb hts w_1 hown hK hw hk0 hp0 rfl 7 (by decide) w_3 rfl rfl dX1_quake_15 ?_
    refine z_i2l hx hb dX1_quake_18 ⟨by omega, by omega⟩ ?_
    refine z_lmul hx hb dX1_quake_19 ?_
    refine lv_aload_n hx hb dX1_quake_20 rfl (lv_at hl 0 rfl) ?_
    refine z_get (C := RX1) (T := TX1) (N := 9) (fs := [zi (psp q), zi (pma q), zi (pco q), .ref (ad (k + 1)), .ref (ad (k + 2)), .ref (ad (k + 3)), zi (pts q), zi (ptm q), zi (pjo q)]) hx hb hts w_1 hown hK hw hk0 hp0 rfl 6 (by decide) w_0 rfl rfl dX1_quake_21 ?_
    refine z_i2l hx hb dX1_quake_24 ⟨by omega, by omega⟩ ?_
    refine z_ldiv hx hb dX1_quake_25 ⟨by omega, by omega⟩ ⟨by omega, by omega⟩ (by omega) ?_
    exact z_lret hx hb hlk hr hw dX1_quake_26 (Nat.zero_le _) (Nat.zero_le _) ⟨rfl, _, rfl, ⟨by unfold zqk; split <;> first | rfl | omega, rfl⟩⟩
  · refine z_lc0 hx hb dX1_quake_7 ?_
    refine lv_goto (tgt := 26) hx hb dX1_quake_8 (by decide) ?_
    exact z_lret hx hb hlk hr hw dX1_quake_26 (Nat.zero_le _) (Nat.zero_le _) ⟨rfl, _, rfl, ⟨by unfold zqk; split <;> first | rfl | omega, rfl⟩⟩
