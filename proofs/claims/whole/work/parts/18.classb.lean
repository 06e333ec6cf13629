theorem zemp_s {σ : Nat → zPl} {K : Nat} (h : zemp σ K) (hK : pjo (σ K) = 0) : zemp σ (K + 1) := fun p hp => by
  rcases Nat.lt_or_ge p K with h1 | h1
  · exact h p h1
  · rw [show p = K by omega]; exact hK

set_option maxHeartbeats 4000000 in
set_option maxRecDepth 100000 in
theorem k_cgroup (l : Launch) (hl0 : l.stackTraces = false) (G : zG) (I : List Nat) (ad : Nat → Nat) (ct : Nat → va_E) (sz : Nat) (n : Nat) (hn6 : n ≤ 6) (hI0 : 0 ∈ I) (hI1 : 1 ∈ I) (h0 : ct 0 = .inr (3, [.ref (ad 1), .ref (ad 2), .ref (ad 3), zi n])) (h1 : ct 1 = zP G 6 (zpf ad n)) (σ : Nat → zPl) (hgs : ∀ p : Nat, p < n → zGood (σ p)) (hms : ∀ p : Nat, p < n → zMem4 I (40 + 4 * p)) (hps : ∀ p : Nat, p < n → zPileAt G ad ct (40 + 4 * p) (σ p)) : zN l yX3_checkGroupNotEmpty wsX3_checkGroupNotEmpty 6 86 1 6 G [.ref (ad (0))] I ad ct (fun E => E = zIS ∧ zemp σ n) sz (zk I (zqv fun u => ¬ zemp σ n ∧ u = ct)) := by
  refine z_ofW (ret := none) hl0 (by decide +kernel) rfl (Nat.le_of_ble_eq_true rfl) ?_
  intro p e s m args below meth c A ls hA0 hsz hF hr hout hnm hw hl
  obtain ⟨hx, hb, hml, hown, hts, hK, hlk, hst⟩ := hF
  have hown : s.vm.findClass RX3 = some m.cls := hown
  have hl : lv_has ls 5 [(0, .ref (ad (0)))] := hl
  have w_0 := hts (.fieldLink RX3 11 "PileMoves" "piles" "[LPileMoves$Pile;") (by decide +kernel)
  have w_1 : ∀ w ∈ wsX30, w ∈ wsX3_checkGroupNotEmpty := by decide +kernel
  have w_2 := hts (.classLink RX3 38 zIS) (by decide +kernel)
  have w_3 := hts (.initialized zIS) (by decide +kernel)
  have w_4 := hts (.fieldLink RX3 101 "PileMoves$Pile" "joined" "Z") (by decide +kernel)
  have w_5 : ∀ w ∈ wsX10, w ∈ wsX3_checkGroupNotEmpty := by decide +kernel
  refine lv_aload_n hx hb dX3_checkGroupNotEmpty_0 rfl (lv_at hl 0 rfl) ?_
  refine z_get (C := RX3) (T := TX3) (N := 4) (fs := [.ref (ad (1)), .ref (ad (2)), .ref (ad (3)), zi (n)]) hx hb hts w_1 hown hK hw hI0 h0 rfl 0 (by decide) w_0 rfl rfl dX3_checkGroupNotEmpty_1 ?_
  refine lv_astore_n (lv' := [(1, .ref (ad (1))), (0, .ref (ad (0)))]) hx hb dX3_checkGroupNotEmpty_4 rfl hl (by decide) rfl (fun ls hl => ?_)
  refine lv_aload_n hx hb dX3_checkGroupNotEmpty_5 rfl (lv_at hl 0 rfl) ?_
  refine z_alen (n := 6) hx hb hK hw hI1 h1 3 rfl rfl dX3_checkGroupNotEmpty_6 ?_
  refine lv_istore_n (lv' := [(2, zi (6)), (1, .ref (ad (1))), (0, .ref (ad (0)))]) hx hb dX3_checkGroupNotEmpty_7 rfl hl (by decide) rfl (fun ls hl => ?_)
  refine z_ic hx hb dX3_checkGroupNotEmpty_8 ?_
  refine lv_istore_n (lv' := [(3, zi (0)), (2, zi (6)), (1, .ref (ad (1))), (0, .ref (ad (0)))]) hx hb dX3_checkGroupNotEmpty_9 rfl hl (by decide) rfl (fun ls hl => ?_)
  have L10 : ∀ (nn : Nat) (K : Nat) (i : Int), ((6 - i).toNat) < nn → (i = K ∨ (K = n ∧ (n : Int) ≤ i)) → (0 ≤ i) → (i ≤ 6) → (K ≤ n) → (zemp σ K) → ∀ (H : Heap) (locs : List Loc), zW G A s.heap H locs I ad ct → ∀ ls, lv_has ls 5 [(0, .ref (ad (0))), (1, .ref (ad (1))), (2, zi (6)), (3, zi (i))] → W p l e ({ frames := 6, cells := 1, slots := 6, locals := 86 } : Room) s m args below meth c H locs 0 0 (vx_MQ below (zQ G A ad (zk I (zqv fun u => ¬ zemp σ n ∧ u = ct))) (zX G A I ad ct (fun E => E = zIS ∧ zemp σ n)) args s 1 6 A) (F0 m 10 ls []) := by
    intro nn
    induction nn with
    | zero => intro K i hme; exact absurd hme (Nat.not_lt_zero _)
    | succ nn ih10 =>
      intro K i hme10 hi hi0 hi6 hKn he H locs hw ls hl
      refine lv_iload_n hx hb dX3_checkGroupNotEmpty_10 rfl (lv_at hl 3 rfl) ?_
      refine lv_iload_n hx hb dX3_checkGroupNotEmpty_11 rfl (lv_at hl 2 rfl) ?_
      refine z_icmp_ge (tgt := 40) hx hb dX3_checkGroupNotEmpty_12 (by decide) ⟨by omega, by omega⟩ ⟨by omega, by omega⟩ (fun c_1 => ?_) (fun c_1 => ?_)
      · exact z_throw hx hb hst hK hw hout hlk (cls := zIS) (text := "the group is empty") (names := zNm) hown (by decide +kernel) zfit w_2 w_3 hK.2.1.2.2.2.2.2.2.2.2.2.2.2.1 (fun w h => hts w (List.mem_cons_of_mem _ (List.mem_append_right _ h))) hK.2.1.badS zbIS zgIS (hl.1.trans hml.symm) dX3_checkGroupNotEmpty_40 dX3_checkGroupNotEmpty_43 dX3_checkGroupNotEmpty_44 dX3_checkGroupNotEmpty_46 dX3_checkGroupNotEmpty_49 (Nat.le_of_ble_eq_true rfl) (Nat.le_of_ble_eq_true rfl) (Nat.le_of_ble_eq_true rfl) (Nat.le_of_ble_eq_true rfl) (⟨rfl, by rw [show n = K by omega]; exact he⟩) (Nat.le_of_ble_eq_true rfl) (Nat.le_of_ble_eq_true rfl)
      · refine lv_aload_n hx hb dX3_checkGroupNotEmpty_15 rfl (lv_at hl 1 rfl) ?_
        refine lv_iload_n hx hb dX3_checkGroupNotEmpty_16 rfl (lv_at hl 3 rfl) ?_
        by_cases hin17 : (i) < (n : Int)
        · refine z_aald (f := zpf ad n) (v := .ref (ad (40 + 4 * K))) hx hb hK hw hI1 h1 (by omega) (by omega) (by decide) (zpf_k (by omega) (by omega)) dX3_checkGroupNotEmpty_17 ?_
          obtain ⟨hp0, hp1, hp2, hp3⟩ := hps K (by omega)
          obtain ⟨hk0, hk1, hk2, hk3⟩ := hms K (by omega)
          have hg := hgs K (by omega)
          have hg0 := hg
          obtain ⟨⟨g1, g2⟩, ⟨g3, g4⟩, ⟨g5, g6⟩, ⟨g7, g8⟩, ⟨g9, g10⟩, ⟨g11, g12⟩, g13, g14, g15, g16⟩ := hg0
          have gn : (((σ K)).1 : Int) = pn (σ K) := rfl
          refine lv_astore (lv' := [(4, .ref (ad (40 + 4 * K))), (0, .ref (ad (0))), (1, .ref (ad (1))), (2, zi (6)), (3, zi (i))]) hx hb dX3_checkGroupNotEmpty_18 hl (by decide) rfl (fun ls hl => ?_)
          refine lv_aload hx hb dX3_checkGroupNotEmpty_20 (lv_at hl 0 rfl) ?_
          refine lv_ifnull hx hb dX3_checkGroupNotEmpty_22 ?_
          refine lv_aload hx hb dX3_checkGroupNotEmpty_25 (lv_at hl 0 rfl) ?_
          refine z_get (C := RX1) (T := TX1) (N := 9) (fs := [zi (psp (σ K)), zi (pma (σ K)), zi (pco (σ K)), .ref (ad (40 + 4 * K + 1)), .ref (ad (40 + 4 * K + 2)), .ref (ad (40 + 4 * K + 3)), zi (pts (σ K)), zi (ptm (σ K)), zi (pjo (σ K))]) hx hb hts w_5 hown hK hw hk0 hp0 rfl 8 (by decide) w_4 rfl rfl dX3_checkGroupNotEmpty_27 ?_
          refine z_if_eq (tgt := 34) hx hb dX3_checkGroupNotEmpty_30 (by decide) ⟨by omega, by omega⟩ (fun c_2 => ?_) (fun c_2 => ?_)
          · refine z_iinc (lv' := [(3, zi (i + 1)), (4, .ref (ad (40 + 4 * K))), (0, .ref (ad (0))), (1, .ref (ad (1))), (2, zi (6))]) hx hb dX3_checkGroupNotEmpty_34 hl (k := 4) rfl (by decide) rfl (fun ls hl => ?_)
            refine lv_goto (tgt := 10) hx hb dX3_checkGroupNotEmpty_37 (by decide) ?_
            exact ih10 (K + 1) (i + 1) (by omega) (by omega) (by omega) (by omega) (by omega) (zemp_s he c_2) _ _ hw _ (lv_sub hl [2, 3, 4, 0] rfl)
          · exact z_vret hx hb hlk hr hw dX3_checkGroupNotEmpty_33 (Nat.le_of_ble_eq_true rfl) (Nat.le_of_ble_eq_true rfl) ⟨rfl, rfl, fun q9 => c_2 (q9 K (by omega)), rfl⟩
        · refine z_aald (f := zpf ad n) (v := .null) hx hb hK hw hI1 h1 (by omega) (by omega) (by decide) (zpf_n hin17) dX3_checkGroupNotEmpty_17 ?_
          refine lv_astoreN (lv' := [(4, .null), (0, .ref (ad (0))), (1, .ref (ad (1))), (2, zi (6)), (3, zi (i))]) hx hb dX3_checkGroupNotEmpty_18 hl (by decide) rfl (fun ls hl => ?_)
          refine lv_aloadN hx hb dX3_checkGroupNotEmpty_20 (lv_at hl 0 rfl) ?_
          refine lv_ifnullN (tgt := 34) hx hb dX3_checkGroupNotEmpty_22 (by decide) ?_
          refine z_iinc (lv' := [(3, zi (i + 1)), (4, .null), (0, .ref (ad (0))), (1, .ref (ad (1))), (2, zi (6))]) hx hb dX3_checkGroupNotEmpty_34 hl (k := 4) rfl (by decide) rfl (fun ls hl => ?_)
          refine lv_goto (tgt := 10) hx hb dX3_checkGroupNotEmpty_37 (by decide) ?_
          exact ih10 (K) (i + 1) (by omega) (by omega) (by omega) (by omega) (by omega) he _ _ hw _ (lv_sub hl [2, 3, 4, 0] rfl)
  exact L10 _ (0) (0) (Nat.lt_succ_self _) (Or.inl rfl) (by omega) (by omega) (by omega) (fun p hp => absurd hp (Nat.not_lt_zero p)) _ _ hw _ (lv_sub hl [3, 2, 1, 0] rfl)

set_option maxHeartbeats 4000000 in
set_option maxRecDepth 100000 in
theorem k_gload (l : Launch) (hl0 : l.stackTraces = false) (G : zG) (I : List Nat) (ad : Nat → Nat) (ct : Nat → va_E) (sz : Nat) (n : Nat) (hn6 : n ≤ 6) (hI0 : 0 ∈ I) (hI1 : 1 ∈ I) (h0 : ct 0 = .inr (3, [.ref (ad 1), .ref (ad 2), .ref (ad 3), zi n])) (h1 : ct 1 = zP G 6 (zpf ad n)) (σ : Nat → zPl) (hgs : ∀ p : Nat, p < n → zGood (σ p)) (hms : ∀ p : Nat, p < n → zMem4 I (40 + 4 * p)) (hps : ∀ p : Nat, p < n → zPileAt G ad ct (40 + 4 * p) (σ p)) (w p0 f0 a0 : Int) (h2m : 2 ∈ I) (h2 : ct 2 = .inr (2, [zi w, zi p0, zi f0, zi a0])) (s9 : Int) (hs0 : 0 ≤ s9) (hs1 : s9 ≤ 10000) : zN l yX3_groupLoad wsX3_groupLoad 4 96 0 0 G [.ref (ad (0)), zi (s9)] I ad ct zno sz (zk I (zql fun z u => z = zgl σ s9 n ∧ ∃ w1 p1 f1 a9 : Int, u = zU ct 2 (.inr (2, [zi w1, zi p1, zi f1, zi a9])))) := by
  refine z_ofW (ret := (some .long)) hl0 (by decide +kernel) rfl (Nat.le_of_ble_eq_true rfl) ?_
  intro p e s m args below meth c A ls hA0 hsz hF hr hout hnm hw hl
  obtain ⟨hx, hb, hml, hown, hts, hK, hlk, hst⟩ := hF
  have hown : s.vm.findClass RX3 = some m.cls := hown
  have hl : lv_has ls 8 [(0, .ref (ad (0))), (1, zi (s9))] := hl
  have w_0 := hts (.fieldLink RX3 11 "PileMoves" "piles" "[LPileMoves$Pile;") (by decide +kernel)
  have w_1 : ∀ w ∈ wsX30, w ∈ wsX3_groupLoad := by decide +kernel
  have w_2 := hts (.fieldLink RX3 101 "PileMoves$Pile" "joined" "Z") (by decide +kernel)
  have w_3 : ∀ w ∈ wsX10, w ∈ wsX3_groupLoad := by decide +kernel
  have w_4 := hts (.fieldLink RX3 18 "PileMoves" "state" "LPileMoves$State;") (by decide +kernel)
  have w_5 := hts (.fieldLink RX3 91 "PileMoves$State" "forceAbove" "I") (by decide +kernel)
  have w_6 : ∀ w ∈ wsX20, w ∈ wsX3_groupLoad := by decide +kernel
  refine z_lc0 hx hb dX3_groupLoad_0 ?_
  refine lv_lstore_n (lv' := [(2, zl (0)), (0, .ref (ad (0))), (1, zi (s9))]) hx hb dX3_groupLoad_1 rfl hl (by decide) rfl (fun ls hl => ?_)
  refine lv_aload_n hx hb dX3_groupLoad_2 rfl (lv_at hl 1 rfl) ?_
  refine z_get (C := RX3) (T := TX3) (N := 4) (fs := [.ref (ad (1)), .ref (ad (2)), .ref (ad (3)), zi (n)]) hx hb hts w_1 hown hK hw hI0 h0 rfl 0 (by decide) w_0 rfl rfl dX3_groupLoad_3 ?_
  refine lv_astore (lv' := [(4, .ref (ad (1))), (2, zl (0)), (0, .ref (ad (0))), (1, zi (s9))]) hx hb dX3_groupLoad_6 hl (by decide) rfl (fun ls hl => ?_)
  refine lv_aload hx hb dX3_groupLoad_8 (lv_at hl 0 rfl) ?_
  refine z_alen (n := 6) hx hb hK hw hI1 h1 3 rfl rfl dX3_groupLoad_10 ?_
  refine lv_istore (lv' := [(5, zi (6)), (4, .ref (ad (1))), (2, zl (0)), (0, .ref (ad (0))), (1, zi (s9))]) hx hb dX3_groupLoad_11 hl (by decide) rfl (fun ls hl => ?_)
  refine z_ic hx hb dX3_groupLoad_13 ?_
  refine lv_istore (lv' := [(6, zi (0)), (5, zi (6)), (4, .ref (ad (1))), (2, zl (0)), (0, .ref (ad (0))), (1, zi (s9))]) hx hb dX3_groupLoad_14 hl (by decide) rfl (fun ls hl => ?_)
  have L16 : ∀ (nn : Nat) (K : Nat) (i : Int) (sm : Int) (w1 : Int) (p1 : Int) (f1 : Int) (a1 : Int), ((6 - i).toNat) < nn → (i = K ∨ (K = n ∧ (n : Int) ≤ i)) → (0 ≤ i) → (i ≤ 6) → (K ≤ n) → (sm = zgl σ s9 K) → ∀ (H : Heap) (locs : List Loc), zW G A s.heap H locs I ad (zU ct 2 (.inr (2, [zi w1, zi p1, zi f1, zi a1]))) → ∀ ls, lv_has ls 8 [(0, .ref (ad (0))), (1, zi (s9)), (2, zl (sm)), (4, .ref (ad (1))), (5, zi (6)), (6, zi (i))] → W p l e ({ frames := 4, cells := 0, slots := 0, locals := 96 } : Room) s m args below meth c H locs 0 0 (vx_MQ below (zQ G A ad (zk I (zql fun z u => z = zgl σ s9 n ∧ ∃ w1 p1 f1 a9 : Int, u = zU ct 2 (.inr (2, [zi w1, zi p1, zi f1, zi a9]))))) (zX G A I ad ct zno) args s 0 0 A) (F0 m 16 ls []) := by
    intro nn
    induction nn with
    | zero => intro K i sm w1 p1 f1 a1 hme; exact absurd hme (Nat.not_lt_zero _)
    | succ nn ih16 =>
      intro K i sm w1 p1 f1 a1 hme16 hi hi0 hi6 hKn hsm H locs hw ls hl
      refine lv_iload hx hb dX3_groupLoad_16 (lv_at hl 5 rfl) ?_
      refine lv_iload hx hb dX3_groupLoad_18 (lv_at hl 4 rfl) ?_
      refine z_icmp_ge (tgt := 80) hx hb dX3_groupLoad_20 (by decide) ⟨by omega, by omega⟩ ⟨by decide, by decide⟩ (fun c_1 => ?_) (fun c_1 => ?_)
      · refine lv_lload_n hx hb dX3_groupLoad_80 rfl (lv_at hl 2 rfl) ?_
        exact z_lret hx hb hlk hr hw dX3_groupLoad_81 (Nat.le_of_ble_eq_true rfl) (Nat.le_of_ble_eq_true rfl) ⟨rfl, _, rfl, ⟨by rw [hsm, show K = n by omega], _, _, _, _, rfl⟩⟩
      · refine lv_aload hx hb dX3_groupLoad_23 (lv_at hl 3 rfl) ?_
        refine lv_iload hx hb dX3_groupLoad_25 (lv_at hl 5 rfl) ?_
        by_cases hin27 : (i) < (n : Int)
        · refine z_aald (f := zpf ad n) (v := .ref (ad (40 + 4 * K))) hx hb hK hw hI1 (zU_n (by decide) h1) (by omega) (by omega) (by decide) (zpf_k (by omega) (by omega)) dX3_groupLoad_27 ?_
          obtain ⟨hp0, hp1, hp2, hp3⟩ := hps K (by omega)
          obtain ⟨hk0, hk1, hk2, hk3⟩ := hms K (by omega)
          have hg := hgs K (by omega)
          have hg0 := hg
          obtain ⟨⟨g1, g2⟩, ⟨g3, g4⟩, ⟨g5, g6⟩, ⟨g7, g8⟩, ⟨g9, g10⟩, ⟨g11, g12⟩, g13, g14, g15, g16⟩ := hg0
          have gn : (((σ K)).1 : Int) = pn (σ K) := rfl
          refine lv_astore (lv' := [(7, .ref (ad (40 + 4 * K))), (0, .ref (ad (0))), (1, zi (s9)), (2, zl (sm)), (4, .ref (ad (1))), (5, zi (6)), (6, zi (i))]) hx hb dX3_groupLoad_28 hl (by decide) rfl (fun ls hl => ?_)
          refine lv_aload hx hb dX3_groupLoad_30 (lv_at hl 0 rfl) ?_
          refine lv_ifnull hx hb dX3_groupLoad_32 ?_
          refine lv_aload hx hb dX3_groupLoad_35 (lv_at hl 0 rfl) ?_
          refine z_get (C := RX1) (T := TX1) (N := 9) (fs := [zi (psp (σ K)), zi (pma (σ K)), zi (pco (σ K)), .ref (ad (40 + 4 * K + 1)), .ref (ad (40 + 4 * K + 2)), .ref (ad (40 + 4 * K + 3)), zi (pts (σ K)), zi (ptm (σ K)), zi (pjo (σ K))]) hx hb hts w_3 hown hK hw hk0 (zU_n (by omega) hp0) rfl 8 (by decide) w_2 rfl rfl dX3_groupLoad_37 ?_
          refine z_if_ne (tgt := 46) hx hb dX3_groupLoad_40 (by decide) ⟨by omega, by omega⟩ (fun c_2 => ?_) (fun c_2 => ?_)
          · refine lv_aload_n hx hb dX3_groupLoad_46 rfl (lv_at hl 1 rfl) ?_
            refine z_get (C := RX3) (T := TX3) (N := 4) (fs := [.ref (ad (1)), .ref (ad (2)), .ref (ad (3)), zi (n)]) hx hb hts w_1 hown hK hw hI0 (zU_n (by decide) h0) rfl 1 (by decide) w_4 rfl rfl dX3_groupLoad_47 ?_
            refine lv_aload hx hb dX3_groupLoad_50 (lv_at hl 0 rfl) ?_
            refine lv_iload_n hx hb dX3_groupLoad_52 rfl (lv_at hl 2 rfl) ?_
            refine z_kI (z_runV (As := [.ref (ad (40 + 4 * K)), zi (s9)]) (rest := []) (k := 2) (fs := [zi (w1), zi (p1), zi (f1), zi (a1)]) ⟨hx, hb, hml, hown, hts⟩ hK hw (k_findAt l hl0 G I ad _ _ (40 + 4 * K) (σ K) hg ⟨hk0, hk1, hk2, hk3⟩ ⟨(zU_n (by omega) hp0), (zU_n (by omega) hp1), (zU_n (by omega) hp2), (zU_n (by omega) hp3)⟩ (w1) (p1) (f1) (a1) h2m (zU_s _ _ _) (by omega) (s9) ⟨by omega, by omega⟩) (cwV 2 hts gX3_groupLoad_X2_findAt rfl rfl rfl (by decide +kernel) ⟨Nat.le_of_ble_eq_true rfl, Nat.le_of_ble_eq_true rfl⟩) h2m (zU_s _ _ _) rfl rfl rfl hl.1 rfl (Nat.le_of_ble_eq_true rfl) dX3_groupLoad_53 ⟨Nat.le_of_ble_eq_true rfl, Nat.le_of_ble_eq_true rfl⟩) hw (fun r_3 ct_4 H locs hP hw => ?_)
            obtain ⟨rfl, hct⟩ := hP
            rw [hct] at hw
            clear hct
            refine z_ifb_ne (tgt := 63) hx hb dX3_groupLoad_56 (by decide) (fun c_5 => ?_) (fun c_5 => ?_)
            · refine lv_lload_n hx hb dX3_groupLoad_63 rfl (lv_at hl 3 rfl) ?_
              refine lv_aload_n hx hb dX3_groupLoad_64 rfl (lv_at hl 1 rfl) ?_
              refine z_get (C := RX3) (T := TX3) (N := 4) (fs := [.ref (ad (1)), .ref (ad (2)), .ref (ad (3)), zi (n)]) hx hb hts w_1 hown hK hw hI0 (zU_n (by decide) (zU_n (by decide) h0)) rfl 1 (by decide) w_4 rfl rfl dX3_groupLoad_65 ?_
              refine z_get (C := RX2) (T := TX2) (N := 4) (fs := [zi (zg (σ K) false (s9)), zi (zhp (σ K) (zg (σ K) false (s9))), zi (zgf (σ K) 0 (zhp (σ K) (zg (σ K) false (s9)))), zi (zld (σ K) (zg (σ K) false (s9)))]) hx hb hts w_6 hown hK hw h2m (zU_s _ _ _) rfl 3 (by decide) w_5 rfl rfl dX3_groupLoad_68 ?_
              have b1 := zld_bd hg (zg (σ K) false s9)
              refine z_i2l hx hb dX3_groupLoad_71 ⟨by omega, by omega⟩ ?_
              refine z_ladd hx hb dX3_groupLoad_72 ?_
              refine lv_lstore_n (lv' := [(2, zl ((sm) + (zld (σ K) (zg (σ K) false (s9))))), (7, .ref (ad (40 + 4 * K))), (0, .ref (ad (0))), (1, zi (s9)), (4, .ref (ad (1))), (5, zi (6)), (6, zi (i))]) hx hb dX3_groupLoad_73 rfl hl (by decide) rfl (fun ls hl => ?_)
              refine z_iinc (lv' := [(6, zi (i + 1)), (2, zl ((sm) + (zld (σ K) (zg (σ K) false (s9))))), (7, .ref (ad (40 + 4 * K))), (0, .ref (ad (0))), (1, zi (s9)), (4, .ref (ad (1))), (5, zi (6))]) hx hb dX3_groupLoad_74 hl (k := 6) rfl (by decide) rfl (fun ls hl => ?_)
              refine lv_goto (tgt := 16) hx hb dX3_groupLoad_77 (by decide) ?_
              exact ih16 (K + 1) (i + 1) ((sm) + (zld (σ K) (zg (σ K) false (s9)))) (zg (σ K) false (s9)) (zhp (σ K) (zg (σ K) false (s9))) (zgf (σ K) 0 (zhp (σ K) (zg (σ K) false (s9)))) (zld (σ K) (zg (σ K) false (s9))) (by omega) (by omega) (by omega) (by omega) (by omega) (by rw [hsm]; show _ = zgl σ s9 K + ite _ _ _; rw [if_neg (by assumption)]) _ _ (zWe hw (by simp only [zU_zU])) _ (lv_sub hl [3, 4, 1, 5, 6, 0] rfl)
            · exact absurd (zat_ok hg (by omega)) c_5
          · refine lv_goto (tgt := 74) hx hb dX3_groupLoad_43 (by decide) ?_
            refine z_iinc (lv' := [(6, zi (i + 1)), (7, .ref (ad (40 + 4 * K))), (0, .ref (ad (0))), (1, zi (s9)), (2, zl (sm)), (4, .ref (ad (1))), (5, zi (6))]) hx hb dX3_groupLoad_74 hl (k := 6) rfl (by decide) rfl (fun ls hl => ?_)
            refine lv_goto (tgt := 16) hx hb dX3_groupLoad_77 (by decide) ?_
            exact ih16 (K + 1) (i + 1) (sm) (w1) (p1) (f1) (a1) (by omega) (by omega) (by omega) (by omega) (by omega) (by rw [hsm]; show _ = zgl σ s9 K + ite _ _ _; rw [if_pos (by assumption)]; omega) _ _ hw _ (lv_sub hl [2, 3, 4, 5, 6, 0] rfl)
        · refine z_aald (f := zpf ad n) (v := .null) hx hb hK hw hI1 (zU_n (by decide) h1) (by omega) (by omega) (by decide) (zpf_n hin27) dX3_groupLoad_27 ?_
          refine lv_astoreN (lv' := [(7, .null), (0, .ref (ad (0))), (1, zi (s9)), (2, zl (sm)), (4, .ref (ad (1))), (5, zi (6)), (6, zi (i))]) hx hb dX3_groupLoad_28 hl (by decide) rfl (fun ls hl => ?_)
          refine lv_aloadN hx hb dX3_groupLoad_30 (lv_at hl 0 rfl) ?_
          refine lv_ifnullN (tgt := 74) hx hb dX3_groupLoad_32 (by decide) ?_
          refine z_iinc (lv' := [(6, zi (i + 1)), (7, .null), (0, .ref (ad (0))), (1, zi (s9)), (2, zl (sm)), (4, .ref (ad (1))), (5, zi (6))]) hx hb dX3_groupLoad_74 hl (k := 6) rfl (by decide) rfl (fun ls hl => ?_)
          refine lv_goto (tgt := 16) hx hb dX3_groupLoad_77 (by decide) ?_
          exact ih16 (K) (i + 1) (sm) (w1) (p1) (f1) (a1) (by omega) (by omega) (by omega) (by omega) (by omega) hsm _ _ hw _ (lv_sub hl [2, 3, 4, 5, 6, 0] rfl)
  exact L16 _ (0) (0) (0) (w) (p0) (f0) (a0) (Nat.lt_succ_self _) (Or.inl rfl) (by omega) (by omega) (by omega) rfl _ _ (zWe hw (zU_id h2).symm) _ (lv_sub hl [4, 5, 3, 2, 1, 0] rfl)

theorem zps_U {G : zG} {ad : Nat → Nat} {ct : Nat → va_E} {n : Nat} {σ : Nat → zPl} {k : Nat} {e : va_E} (hk : k < 40) (h : ∀ p : Nat, p < n → zPileAt G ad ct (40 + 4 * p) (σ p)) : ∀ p : Nat, p < n → zPileAt G ad (zU ct k e) (40 + 4 * p) (σ p) := fun p hp => by
  obtain ⟨h0, h1, h2, h3⟩ := h p hp
  exact ⟨zU_n (by omega) h0, zU_n (by omega) h1, zU_n (by omega) h2, zU_n (by omega) h3⟩

set_option maxHeartbeats 4000000 in
set_option maxRecDepth 100000 in
theorem k_gset (l : Launch) (hl0 : l.stackTraces = false) (G : zG) (I : List Nat) (ad : Nat → Nat) (ct : Nat → va_E) (sz : Nat) (n : Nat) (hn6 : n ≤ 6) (hI0 : 0 ∈ I) (hI1 : 1 ∈ I) (h0 : ct 0 = .inr (3, [.ref (ad 1), .ref (ad 2), .ref (ad 3), zi n])) (h1 : ct 1 = zP G 6 (zpf ad n)) (σ : Nat → zPl) (hgs : ∀ p : Nat, p < n → zGood (σ p)) (hms : ∀ p : Nat, p < n → zMem4 I (40 + 4 * p)) (hps : ∀ p : Nat, p < n → zPileAt G ad ct (40 + 4 * p) (σ p)) (w p0 f0 a0 : Int) (h2m : 2 ∈ I) (h2 : ct 2 = .inr (2, [zi w, zi p0, zi f0, zi a0])) (ld : Int) (hz1 : zr ld) : zN l yX3_groupSettlement wsX3_groupSettlement 5 123 0 0 G [.ref (ad (0)), zi (ld)] I ad ct zno sz (zk I (zqi fun z u => z = zgs σ n ld ∧ ∃ w1 p1 f1 a9 : Int, u = zU ct 2 (.inr (2, [zi w1, zi p1, zi f1, zi a9])))) := by
  have bL : ∀ s : Int, -13200000 ≤ zgl σ s n ∧ zgl σ s n ≤ 13200000 := fun s => by have := zgl_bd hgs s n (Nat.le_refl n); omega
  have bL0 := bL 0
  have bL1 := bL 10000
  refine z_ofW (ret := (some .int)) hl0 (by decide +kernel) rfl (Nat.le_of_ble_eq_true rfl) ?_
  intro p e s m args below meth c A ls hA0 hsz hF hr hout hnm hw hl
  obtain ⟨hx, hb, hml, hown, hts, hK, hlk, hst⟩ := hF
  have hown : s.vm.findClass RX3 = some m.cls := hown
  have hl : lv_has ls 5 [(0, .ref (ad (0))), (1, zi (ld))] := hl
  have w_0 := hts (.constant RX3 84 (-1000000)) (by decide +kernel)
  refine lv_aload_n hx hb dX3_groupSettlement_0 rfl (lv_at hl 0 rfl) ?_
  refine z_ic hx hb dX3_groupSettlement_1 ?_
  refine z_kL (z_runV (As := [zi (0)]) (rest := []) (k := 0) (fs := [.ref (ad (1)), .ref (ad (2)), .ref (ad (3)), zi (n)]) ⟨hx, hb, hml, hown, hts⟩ hK hw (k_gload l hl0 G I ad _ _ n hn6 hI0 hI1 h0 h1 σ hgs hms hps (w) (p0) (f0) (a0) h2m h2 (0) (by omega) (by omega)) (cwV 1 hts gX3_groupSettlement_X3_groupLoad rfl rfl rfl (by decide +kernel) ⟨Nat.le_of_ble_eq_true rfl, Nat.le_of_ble_eq_true rfl⟩) hI0 h0 rfl rfl rfl hl.1 rfl (Nat.le_of_ble_eq_true rfl) dX3_groupSettlement_2 ⟨Nat.le_of_ble_eq_true rfl, Nat.le_of_ble_eq_true rfl⟩) hw (fun r_5 ct_6 H locs hP hw => ?_)
  obtain ⟨rfl, w_1, w_2, w_3, w_4, hct⟩ := hP
  rw [hct] at hw
  clear hct
  refine lv_iload_n hx hb dX3_groupSettlement_5 rfl (lv_at hl 1 rfl) ?_
  refine z_i2l hx hb dX3_groupSettlement_6 ⟨by omega, by omega⟩ ?_
  refine z_lcmp_gt (tgt := 24) hx hb dX3_groupSettlement_7 dX3_groupSettlement_8 (by decide) ⟨by omega, by omega⟩ ⟨by omega, by omega⟩ (fun c_7 => ?_) (fun c_7 => ?_)
  · refine z_ldc (n := -1000000) hx hb hown w_0 (by decide) dX3_groupSettlement_24 ?_
    exact z_iret hx hb hlk hr hw dX3_groupSettlement_26 (Nat.le_of_ble_eq_true rfl) (Nat.le_of_ble_eq_true rfl) ⟨rfl, _, rfl, (by unfold zgs; rw [if_pos (by omega)]), _, _, _, _, rfl⟩
  · refine lv_aload_n hx hb dX3_groupSettlement_11 rfl (lv_at hl 0 rfl) ?_
    refine z_si hx hb dX3_groupSettlement_12 (by decide) ?_
    refine z_kL (z_runV (As := [zi (10000)]) (rest := []) (k := 0) (fs := [.ref (ad (1)), .ref (ad (2)), .ref (ad (3)), zi (n)]) ⟨hx, hb, hml, hown, hts⟩ hK hw (k_gload l hl0 G I ad _ _ n hn6 hI0 hI1 (zU_n (by decide) h0) (zU_n (by decide) h1) σ hgs hms (zps_U (by omega) hps) (w_1) (w_2) (w_3) (w_4) h2m (zU_s _ _ _) (10000) (by omega) (by omega)) (cwV 1 hts gX3_groupSettlement_X3_groupLoad rfl rfl rfl (by decide +kernel) ⟨Nat.le_of_ble_eq_true rfl, Nat.le_of_ble_eq_true rfl⟩) hI0 (zU_n (by decide) h0) rfl rfl rfl hl.1 rfl (Nat.le_of_ble_eq_true rfl) dX3_groupSettlement_15 ⟨Nat.le_of_ble_eq_true rfl, Nat.le_of_ble_eq_true rfl⟩) hw (fun r_12 ct_13 H locs hP hw => ?_)
    obtain ⟨rfl, w_8, w_9, w_10, w_11, hct⟩ := hP
    rw [hct] at hw
    clear hct
    refine lv_iload_n hx hb dX3_groupSettlement_18 rfl (lv_at hl 1 rfl) ?_
    refine z_i2l hx hb dX3_groupSettlement_19 ⟨by omega, by omega⟩ ?_
    refine z_lcmp_gt (tgt := 27) hx hb dX3_groupSettlement_20 dX3_groupSettlement_21 (by decide) ⟨by omega, by omega⟩ ⟨by omega, by omega⟩ (fun c_14 => ?_) (fun c_14 => ?_)
    · refine z_ic hx hb dX3_groupSettlement_27 ?_
      refine lv_istore_n (lv' := [(2, zi (0)), (0, .ref (ad (0))), (1, zi (ld))]) hx hb dX3_groupSettlement_28 rfl hl (by decide) rfl (fun ls hl => ?_)
      refine z_si hx hb dX3_groupSettlement_29 (by decide) ?_
      refine lv_istore_n (lv' := [(3, zi (8192)), (2, zi (0)), (0, .ref (ad (0))), (1, zi (ld))]) hx hb dX3_groupSettlement_32 rfl hl (by decide) rfl (fun ls hl => ?_)
      have L33 : ∀ (nn : Nat) (j9 : Nat) (s9 : Int) (st9 : Int) (w1 : Int) (p1 : Int) (f1 : Int) (a1 : Int), (j9) < nn → (j9 ≤ 14) → (st9 = zpw j9) → (zgo (fun s => zgl σ s n) ld j9 s9 = zgo (fun s => zgl σ s n) ld 14 0) → (0 ≤ s9) → (s9 < 10000) → ∀ (H : Heap) (locs : List Loc), zW G A s.heap H locs I ad (zU ct 2 (.inr (2, [zi w1, zi p1, zi f1, zi a1]))) → ∀ ls, lv_has ls 5 [(0, .ref (ad (0))), (1, zi (ld)), (2, zi (s9)), (3, zi (st9))] → W p l e ({ frames := 5, cells := 0, slots := 0, locals := 123 } : Room) s m args below meth c H locs 0 0 (vx_MQ below (zQ G A ad (zk I (zqi fun z u => z = zgs σ n ld ∧ ∃ w1 p1 f1 a9 : Int, u = zU ct 2 (.inr (2, [zi w1, zi p1, zi f1, zi a9]))))) (zX G A I ad ct zno) args s 0 0 A) (F0 m 33 ls []) := by
        intro nn
        induction nn with
        | zero => intro j9 s9 st9 w1 p1 f1 a1 hme; exact absurd hme (Nat.not_lt_zero _)
        | succ nn ih33 =>
          intro j9 s9 st9 w1 p1 f1 a1 hme33 hj9 hst9 hres hs0 hs1 H locs hw ls hl
          have b9 := zpw_bd j9 hj9
          refine lv_iload_n hx hb dX3_groupSettlement_33 rfl (lv_at hl 3 rfl) ?_
          refine z_if_le (tgt := 72) hx hb dX3_groupSettlement_34 (by decide) ⟨by omega, by omega⟩ (fun c_15 => ?_) (fun c_15 => ?_)
          · refine lv_iload_n hx hb dX3_groupSettlement_72 rfl (lv_at hl 2 rfl) ?_
            exact z_iret hx hb hlk hr hw dX3_groupSettlement_73 (Nat.le_of_ble_eq_true rfl) (Nat.le_of_ble_eq_true rfl) ⟨rfl, _, rfl, (by unfold zgs; rw [if_neg (by omega), ← hres, zpw_z (j := j9) (by omega)]; rfl), _, _, _, _, rfl⟩
          · obtain ⟨j, rfl⟩ := zpw_succ (j := j9) (by omega)
            refine lv_iload_n hx hb dX3_groupSettlement_37 rfl (lv_at hl 2 rfl) ?_
            refine lv_iload_n hx hb dX3_groupSettlement_38 rfl (lv_at hl 3 rfl) ?_
            refine z_iadd hx hb dX3_groupSettlement_39 ?_
            refine lv_istore (lv' := [(4, zi ((s9) + (st9))), (0, .ref (ad (0))), (1, zi (ld)), (2, zi (s9)), (3, zi (st9))]) hx hb dX3_groupSettlement_40 hl (by decide) rfl (fun ls hl => ?_)
            refine lv_iload hx hb dX3_groupSettlement_42 (lv_at hl 0 rfl) ?_
            refine z_si hx hb dX3_groupSettlement_44 (by decide) ?_
            refine z_icmp_ge (tgt := 65) hx hb dX3_groupSettlement_47 (by decide) ⟨by omega, by omega⟩ ⟨by decide, by decide⟩ (fun c_16 => ?_) (fun c_16 => ?_)
            · refine lv_iload_n hx hb dX3_groupSettlement_65 rfl (lv_at hl 4 rfl) ?_
              refine z_ic hx hb dX3_groupSettlement_66 ?_
              refine z_idiv hx hb dX3_groupSettlement_67 ⟨by omega, by omega⟩ ⟨by decide, by decide⟩ (by decide) ?_
              refine lv_istore_n (lv' := [(3, zi ((st9).tdiv (2))), (4, zi ((s9) + (st9))), (0, .ref (ad (0))), (1, zi (ld)), (2, zi (s9))]) hx hb dX3_groupSettlement_68 rfl hl (by decide) rfl (fun ls hl => ?_)
              refine lv_goto (tgt := 33) hx hb dX3_groupSettlement_69 (by decide) ?_
              exact ih33 (j) (s9) ((st9).tdiv (2)) (w1) (p1) (f1) (a1) (by omega) (by omega) (by rw [hst9]; exact zpw_half j) (by rw [← hres]; show zgo _ _ j _ = zgo _ _ j (ite _ _ _); rw [if_neg (fun h => by have := h.1; omega)]) (by omega) (by omega) _ _ hw _ (lv_sub hl [2, 3, 4, 0] rfl)
            · refine lv_aload_n hx hb dX3_groupSettlement_50 rfl (lv_at hl 1 rfl) ?_
              refine lv_iload hx hb dX3_groupSettlement_51 (lv_at hl 0 rfl) ?_
              refine z_kL (z_runV (As := [zi ((s9) + (st9))]) (rest := []) (k := 0) (fs := [.ref (ad (1)), .ref (ad (2)), .ref (ad (3)), zi (n)]) ⟨hx, hb, hml, hown, hts⟩ hK hw (k_gload l hl0 G I ad _ _ n hn6 hI0 hI1 (zU_n (by decide) h0) (zU_n (by decide) h1) σ hgs hms (zps_U (by omega) hps) (w1) (p1) (f1) (a1) h2m (zU_s _ _ _) ((s9) + (st9)) (by omega) (by omega)) (cwV 1 hts gX3_groupSettlement_X3_groupLoad rfl rfl rfl (by decide +kernel) ⟨Nat.le_of_ble_eq_true rfl, Nat.le_of_ble_eq_true rfl⟩) hI0 (zU_n (by decide) h0) rfl rfl rfl hl.1 rfl (Nat.le_of_ble_eq_true rfl) dX3_groupSettlement_53 ⟨Nat.le_of_ble_eq_true rfl, Nat.le_of_ble_eq_true rfl⟩) hw (fun r_21 ct_22 H locs hP hw => ?_)
              obtain ⟨rfl, w_17, w_18, w_19, w_20, hct⟩ := hP
              rw [hct] at hw
              clear hct
              have b8 := bL (s9 + st9)
              refine lv_iload_n hx hb dX3_groupSettlement_56 rfl (lv_at hl 2 rfl) ?_
              refine z_i2l hx hb dX3_groupSettlement_57 ⟨by omega, by omega⟩ ?_
              refine z_lcmp_gt (tgt := 65) hx hb dX3_groupSettlement_58 dX3_groupSettlement_59 (by decide) ⟨by omega, by omega⟩ ⟨by omega, by omega⟩ (fun c_23 => ?_) (fun c_23 => ?_)
              · refine lv_iload_n hx hb dX3_groupSettlement_65 rfl (lv_at hl 4 rfl) ?_
                refine z_ic hx hb dX3_groupSettlement_66 ?_
                refine z_idiv hx hb dX3_groupSettlement_67 ⟨by omega, by omega⟩ ⟨by decide, by decide⟩ (by decide) ?_
                refine lv_istore_n (lv' := [(3, zi ((st9).tdiv (2))), (4, zi ((s9) + (st9))), (0, .ref (ad (0))), (1, zi (ld)), (2, zi (s9))]) hx hb dX3_groupSettlement_68 rfl hl (by decide) rfl (fun ls hl => ?_)
                refine lv_goto (tgt := 33) hx hb dX3_groupSettlement_69 (by decide) ?_
                exact ih33 (j) (s9) ((st9).tdiv (2)) (w_17) (w_18) (w_19) (w_20) (by omega) (by omega) (by rw [hst9]; exact zpw_half j) (by rw [← hres]; show zgo _ _ j _ = zgo _ _ j (ite _ _ _); rw [if_neg (fun h => by have h9 : zgl σ (s9 + zpw (j + 1)) n ≤ ld := h.2; rw [← hst9] at h9; omega)]) (by omega) (by omega) _ _ (zWe hw (by simp only [zU_zU])) _ (lv_sub hl [2, 3, 4, 0] rfl)
              · refine lv_iload hx hb dX3_groupSettlement_62 (lv_at hl 0 rfl) ?_
                refine lv_istore_n (lv' := [(2, zi ((s9) + (st9))), (4, zi ((s9) + (st9))), (0, .ref (ad (0))), (1, zi (ld)), (3, zi (st9))]) hx hb dX3_groupSettlement_64 rfl hl (by decide) rfl (fun ls hl => ?_)
                refine lv_iload_n hx hb dX3_groupSettlement_65 rfl (lv_at hl 4 rfl) ?_
                refine z_ic hx hb dX3_groupSettlement_66 ?_
                refine z_idiv hx hb dX3_groupSettlement_67 ⟨by omega, by omega⟩ ⟨by decide, by decide⟩ (by decide) ?_
                refine lv_istore_n (lv' := [(3, zi ((st9).tdiv (2))), (2, zi ((s9) + (st9))), (4, zi ((s9) + (st9))), (0, .ref (ad (0))), (1, zi (ld))]) hx hb dX3_groupSettlement_68 rfl hl (by decide) rfl (fun ls hl => ?_)
                refine lv_goto (tgt := 33) hx hb dX3_groupSettlement_69 (by decide) ?_
                exact ih33 (j) ((s9) + (st9)) ((st9).tdiv (2)) (w_17) (w_18) (w_19) (w_20) (by omega) (by omega) (by rw [hst9]; exact zpw_half j) (by rw [← hres]; show zgo _ _ j _ = zgo _ _ j (ite _ _ _); rw [if_pos (And.intro (by omega) (show zgl σ (s9 + zpw (j + 1)) n ≤ ld by rw [← hst9]; omega)), hst9]) (by omega) (by omega) _ _ (zWe hw (by simp only [zU_zU])) _ (lv_sub hl [3, 4, 1, 0] rfl)
      exact L33 _ (14) (0) (8192) (w_8) (w_9) (w_10) (w_11) (Nat.lt_succ_self _) (by omega) (by decide) rfl (by omega) (by omega) _ _ (zWe hw (by simp only [zU_zU])) _ (lv_sub hl [2, 3, 1, 0] rfl)
    · refine z_ldc (n := -1000000) hx hb hown w_0 (by decide) dX3_groupSettlement_24 ?_
      exact z_iret hx hb hlk hr hw dX3_groupSettlement_26 (Nat.le_of_ble_eq_true rfl) (Nat.le_of_ble_eq_true rfl) ⟨rfl, _, rfl, (by unfold zgs; rw [if_pos (by omega)]), _, _, _, _, by simp only [zU_zU]; rfl⟩

set_option maxHeartbeats 4000000 in
set_option maxRecDepth 100000 in
theorem k_group (l : Launch) (hl0 : l.stackTraces = false) (G : zG) (I : List Nat) (ad : Nat → Nat) (ct : Nat → va_E) (sz : Nat) (n : Nat) (hn6 : n ≤ 6) (hI0 : 0 ∈ I) (hI1 : 1 ∈ I) (h0 : ct 0 = .inr (3, [.ref (ad 1), .ref (ad 2), .ref (ad 3), zi n])) (h1 : ct 1 = zP G 6 (zpf ad n)) (σ : Nat → zPl) (hgs : ∀ p : Nat, p < n → zGood (σ p)) (hms : ∀ p : Nat, p < n → zMem4 I (40 + 4 * p)) (hps : ∀ p : Nat, p < n → zPileAt G ad ct (40 + 4 * p) (σ p)) (w p0 f0 a0 : Int) (h2m : 2 ∈ I) (h2 : ct 2 = .inr (2, [zi w, zi p0, zi f0, zi a0])) (a1 : Int) (hz1 : zr a1) : zN l yX3_group wsX3_group 8 147 2 12 G [.ref (ad (0)), zi (a1)] I ad ct (fun E => (E = zIA ∧ ¬ (0 ≤ a1 ∧ a1 ≤ 10000000)) ∨ (E = zIS ∧ (0 ≤ a1 ∧ a1 ≤ 10000000) ∧ zemp σ n)) sz (zk I (zqi fun z u => ((0 ≤ a1 ∧ a1 ≤ 10000000) ∧ ¬ zemp σ n) ∧ z = zgs σ n a1 ∧ ∃ w1 p1 f1 a9 : Int, u = zU ct 2 (.inr (2, [zi w1, zi p1, zi f1, zi a9])))) := by
  refine z_ofW (ret := (some .int)) hl0 (by decide +kernel) rfl (Nat.le_of_ble_eq_true rfl) ?_
  intro p e s m args below meth c A ls hA0 hsz hF hr hout hnm hw hl
  obtain ⟨hx, hb, hml, hown, hts, hK, hlk, hst⟩ := hF
  have hown : s.vm.findClass RX3 = some m.cls := hown
  have hl : lv_has ls 2 [(0, .ref (ad (0))), (1, zi (a1))] := hl
  refine lv_iload_n hx hb dX3_group_0 rfl (lv_at hl 1 rfl) ?_
  refine z_tV (z_runS (As := [zi (a1)]) (rest := []) ⟨hx, hb, hml, hown, hts⟩ hK hw (k_cload l hl0 G I ad _ _ (a1) hz1) (va_cwS 1 hts gX3_group_X3_checkLoad rfl rfl rfl (by decide +kernel) ⟨Nat.le_of_ble_eq_true rfl, Nat.le_of_ble_eq_true rfl⟩) rfl hl.1 rfl (Nat.le_of_ble_eq_true rfl) dX3_group_1 ⟨Nat.le_of_ble_eq_true rfl, Nat.le_of_ble_eq_true rfl⟩) hw hout hlk (fun E h9 => Or.inl h9) (Nat.le_of_ble_eq_true rfl) (Nat.le_of_ble_eq_true rfl) (fun ct_2 H locs hP hw => ?_)
  obtain ⟨⟨q1_1, q1_2⟩, hct⟩ := hP
  rw [hct] at hw
  clear hct
  refine lv_aload_n hx hb dX3_group_4 rfl (lv_at hl 0 rfl) ?_
  refine z_tV (z_runV (As := []) (rest := []) (k := 0) (fs := [.ref (ad (1)), .ref (ad (2)), .ref (ad (3)), zi (n)]) ⟨hx, hb, hml, hown, hts⟩ hK hw (k_cgroup l hl0 G I ad _ _ n hn6 hI0 hI1 h0 h1 σ hgs hms hps) (cwV 0 hts gX3_group_X3_checkGroupNotEmpty rfl rfl rfl (by decide +kernel) ⟨Nat.le_of_ble_eq_true rfl, Nat.le_of_ble_eq_true rfl⟩) hI0 h0 rfl rfl rfl hl.1 rfl (Nat.le_of_ble_eq_true rfl) dX3_group_5 ⟨Nat.le_of_ble_eq_true rfl, Nat.le_of_ble_eq_true rfl⟩) hw hout hlk (fun E h9 => Or.inr ⟨h9.1, ⟨by omega, by omega⟩, h9.2⟩) (Nat.le_of_ble_eq_true rfl) (Nat.le_of_ble_eq_true rfl) (fun ct_4 H locs hP hw => ?_)
  obtain ⟨hne, hct⟩ := hP
  rw [hct] at hw
  clear hct
  refine lv_aload_n hx hb dX3_group_8 rfl (lv_at hl 0 rfl) ?_
  refine lv_iload_n hx hb dX3_group_9 rfl (lv_at hl 1 rfl) ?_
  refine z_kI (z_runV (As := [zi (a1)]) (rest := []) (k := 0) (fs := [.ref (ad (1)), .ref (ad (2)), .ref (ad (3)), zi (n)]) ⟨hx, hb, hml, hown, hts⟩ hK hw (k_gset l hl0 G I ad _ _ n hn6 hI0 hI1 h0 h1 σ hgs hms hps (w) (p0) (f0) (a0) h2m h2 (a1) hz1) (cwV 1 hts gX3_group_X3_groupSettlement rfl rfl rfl (by decide +kernel) ⟨Nat.le_of_ble_eq_true rfl, Nat.le_of_ble_eq_true rfl⟩) hI0 h0 rfl rfl rfl hl.1 rfl (Nat.le_of_ble_eq_true rfl) dX3_group_10 ⟨Nat.le_of_ble_eq_true rfl, Nat.le_of_ble_eq_true rfl⟩) hw (fun r_9 ct_10 H locs hP hw => ?_)
  obtain ⟨rfl, w_5, w_6, w_7, w_8, hct⟩ := hP
  rw [hct] at hw
  clear hct
  exact z_iret hx hb hlk hr hw dX3_group_13 (Nat.le_of_ble_eq_true rfl) (Nat.le_of_ble_eq_true rfl) ⟨rfl, _, rfl, ⟨⟨⟨by omega, by omega⟩, hne⟩, rfl, _, _, _, _, rfl⟩⟩

/-- share: what a pile has at the group's settlement -/
def zsh (σ : Nat → zPl) (n : Nat) (load : Int) (p : Nat) : Int := if zgs σ n load = -1000000 then -1000000 else zld (σ p) (zg (σ p) false (zgs σ n load))

set_option maxHeartbeats 4000000 in
set_option maxRecDepth 100000 in
theorem k_share (l : Launch) (hl0 : l.stackTraces = false) (G : zG) (I : List Nat) (ad : Nat → Nat) (ct : Nat → va_E) (sz : Nat) (n : Nat) (hn6 : n ≤ 6) (hI0 : 0 ∈ I) (hI1 : 1 ∈ I) (h0 : ct 0 = .inr (3, [.ref (ad 1), .ref (ad 2), .ref (ad 3), zi n])) (h1 : ct 1 = zP G 6 (zpf ad n)) (σ : Nat → zPl) (hgs : ∀ p : Nat, p < n → zGood (σ p)) (hms : ∀ p : Nat, p < n → zMem4 I (40 + 4 * p)) (hps : ∀ p : Nat, p < n → zPileAt G ad ct (40 + 4 * p) (σ p)) (w p0 f0 a0 : Int) (h2m : 2 ∈ I) (h2 : ct 2 = .inr (2, [zi w, zi p0, zi f0, zi a0])) (a1 a2 : Int) (hz1 : zr a1) (hz2 : zr a2) : zN l yX3_share wsX3_share 8 147 4 24 G [.ref (ad (0)), zi (a1), zi (a2)] I ad ct (fun E => (E = zIA ∧ ¬ ((0 ≤ a1 ∧ a1 ≤ 10000000) ∧ (0 ≤ a2 ∧ a2 < n))) ∨ (E = zIS ∧ ((0 ≤ a1 ∧ a1 ≤ 10000000) ∧ (0 ≤ a2 ∧ a2 < n)) ∧ zemp σ n) ∨ (E = zIA ∧ (((0 ≤ a1 ∧ a1 ≤ 10000000) ∧ (0 ≤ a2 ∧ a2 < n)) ∧ ¬ zemp σ n) ∧ pjo (σ (a2).toNat) = 0)) sz (zk I (zqi fun z u => ((((0 ≤ a1 ∧ a1 ≤ 10000000) ∧ (0 ≤ a2 ∧ a2 < n)) ∧ ¬ zemp σ n) ∧ pjo (σ (a2).toNat) ≠ 0) ∧ z = zsh σ n a1 (a2).toNat ∧ ∃ w1 p1 f1 a9 : Int, u = zU ct 2 (.inr (2, [zi w1, zi p1, zi f1, zi a9])))) := by
  have bS := zgs_bd σ n a1
  refine z_ofW (ret := (some .int)) hl0 (by decide +kernel) rfl (Nat.le_of_ble_eq_true rfl) ?_
  intro p e s m args below meth c A ls hA0 hsz hF hr hout hnm hw hl
  obtain ⟨hx, hb, hml, hown, hts, hK, hlk, hst⟩ := hF
  have hown : s.vm.findClass RX3 = some m.cls := hown
  have hl : lv_has ls 5 [(0, .ref (ad (0))), (1, zi (a1)), (2, zi (a2))] := hl
  have w_0 := hts (.fieldLink RX3 101 "PileMoves$Pile" "joined" "Z") (by decide +kernel)
  have w_1 : ∀ w ∈ wsX10, w ∈ wsX3_share := by decide +kernel
  have w_2 := hts (.constant RX3 84 (-1000000)) (by decide +kernel)
  have w_3 := hts (.fieldLink RX3 18 "PileMoves" "state" "LPileMoves$State;") (by decide +kernel)
  have w_4 : ∀ w ∈ wsX30, w ∈ wsX3_share := by decide +kernel
  have w_5 := hts (.fieldLink RX3 91 "PileMoves$State" "forceAbove" "I") (by decide +kernel)
  have w_6 : ∀ w ∈ wsX20, w ∈ wsX3_share := by decide +kernel
  have w_7 := hts (.classLink RX3 112 zIA) (by decide +kernel)
  have w_8 := hts (.initialized zIA) (by decide +kernel)
  refine lv_iload_n hx hb dX3_share_0 rfl (lv_at hl 1 rfl) ?_
  refine z_tV (z_runS (As := [zi (a1)]) (rest := []) ⟨hx, hb, hml, hown, hts⟩ hK hw (k_cload l hl0 G I ad _ _ (a1) hz1) (va_cwS 1 hts gX3_share_X3_checkLoad rfl rfl rfl (by decide +kernel) ⟨Nat.le_of_ble_eq_true rfl, Nat.le_of_ble_eq_true rfl⟩) rfl hl.1 rfl (Nat.le_of_ble_eq_true rfl) dX3_share_1 ⟨Nat.le_of_ble_eq_true rfl, Nat.le_of_ble_eq_true rfl⟩) hw hout hlk (fun E h9 => Or.inl ⟨h9.1, fun q9 => h9.2 (by omega)⟩) (Nat.le_of_ble_eq_true rfl) (Nat.le_of_ble_eq_true rfl) (fun ct_2 H locs hP hw => ?_)
  obtain ⟨⟨q1_1, q1_2⟩, hct⟩ := hP
  rw [hct] at hw
  clear hct
  refine lv_aload_n hx hb dX3_share_4 rfl (lv_at hl 0 rfl) ?_
  refine lv_iload_n hx hb dX3_share_5 rfl (lv_at hl 2 rfl) ?_
  refine z_tA (z_runV (As := [zi (a2)]) (rest := []) (k := 0) (fs := [.ref (ad (1)), .ref (ad (2)), .ref (ad (3)), zi (n)]) ⟨hx, hb, hml, hown, hts⟩ hK hw (k_pileOf l hl0 G I ad _ _ n hn6 hI0 hI1 h0 h1 (a2) hz2) (cwV 1 hts gX3_share_X3_pileOf rfl rfl rfl (by decide +kernel) ⟨Nat.le_of_ble_eq_true rfl, Nat.le_of_ble_eq_true rfl⟩) hI0 h0 rfl rfl rfl hl.1 rfl (Nat.le_of_ble_eq_true rfl) dX3_share_6 ⟨Nat.le_of_ble_eq_true rfl, Nat.le_of_ble_eq_true rfl⟩) hw hout hlk (fun E h9 => Or.inl ⟨h9.1, fun q9 => h9.2 (by omega)⟩) (Nat.le_of_ble_eq_true rfl) (Nat.le_of_ble_eq_true rfl) (fun r_3 ct_4 H locs hP hw => ?_)
  obtain ⟨rfl, ⟨q6_1, q6_2⟩, hct⟩ := hP
  rw [hct] at hw
  clear hct
  obtain ⟨hp0, hp1, hp2, hp3⟩ := hps (a2).toNat (by omega)
  obtain ⟨hk0, hk1, hk2, hk3⟩ := hms (a2).toNat (by omega)
  have hg := hgs (a2).toNat (by omega)
  have hg0 := hg
  obtain ⟨⟨g1, g2⟩, ⟨g3, g4⟩, ⟨g5, g6⟩, ⟨g7, g8⟩, ⟨g9, g10⟩, ⟨g11, g12⟩, g13, g14, g15, g16⟩ := hg0
  have gn : (((σ (a2).toNat)).1 : Int) = pn (σ (a2).toNat) := rfl
  refine lv_astore_n (lv' := [(3, .ref (ad (40 + 4 * (a2).toNat))), (0, .ref (ad (0))), (1, zi (a1)), (2, zi (a2))]) hx hb dX3_share_9 rfl hl (by decide) rfl (fun ls hl => ?_)
  refine lv_aload_n hx hb dX3_share_10 rfl (lv_at hl 1 rfl) ?_
  refine z_tV (z_runV (As := []) (rest := []) (k := 0) (fs := [.ref (ad (1)), .ref (ad (2)), .ref (ad (3)), zi (n)]) ⟨hx, hb, hml, hown, hts⟩ hK hw (k_cgroup l hl0 G I ad _ _ n hn6 hI0 hI1 h0 h1 σ hgs hms hps) (cwV 0 hts gX3_share_X3_checkGroupNotEmpty rfl rfl rfl (by decide +kernel) ⟨Nat.le_of_ble_eq_true rfl, Nat.le_of_ble_eq_true rfl⟩) hI0 h0 rfl rfl rfl hl.1 rfl (Nat.le_of_ble_eq_true rfl) dX3_share_11 ⟨Nat.le_of_ble_eq_true rfl, Nat.le_of_ble_eq_true rfl⟩) hw hout hlk (fun E h9 => Or.inr (Or.inl ⟨h9.1, ⟨⟨by omega, by omega⟩, ⟨by omega, by omega⟩⟩, h9.2⟩)) (Nat.le_of_ble_eq_true rfl) (Nat.le_of_ble_eq_true rfl) (fun ct_6 H locs hP hw => ?_)
  obtain ⟨hne, hct⟩ := hP
  rw [hct] at hw
  clear hct
  refine lv_aload_n hx hb dX3_share_14 rfl (lv_at hl 0 rfl) ?_
  refine z_get (C := RX1) (T := TX1) (N := 9) (fs := [zi (psp (σ (a2).toNat)), zi (pma (σ (a2).toNat)), zi (pco (σ (a2).toNat)), .ref (ad (40 + 4 * (a2).toNat + 1)), .ref (ad (40 + 4 * (a2).toNat + 2)), .ref (ad (40 + 4 * (a2).toNat + 3)), zi (pts (σ (a2).toNat)), zi (ptm (σ (a2).toNat)), zi (pjo (σ (a2).toNat))]) hx hb hts w_1 hown hK hw hk0 hp0 rfl 8 (by decide) w_0 rfl rfl dX3_share_15 ?_
  refine z_if_ne (tgt := 31) hx hb dX3_share_18 (by decide) ⟨by omega, by omega⟩ (fun c_7 => ?_) (fun c_7 => ?_)
  · refine lv_aload_n hx hb dX3_share_31 rfl (lv_at hl 1 rfl) ?_
    refine lv_iload_n hx hb dX3_share_32 rfl (lv_at hl 2 rfl) ?_
    refine z_kI (z_runV (As := [zi (a1)]) (rest := []) (k := 0) (fs := [.ref (ad (1)), .ref (ad (2)), .ref (ad (3)), zi (n)]) ⟨hx, hb, hml, hown, hts⟩ hK hw (k_gset l hl0 G I ad _ _ n hn6 hI0 hI1 h0 h1 σ hgs hms hps (w) (p0) (f0) (a0) h2m h2 (a1) hz1) (cwV 1 hts gX3_share_X3_groupSettlement rfl rfl rfl (by decide +kernel) ⟨Nat.le_of_ble_eq_true rfl, Nat.le_of_ble_eq_true rfl⟩) hI0 h0 rfl rfl rfl hl.1 rfl (Nat.le_of_ble_eq_true rfl) dX3_share_33 ⟨Nat.le_of_ble_eq_true rfl, Nat.le_of_ble_eq_true rfl⟩) hw (fun r_12 ct_13 H locs hP hw => ?_)
    obtain ⟨rfl, w_8, w_9, w_10, w_11, hct⟩ := hP
    rw [hct] at hw
    clear hct
    refine lv_istore (lv' := [(4, zi (zgs σ n (a1))), (3, .ref (ad (40 + 4 * (a2).toNat))), (0, .ref (ad (0))), (1, zi (a1)), (2, zi (a2))]) hx hb dX3_share_36 hl (by decide) rfl (fun ls hl => ?_)
    refine lv_iload hx hb dX3_share_38 (lv_at hl 0 rfl) ?_
    refine z_ldc (n := -1000000) hx hb hown w_2 (by decide) dX3_share_40 ?_
    refine z_icmp_eq (tgt := 58) hx hb dX3_share_42 (by decide) ⟨by omega, by omega⟩ ⟨by decide, by decide⟩ (fun c_14 => ?_) (fun c_14 => ?_)
    · refine z_ldc (n := -1000000) hx hb hown w_2 (by decide) dX3_share_58 ?_
      exact z_iret hx hb hlk hr hw dX3_share_60 (Nat.le_of_ble_eq_true rfl) (Nat.le_of_ble_eq_true rfl) ⟨rfl, _, rfl, ⟨⟨⟨⟨by omega, by omega⟩, ⟨by omega, by omega⟩⟩, hne⟩, by omega⟩, (if_pos (by omega)).symm, _, _, _, _, rfl⟩
    · refine lv_aload_n hx hb dX3_share_45 rfl (lv_at hl 2 rfl) ?_
      refine z_get (C := RX3) (T := TX3) (N := 4) (fs := [.ref (ad (1)), .ref (ad (2)), .ref (ad (3)), zi (n)]) hx hb hts w_4 hown hK hw hI0 (zU_n (by decide) h0) rfl 1 (by decide) w_3 rfl rfl dX3_share_46 ?_
      refine lv_aload_n hx hb dX3_share_49 rfl (lv_at hl 1 rfl) ?_
      refine lv_iload hx hb dX3_share_50 (lv_at hl 0 rfl) ?_
      refine z_kI (z_runV (As := [.ref (ad (40 + 4 * (a2).toNat)), zi (zgs σ n (a1))]) (rest := []) (k := 2) (fs := [zi (w_8), zi (w_9), zi (w_10), zi (w_11)]) ⟨hx, hb, hml, hown, hts⟩ hK hw (k_findAt l hl0 G I ad _ _ (40 + 4 * (a2).toNat) (σ (a2).toNat) hg ⟨hk0, hk1, hk2, hk3⟩ ⟨(zU_n (by omega) hp0), (zU_n (by omega) hp1), (zU_n (by omega) hp2), (zU_n (by omega) hp3)⟩ (w_8) (w_9) (w_10) (w_11) h2m (zU_s _ _ _) (by omega) (zgs σ n (a1)) ⟨by omega, by omega⟩) (cwV 2 hts gX3_share_X2_findAt rfl rfl rfl (by decide +kernel) ⟨Nat.le_of_ble_eq_true rfl, Nat.le_of_ble_eq_true rfl⟩) h2m (zU_s _ _ _) rfl rfl rfl hl.1 rfl (Nat.le_of_ble_eq_true rfl) dX3_share_52 ⟨Nat.le_of_ble_eq_true rfl, Nat.le_of_ble_eq_true rfl⟩) hw (fun r_15 ct_16 H locs hP hw => ?_)
      obtain ⟨rfl, hct⟩ := hP
      rw [hct] at hw
      clear hct
      refine z_ifb_ne (tgt := 61) hx hb dX3_share_55 (by decide) (fun c_17 => ?_) (fun c_17 => ?_)
      · refine lv_aload_n hx hb dX3_share_61 rfl (lv_at hl 2 rfl) ?_
        refine z_get (C := RX3) (T := TX3) (N := 4) (fs := [.ref (ad (1)), .ref (ad (2)), .ref (ad (3)), zi (n)]) hx hb hts w_4 hown hK hw hI0 (zU_n (by decide) (zU_n (by decide) h0)) rfl 1 (by decide) w_3 rfl rfl dX3_share_62 ?_
        refine z_get (C := RX2) (T := TX2) (N := 4) (fs := [zi (zg (σ (a2).toNat) false (zgs σ n (a1))), zi (zhp (σ (a2).toNat) (zg (σ (a2).toNat) false (zgs σ n (a1)))), zi (zgf (σ (a2).toNat) 0 (zhp (σ (a2).toNat) (zg (σ (a2).toNat) false (zgs σ n (a1))))), zi (zld (σ (a2).toNat) (zg (σ (a2).toNat) false (zgs σ n (a1))))]) hx hb hts w_6 hown hK hw h2m (zU_s _ _ _) rfl 3 (by decide) w_5 rfl rfl dX3_share_65 ?_
        exact z_iret hx hb hlk hr hw dX3_share_68 (Nat.le_of_ble_eq_true rfl) (Nat.le_of_ble_eq_true rfl) ⟨rfl, _, rfl, ⟨⟨⟨⟨by omega, by omega⟩, ⟨by omega, by omega⟩⟩, hne⟩, by omega⟩, (if_neg (by omega)).symm, _, _, _, _, by simp only [zU_zU]; rfl⟩
      · exact absurd (zat_ok hg (by omega)) c_17
  · exact z_throw hx hb hst hK hw hout hlk (cls := zIA) (text := "the pile is not in the group") (names := zNm) hown (by decide +kernel) zfit w_7 w_8 hK.2.1.2.2.2.2.2.2.2.2.2.2.2.2.1 (fun w h => hts w (List.mem_cons_of_mem _ (List.mem_append_left _ (List.mem_append_right _ h)))) hK.2.1.badA zbIA zgIA (hl.1.trans hml.symm) dX3_share_21 dX3_share_24 dX3_share_25 dX3_share_27 dX3_share_30 (Nat.le_of_ble_eq_true rfl) (Nat.le_of_ble_eq_true rfl) (Nat.le_of_ble_eq_true rfl) (Nat.le_of_ble_eq_true rfl) (Or.inr (Or.inr ⟨rfl, ⟨⟨⟨by omega, by omega⟩, ⟨by omega, by omega⟩⟩, hne⟩, by omega⟩)) (Nat.le_of_ble_eq_true rfl) (Nat.le_of_ble_eq_true rfl)

set_option maxHeartbeats 4000000 in
set_option maxRecDepth 100000 in
theorem k_cheap (l : Launch) (hl0 : l.stackTraces = false) (G : zG) (I : List Nat) (ad : Nat → Nat) (ct : Nat → va_E) (sz : Nat) (n : Nat) (hn6 : n ≤ 6) (hI0 : 0 ∈ I) (hI1 : 1 ∈ I) (h0 : ct 0 = .inr (3, [.ref (ad 1), .ref (ad 2), .ref (ad 3), zi n])) (h1 : ct 1 = zP G 6 (zpf ad n)) (σ : Nat → zPl) (hgs : ∀ p : Nat, p < n → zGood (σ p)) (hms : ∀ p : Nat, p < n → zMem4 I (40 + 4 * p)) (hps : ∀ p : Nat, p < n → zPileAt G ad ct (40 + 4 * p) (σ p)) (w p0 f0 a0 : Int) (h2m : 2 ∈ I) (h2 : ct 2 = .inr (2, [zi w, zi p0, zi f0, zi a0])) (a1 a2 : Int) (hz1 : zr a1) (hz2 : zr a2) : zN l yX3_cheapest wsX3_cheapest 8 128 2 12 G [.ref (ad (0)), zi (a1), zi (a2)] I ad ct (fun E => E = zIA ∧ ¬ ((0 ≤ a1 ∧ a1 ≤ 10000000) ∧ (0 ≤ a2 ∧ a2 ≤ 100000))) sz (zk I (zqi fun z u => ((0 ≤ a1 ∧ a1 ≤ 10000000) ∧ (0 ≤ a2 ∧ a2 ≤ 100000)) ∧ z = zch σ a1 a2 n ∧ ∃ w1 p1 f1 a9 : Int, u = zU ct 2 (.inr (2, [zi w1, zi p1, zi f1, zi a9])))) := by
  refine z_ofW (ret := (some .int)) hl0 (by decide +kernel) rfl (Nat.le_of_ble_eq_true rfl) ?_
  intro p e s m args below meth c A ls hA0 hsz hF hr hout hnm hw hl
  obtain ⟨hx, hb, hml, hown, hts, hK, hlk, hst⟩ := hF
  have hown : s.vm.findClass RX3 = some m.cls := hown
  have hl : lv_has ls 7 [(0, .ref (ad (0))), (1, zi (a1)), (2, zi (a2))] := hl
  have w_0 := hts (.constant RX3 37 (100000)) (by decide +kernel)
  have w_1 := hts (.constant RX3 84 (-1000000)) (by decide +kernel)
  have w_2 := hts (.fieldLink RX3 11 "PileMoves" "piles" "[LPileMoves$Pile;") (by decide +kernel)
  have w_3 : ∀ w ∈ wsX30, w ∈ wsX3_cheapest := by decide +kernel
  have w_4 := hts (.fieldLink RX3 18 "PileMoves" "state" "LPileMoves$State;") (by decide +kernel)
  have w_5 := hts (.fieldLink RX3 81 "PileMoves$State" "place" "I") (by decide +kernel)
  have w_6 : ∀ w ∈ wsX20, w ∈ wsX3_cheapest := by decide +kernel
  have w_7 := hts (.fieldLink RX3 98 "PileMoves$Pile" "cost" "I") (by decide +kernel)
  have w_8 : ∀ w ∈ wsX10, w ∈ wsX3_cheapest := by decide +kernel
  refine lv_iload_n hx hb dX3_cheapest_0 rfl (lv_at hl 1 rfl) ?_
  refine z_tV (z_runS (As := [zi (a1)]) (rest := []) ⟨hx, hb, hml, hown, hts⟩ hK hw (k_cload l hl0 G I ad _ _ (a1) hz1) (va_cwS 1 hts gX3_cheapest_X3_checkLoad rfl rfl rfl (by decide +kernel) ⟨Nat.le_of_ble_eq_true rfl, Nat.le_of_ble_eq_true rfl⟩) rfl hl.1 rfl (Nat.le_of_ble_eq_true rfl) dX3_cheapest_1 ⟨Nat.le_of_ble_eq_true rfl, Nat.le_of_ble_eq_true rfl⟩) hw hout hlk (fun E h9 => ⟨h9.1, fun q9 => h9.2 (by omega)⟩) (Nat.le_of_ble_eq_true rfl) (Nat.le_of_ble_eq_true rfl) (fun ct_2 H locs hP hw => ?_)
  obtain ⟨⟨q1_1, q1_2⟩, hct⟩ := hP
  rw [hct] at hw
  clear hct
  refine lv_iload_n hx hb dX3_cheapest_4 rfl (lv_at hl 2 rfl) ?_
  refine z_ic hx hb dX3_cheapest_5 ?_
  refine z_ldc (n := 100000) hx hb hown w_0 (by decide) dX3_cheapest_6 ?_
  refine z_tV (z_runS (As := [zi (a2), zi (0), zi (100000)]) (rest := []) ⟨hx, hb, hml, hown, hts⟩ hK hw (k_within l hl0 G I ad _ _ (a2) (0) (100000) hz2 ⟨by decide, by decide⟩ ⟨by decide, by decide⟩) (va_cwS 3 hts gX3_cheapest_X3_checkWithin rfl rfl rfl (by decide +kernel) ⟨Nat.le_of_ble_eq_true rfl, Nat.le_of_ble_eq_true rfl⟩) rfl hl.1 rfl (Nat.le_of_ble_eq_true rfl) dX3_cheapest_8 ⟨Nat.le_of_ble_eq_true rfl, Nat.le_of_ble_eq_true rfl⟩) hw hout hlk (fun E h9 => ⟨h9.1, fun q9 => h9.2 (by omega)⟩) (Nat.le_of_ble_eq_true rfl) (Nat.le_of_ble_eq_true rfl) (fun ct_4 H locs hP hw => ?_)
  obtain ⟨⟨q8_1, q8_2⟩, hct⟩ := hP
  rw [hct] at hw
  clear hct
  refine z_ldc (n := -1000000) hx hb hown w_1 (by decide) dX3_cheapest_11 ?_
  refine lv_istore_n (lv' := [(3, zi (-1000000)), (0, .ref (ad (0))), (1, zi (a1)), (2, zi (a2))]) hx hb dX3_cheapest_13 rfl hl (by decide) rfl (fun ls hl => ?_)
  refine z_ic hx hb dX3_cheapest_14 ?_
  refine lv_istore (lv' := [(4, zi (0)), (3, zi (-1000000)), (0, .ref (ad (0))), (1, zi (a1)), (2, zi (a2))]) hx hb dX3_cheapest_15 hl (by decide) rfl (fun ls hl => ?_)
  refine z_ic hx hb dX3_cheapest_17 ?_
  refine lv_istore (lv' := [(5, zi (0)), (4, zi (0)), (3, zi (-1000000)), (0, .ref (ad (0))), (1, zi (a1)), (2, zi (a2))]) hx hb dX3_cheapest_18 hl (by decide) rfl (fun ls hl => ?_)
  have L20 : ∀ (nn : Nat) (K : Nat) (i : Int) (be : Int) (lc : Int) (w1 : Int) (p1 : Int) (f1 : Int) (a9 : Int), ((6 - i).toNat) < nn → (i = K ∨ (K = n ∧ (n : Int) ≤ i)) → (0 ≤ i) → (i ≤ 6) → (K ≤ n) → (be = zch σ a1 a2 K) → (be = -1000000 ∨ lc = pco (σ be.toNat)) → ∀ (H : Heap) (locs : List Loc), zW G A s.heap H locs I ad (zU ct 2 (.inr (2, [zi w1, zi p1, zi f1, zi a9]))) → ∀ ls, lv_has ls 7 [(0, .ref (ad (0))), (1, zi (a1)), (2, zi (a2)), (3, zi (be)), (4, zi (lc)), (5, zi (i))] → W p l e ({ frames := 8, cells := 2, slots := 12, locals := 128 } : Room) s m args below meth c H locs 2 12 (vx_MQ below (zQ G A ad (zk I (zqi fun z u => ((0 ≤ a1 ∧ a1 ≤ 10000000) ∧ (0 ≤ a2 ∧ a2 ≤ 100000)) ∧ z = zch σ a1 a2 n ∧ ∃ w1 p1 f1 a9 : Int, u = zU ct 2 (.inr (2, [zi w1, zi p1, zi f1, zi a9]))))) (zX G A I ad ct (fun E => E = zIA ∧ ¬ ((0 ≤ a1 ∧ a1 ≤ 10000000) ∧ (0 ≤ a2 ∧ a2 ≤ 100000)))) args s 2 12 A) (F0 m 20 ls []) := by
    intro nn
    induction nn with
    | zero => intro K i be lc w1 p1 f1 a9 hme; exact absurd hme (Nat.not_lt_zero _)
    | succ nn ih20 =>
      intro K i be lc w1 p1 f1 a9 hme20 hi hi0 hi6 hKn hbe hlc H locs hw ls hl
      have bb := zch_bd σ a1 a2 K
      rw [← hbe] at bb
      have blc : be ≠ -1000000 → 0 ≤ lc ∧ lc ≤ 100000 := fun h9 => by rw [hlc.resolve_left h9]; exact (hgs be.toNat (by omega)).2.2.2.1
      refine lv_iload hx hb dX3_cheapest_20 (lv_at hl 5 rfl) ?_
      refine lv_aload_n hx hb dX3_cheapest_22 rfl (lv_at hl 0 rfl) ?_
      refine z_get (C := RX3) (T := TX3) (N := 4) (fs := [.ref (ad (1)), .ref (ad (2)), .ref (ad (3)), zi (n)]) hx hb hts w_3 hown hK hw hI0 (zU_n (by decide) h0) rfl 0 (by decide) w_2 rfl rfl dX3_cheapest_23 ?_
      refine z_alen (n := 6) hx hb hK hw hI1 (zU_n (by decide) h1) 3 rfl rfl dX3_cheapest_26 ?_
      refine z_icmp_ge (tgt := 103) hx hb dX3_cheapest_27 (by decide) ⟨by omega, by omega⟩ ⟨by decide, by decide⟩ (fun c_5 => ?_) (fun c_5 => ?_)
      · refine lv_iload_n hx hb dX3_cheapest_103 rfl (lv_at hl 3 rfl) ?_
        exact z_iret hx hb hlk hr hw dX3_cheapest_104 (Nat.le_of_ble_eq_true rfl) (Nat.le_of_ble_eq_true rfl) ⟨rfl, _, rfl, ⟨⟨⟨by omega, by omega⟩, ⟨by omega, by omega⟩⟩, by rw [hbe, show K = n by omega], _, _, _, _, rfl⟩⟩
      · refine lv_aload_n hx hb dX3_cheapest_30 rfl (lv_at hl 0 rfl) ?_
        refine z_get (C := RX3) (T := TX3) (N := 4) (fs := [.ref (ad (1)), .ref (ad (2)), .ref (ad (3)), zi (n)]) hx hb hts w_3 hown hK hw hI0 (zU_n (by decide) h0) rfl 0 (by decide) w_2 rfl rfl dX3_cheapest_31 ?_
        refine lv_iload hx hb dX3_cheapest_34 (lv_at hl 5 rfl) ?_
        by_cases hin36 : (i) < (n : Int)
        · refine z_aald (f := zpf ad n) (v := .ref (ad (40 + 4 * K))) hx hb hK hw hI1 (zU_n (by decide) h1) (by omega) (by omega) (by decide) (zpf_k (by omega) (by omega)) dX3_cheapest_36 ?_
          obtain ⟨hp0, hp1, hp2, hp3⟩ := hps K (by omega)
          obtain ⟨hk0, hk1, hk2, hk3⟩ := hms K (by omega)
          have hg := hgs K (by omega)
          have hg0 := hg
          obtain ⟨⟨g1, g2⟩, ⟨g3, g4⟩, ⟨g5, g6⟩, ⟨g7, g8⟩, ⟨g9, g10⟩, ⟨g11, g12⟩, g13, g14, g15, g16⟩ := hg0
          have gn : (((σ K)).1 : Int) = pn (σ K) := rfl
          refine lv_astore (lv' := [(6, .ref (ad (40 + 4 * K))), (0, .ref (ad (0))), (1, zi (a1)), (2, zi (a2)), (3, zi (be)), (4, zi (lc)), (5, zi (i))]) hx hb dX3_cheapest_37 hl (by decide) rfl (fun ls hl => ?_)
          refine lv_aload hx hb dX3_cheapest_39 (lv_at hl 0 rfl) ?_
          refine lv_ifnull hx hb dX3_cheapest_41 ?_
          refine lv_iload_n hx hb dX3_cheapest_44 rfl (lv_at hl 4 rfl) ?_
          refine z_ldc (n := -1000000) hx hb hown w_1 (by decide) dX3_cheapest_45 ?_
          refine z_icmp_eq (tgt := 63) hx hb dX3_cheapest_47 (by decide) ⟨by omega, by omega⟩ ⟨by decide, by decide⟩ (fun c_6 => ?_) (fun c_6 => ?_)
          · refine lv_aload_n hx hb dX3_cheapest_63 rfl (lv_at hl 1 rfl) ?_
            refine z_get (C := RX3) (T := TX3) (N := 4) (fs := [.ref (ad (1)), .ref (ad (2)), .ref (ad (3)), zi (n)]) hx hb hts w_3 hown hK hw hI0 (zU_n (by decide) h0) rfl 1 (by decide) w_4 rfl rfl dX3_cheapest_64 ?_
            refine lv_aload hx hb dX3_cheapest_67 (lv_at hl 0 rfl) ?_
            refine lv_iload_n hx hb dX3_cheapest_69 rfl (lv_at hl 2 rfl) ?_
            refine z_kI (z_runV (As := [.ref (ad (40 + 4 * K)), zi (a1)]) (rest := []) (k := 2) (fs := [zi (w1), zi (p1), zi (f1), zi (a9)]) ⟨hx, hb, hml, hown, hts⟩ hK hw (k_findUnder l hl0 G I ad _ _ (40 + 4 * K) (σ K) hg ⟨hk0, hk1, hk2, hk3⟩ ⟨(zU_n (by omega) hp0), (zU_n (by omega) hp1), (zU_n (by omega) hp2), (zU_n (by omega) hp3)⟩ (w1) (p1) (f1) (a9) h2m (zU_s _ _ _) (by omega) (a1) hz1) (cwV 2 hts gX3_cheapest_X2_findUnder rfl rfl rfl (by decide +kernel) ⟨Nat.le_of_ble_eq_true rfl, Nat.le_of_ble_eq_true rfl⟩) h2m (zU_s _ _ _) rfl rfl rfl hl.1 rfl (Nat.le_of_ble_eq_true rfl) dX3_cheapest_70 ⟨Nat.le_of_ble_eq_true rfl, Nat.le_of_ble_eq_true rfl⟩) hw (fun r_7 ct_8 H locs hP hw => ?_)
            obtain ⟨rfl, hct⟩ := hP
            rw [hct] at hw
            clear hct
            refine z_ifb_eq (tgt := 97) hx hb dX3_cheapest_73 (by decide) (fun c_9 => ?_) (fun c_9 => ?_)
            · refine z_iinc (lv' := [(5, zi (i + 1)), (6, .ref (ad (40 + 4 * K))), (0, .ref (ad (0))), (1, zi (a1)), (2, zi (a2)), (3, zi (be)), (4, zi (lc))]) hx hb dX3_cheapest_97 hl (k := 6) rfl (by decide) rfl (fun ls hl => ?_)
              refine lv_goto (tgt := 20) hx hb dX3_cheapest_100 (by decide) ?_
              exact ih20 (K + 1) (i + 1) (be) (lc) (zg (σ K) true (a1)) (zhp (σ K) (zg (σ K) true (a1))) (zgf (σ K) 0 (zhp (σ K) (zg (σ K) true (a1)))) (zld (σ K) (zg (σ K) true (a1))) (by omega) (by omega) (by omega) (by omega) (by omega) (by show _ = ite _ _ _; rw [if_neg (fun h9 => absurd h9.2.1 (by assumption))]; exact hbe) hlc _ _ (zWe hw (by simp only [zU_zU])) _ (lv_sub hl [2, 3, 4, 5, 6, 0] rfl)
            · refine lv_aload_n hx hb dX3_cheapest_76 rfl (lv_at hl 1 rfl) ?_
              refine z_get (C := RX3) (T := TX3) (N := 4) (fs := [.ref (ad (1)), .ref (ad (2)), .ref (ad (3)), zi (n)]) hx hb hts w_3 hown hK hw hI0 (zU_n (by decide) (zU_n (by decide) h0)) rfl 1 (by decide) w_4 rfl rfl dX3_cheapest_77 ?_
              refine z_get (C := RX2) (T := TX2) (N := 4) (fs := [zi (zg (σ K) true (a1)), zi (zhp (σ K) (zg (σ K) true (a1))), zi (zgf (σ K) 0 (zhp (σ K) (zg (σ K) true (a1)))), zi (zld (σ K) (zg (σ K) true (a1)))]) hx hb hts w_6 hown hK hw h2m (zU_s _ _ _) rfl 1 (by decide) w_5 rfl rfl dX3_cheapest_80 ?_
              have b1 := zhp_bd hg (w := zg (σ K) true a1) (by omega) (by omega)
              refine lv_iload_n hx hb dX3_cheapest_83 rfl (lv_at hl 3 rfl) ?_
              refine z_icmp_gt (tgt := 97) hx hb dX3_cheapest_84 (by decide) ⟨by omega, by omega⟩ hz2 (fun c_10 => ?_) (fun c_10 => ?_)
              · refine z_iinc (lv' := [(5, zi (i + 1)), (6, .ref (ad (40 + 4 * K))), (0, .ref (ad (0))), (1, zi (a1)), (2, zi (a2)), (3, zi (be)), (4, zi (lc))]) hx hb dX3_cheapest_97 hl (k := 6) rfl (by decide) rfl (fun ls hl => ?_)
                refine lv_goto (tgt := 20) hx hb dX3_cheapest_100 (by decide) ?_
                exact ih20 (K + 1) (i + 1) (be) (lc) (zg (σ K) true (a1)) (zhp (σ K) (zg (σ K) true (a1))) (zgf (σ K) 0 (zhp (σ K) (zg (σ K) true (a1)))) (zld (σ K) (zg (σ K) true (a1))) (by omega) (by omega) (by omega) (by omega) (by omega) (by show _ = ite _ _ _; rw [if_neg (fun h9 => absurd h9.2.2 (by omega))]; exact hbe) hlc _ _ (zWe hw (by simp only [zU_zU])) _ (lv_sub hl [2, 3, 4, 5, 6, 0] rfl)
              · refine lv_iload hx hb dX3_cheapest_87 (lv_at hl 6 rfl) ?_
                refine lv_istore_n (lv' := [(3, zi (i)), (6, .ref (ad (40 + 4 * K))), (0, .ref (ad (0))), (1, zi (a1)), (2, zi (a2)), (4, zi (lc)), (5, zi (i))]) hx hb dX3_cheapest_89 rfl hl (by decide) rfl (fun ls hl => ?_)
                refine lv_aload hx hb dX3_cheapest_90 (lv_at hl 1 rfl) ?_
                refine z_get (C := RX1) (T := TX1) (N := 9) (fs := [zi (psp (σ K)), zi (pma (σ K)), zi (pco (σ K)), .ref (ad (40 + 4 * K + 1)), .ref (ad (40 + 4 * K + 2)), .ref (ad (40 + 4 * K + 3)), zi (pts (σ K)), zi (ptm (σ K)), zi (pjo (σ K))]) hx hb hts w_8 hown hK hw hk0 (zU_n (by omega) (zU_n (by omega) hp0)) rfl 2 (by decide) w_7 rfl rfl dX3_cheapest_92 ?_
                refine lv_istore (lv' := [(4, zi (pco (σ K))), (3, zi (i)), (6, .ref (ad (40 + 4 * K))), (0, .ref (ad (0))), (1, zi (a1)), (2, zi (a2)), (5, zi (i))]) hx hb dX3_cheapest_95 hl (by decide) rfl (fun ls hl => ?_)
                refine z_iinc (lv' := [(5, zi (i + 1)), (4, zi (pco (σ K))), (3, zi (i)), (6, .ref (ad (40 + 4 * K))), (0, .ref (ad (0))), (1, zi (a1)), (2, zi (a2))]) hx hb dX3_cheapest_97 hl (k := 6) rfl (by decide) rfl (fun ls hl => ?_)
                refine lv_goto (tgt := 20) hx hb dX3_cheapest_100 (by decide) ?_
                exact ih20 (K + 1) (i + 1) (i) (pco (σ K)) (zg (σ K) true (a1)) (zhp (σ K) (zg (σ K) true (a1))) (zgf (σ K) 0 (zhp (σ K) (zg (σ K) true (a1)))) (zld (σ K) (zg (σ K) true (a1))) (by omega) (by omega) (by omega) (by omega) (by omega) (by show _ = ite _ _ _; rw [if_pos ⟨Or.inl (by omega), by assumption, by omega⟩]; omega) (Or.inr (by rw [show (i).toNat = K by omega])) _ _ (zWe hw (by simp only [zU_zU])) _ (lv_sub hl [4, 5, 6, 2, 1, 0] rfl)
          · refine lv_aload hx hb dX3_cheapest_50 (lv_at hl 0 rfl) ?_
            refine z_get (C := RX1) (T := TX1) (N := 9) (fs := [zi (psp (σ K)), zi (pma (σ K)), zi (pco (σ K)), .ref (ad (40 + 4 * K + 1)), .ref (ad (40 + 4 * K + 2)), .ref (ad (40 + 4 * K + 3)), zi (pts (σ K)), zi (ptm (σ K)), zi (pjo (σ K))]) hx hb hts w_8 hown hK hw hk0 (zU_n (by omega) hp0) rfl 2 (by decide) w_7 rfl rfl dX3_cheapest_52 ?_
            refine lv_iload hx hb dX3_cheapest_55 (lv_at hl 5 rfl) ?_
            refine z_icmp_lt (tgt := 63) hx hb dX3_cheapest_57 (by decide) ⟨by omega, by omega⟩ ⟨by omega, by omega⟩ (fun c_11 => ?_) (fun c_11 => ?_)
            · refine lv_aload_n hx hb dX3_cheapest_63 rfl (lv_at hl 1 rfl) ?_
              refine z_get (C := RX3) (T := TX3) (N := 4) (fs := [.ref (ad (1)), .ref (ad (2)), .ref (ad (3)), zi (n)]) hx hb hts w_3 hown hK hw hI0 (zU_n (by decide) h0) rfl 1 (by decide) w_4 rfl rfl dX3_cheapest_64 ?_
              refine lv_aload hx hb dX3_cheapest_67 (lv_at hl 0 rfl) ?_
              refine lv_iload_n hx hb dX3_cheapest_69 rfl (lv_at hl 2 rfl) ?_
              refine z_kI (z_runV (As := [.ref (ad (40 + 4 * K)), zi (a1)]) (rest := []) (k := 2) (fs := [zi (w1), zi (p1), zi (f1), zi (a9)]) ⟨hx, hb, hml, hown, hts⟩ hK hw (k_findUnder l hl0 G I ad _ _ (40 + 4 * K) (σ K) hg ⟨hk0, hk1, hk2, hk3⟩ ⟨(zU_n (by omega) hp0), (zU_n (by omega) hp1), (zU_n (by omega) hp2), (zU_n (by omega) hp3)⟩ (w1) (p1) (f1) (a9) h2m (zU_s _ _ _) (by omega) (a1) hz1) (cwV 2 hts gX3_cheapest_X2_findUnder rfl rfl rfl (by decide +kernel) ⟨Nat.le_of_ble_eq_true rfl, Nat.le_of_ble_eq_true rfl⟩) h2m (zU_s _ _ _) rfl rfl rfl hl.1 rfl (Nat.le_of_ble_eq_true rfl) dX3_cheapest_70 ⟨Nat.le_of_ble_eq_true rfl, Nat.le_of_ble_eq_true rfl⟩) hw (fun r_12 ct_13 H locs hP hw => ?_)
              obtain ⟨rfl, hct⟩ := hP
              rw [hct] at hw
              clear hct
              refine z_ifb_eq (tgt := 97) hx hb dX3_cheapest_73 (by decide) (fun c_14 => ?_) (fun c_14 => ?_)
              · refine z_iinc (lv' := [(5, zi (i + 1)), (6, .ref (ad (40 + 4 * K))), (0, .ref (ad (0))), (1, zi (a1)), (2, zi (a2)), (3, zi (be)), (4, zi (lc))]) hx hb dX3_cheapest_97 hl (k := 6) rfl (by decide) rfl (fun ls hl => ?_)
                refine lv_goto (tgt := 20) hx hb dX3_cheapest_100 (by decide) ?_
                exact ih20 (K + 1) (i + 1) (be) (lc) (zg (σ K) true (a1)) (zhp (σ K) (zg (σ K) true (a1))) (zgf (σ K) 0 (zhp (σ K) (zg (σ K) true (a1)))) (zld (σ K) (zg (σ K) true (a1))) (by omega) (by omega) (by omega) (by omega) (by omega) (by show _ = ite _ _ _; rw [if_neg (fun h9 => absurd h9.2.1 (by assumption))]; exact hbe) hlc _ _ (zWe hw (by simp only [zU_zU])) _ (lv_sub hl [2, 3, 4, 5, 6, 0] rfl)
              · refine lv_aload_n hx hb dX3_cheapest_76 rfl (lv_at hl 1 rfl) ?_
                refine z_get (C := RX3) (T := TX3) (N := 4) (fs := [.ref (ad (1)), .ref (ad (2)), .ref (ad (3)), zi (n)]) hx hb hts w_3 hown hK hw hI0 (zU_n (by decide) (zU_n (by decide) h0)) rfl 1 (by decide) w_4 rfl rfl dX3_cheapest_77 ?_
                refine z_get (C := RX2) (T := TX2) (N := 4) (fs := [zi (zg (σ K) true (a1)), zi (zhp (σ K) (zg (σ K) true (a1))), zi (zgf (σ K) 0 (zhp (σ K) (zg (σ K) true (a1)))), zi (zld (σ K) (zg (σ K) true (a1)))]) hx hb hts w_6 hown hK hw h2m (zU_s _ _ _) rfl 1 (by decide) w_5 rfl rfl dX3_cheapest_80 ?_
                have b1 := zhp_bd hg (w := zg (σ K) true a1) (by omega) (by omega)
                refine lv_iload_n hx hb dX3_cheapest_83 rfl (lv_at hl 3 rfl) ?_
                refine z_icmp_gt (tgt := 97) hx hb dX3_cheapest_84 (by decide) ⟨by omega, by omega⟩ hz2 (fun c_15 => ?_) (fun c_15 => ?_)
                · refine z_iinc (lv' := [(5, zi (i + 1)), (6, .ref (ad (40 + 4 * K))), (0, .ref (ad (0))), (1, zi (a1)), (2, zi (a2)), (3, zi (be)), (4, zi (lc))]) hx hb dX3_cheapest_97 hl (k := 6) rfl (by decide) rfl (fun ls hl => ?_)
                  refine lv_goto (tgt := 20) hx hb dX3_cheapest_100 (by decide) ?_
                  exact ih20 (K + 1) (i + 1) (be) (lc) (zg (σ K) true (a1)) (zhp (σ K) (zg (σ K) true (a1))) (zgf (σ K) 0 (zhp (σ K) (zg (σ K) true (a1)))) (zld (σ K) (zg (σ K) true (a1))) (by omega) (by omega) (by omega) (by omega) (by omega) (by show _ = ite _ _ _; rw [if_neg (fun h9 => absurd h9.2.2 (by omega))]; exact hbe) hlc _ _ (zWe hw (by simp only [zU_zU])) _ (lv_sub hl [2, 3, 4, 5, 6, 0] rfl)
                · refine lv_iload hx hb dX3_cheapest_87 (lv_at hl 6 rfl) ?_
                  refine lv_istore_n (lv' := [(3, zi (i)), (6, .ref (ad (40 + 4 * K))), (0, .ref (ad (0))), (1, zi (a1)), (2, zi (a2)), (4, zi (lc)), (5, zi (i))]) hx hb dX3_cheapest_89 rfl hl (by decide) rfl (fun ls hl => ?_)
                  refine lv_aload hx hb dX3_cheapest_90 (lv_at hl 1 rfl) ?_
                  refine z_get (C := RX1) (T := TX1) (N := 9) (fs := [zi (psp (σ K)), zi (pma (σ K)), zi (pco (σ K)), .ref (ad (40 + 4 * K + 1)), .ref (ad (40 + 4 * K + 2)), .ref (ad (40 + 4 * K + 3)), zi (pts (σ K)), zi (ptm (σ K)), zi (pjo (σ K))]) hx hb hts w_8 hown hK hw hk0 (zU_n (by omega) (zU_n (by omega) hp0)) rfl 2 (by decide) w_7 rfl rfl dX3_cheapest_92 ?_
                  refine lv_istore (lv' := [(4, zi (pco (σ K))), (3, zi (i)), (6, .ref (ad (40 + 4 * K))), (0, .ref (ad (0))), (1, zi (a1)), (2, zi (a2)), (5, zi (i))]) hx hb dX3_cheapest_95 hl (by decide) rfl (fun ls hl => ?_)
                  refine z_iinc (lv' := [(5, zi (i + 1)), (4, zi (pco (σ K))), (3, zi (i)), (6, .ref (ad (40 + 4 * K))), (0, .ref (ad (0))), (1, zi (a1)), (2, zi (a2))]) hx hb dX3_cheapest_97 hl (k := 6) rfl (by decide) rfl (fun ls hl => ?_)
                  refine lv_goto (tgt := 20) hx hb dX3_cheapest_100 (by decide) ?_
                  exact ih20 (K + 1) (i + 1) (i) (pco (σ K)) (zg (σ K) true (a1)) (zhp (σ K) (zg (σ K) true (a1))) (zgf (σ K) 0 (zhp (σ K) (zg (σ K) true (a1)))) (zld (σ K) (zg (σ K) true (a1))) (by omega) (by omega) (by omega) (by omega) (by omega) (by show _ = ite _ _ _; rw [if_pos ⟨Or.inr (by rw [← hbe]; have := hlc; omega), by assumption, by omega⟩]; omega) (Or.inr (by rw [show (i).toNat = K by omega])) _ _ (zWe hw (by simp only [zU_zU])) _ (lv_sub hl [4, 5, 6, 2, 1, 0] rfl)
            · refine lv_goto (tgt := 97) hx hb dX3_cheapest_60 (by decide) ?_
              refine z_iinc (lv' := [(5, zi (i + 1)), (6, .ref (ad (40 + 4 * K))), (0, .ref (ad (0))), (1, zi (a1)), (2, zi (a2)), (3, zi (be)), (4, zi (lc))]) hx hb dX3_cheapest_97 hl (k := 6) rfl (by decide) rfl (fun ls hl => ?_)
              refine lv_goto (tgt := 20) hx hb dX3_cheapest_100 (by decide) ?_
              exact ih20 (K + 1) (i + 1) (be) (lc) (w1) (p1) (f1) (a9) (by omega) (by omega) (by omega) (by omega) (by omega) (by show _ = ite _ _ _; rw [if_neg (fun h9 => by rcases h9.1 with h8 | h8 <;> rw [← hbe] at h8 <;> omega)]; exact hbe) hlc _ _ hw _ (lv_sub hl [2, 3, 4, 5, 6, 0] rfl)
        · refine z_aald (f := zpf ad n) (v := .null) hx hb hK hw hI1 (zU_n (by decide) h1) (by omega) (by omega) (by decide) (zpf_n hin36) dX3_cheapest_36 ?_
          refine lv_astoreN (lv' := [(6, .null), (0, .ref (ad (0))), (1, zi (a1)), (2, zi (a2)), (3, zi (be)), (4, zi (lc)), (5, zi (i))]) hx hb dX3_cheapest_37 hl (by decide) rfl (fun ls hl => ?_)
          refine lv_aloadN hx hb dX3_cheapest_39 (lv_at hl 0 rfl) ?_
          refine lv_ifnullN (tgt := 97) hx hb dX3_cheapest_41 (by decide) ?_
          refine z_iinc (lv' := [(5, zi (i + 1)), (6, .null), (0, .ref (ad (0))), (1, zi (a1)), (2, zi (a2)), (3, zi (be)), (4, zi (lc))]) hx hb dX3_cheapest_97 hl (k := 6) rfl (by decide) rfl (fun ls hl => ?_)
          refine lv_goto (tgt := 20) hx hb dX3_cheapest_100 (by decide) ?_
          exact ih20 (K) (i + 1) (be) (lc) (w1) (p1) (f1) (a9) (by omega) (by omega) (by omega) (by omega) (by omega) hbe hlc _ _ hw _ (lv_sub hl [2, 3, 4, 5, 6, 0] rfl)
  exact L20 _ (0) (0) (-1000000) (0) (w) (p0) (f0) (a0) (Nat.lt_succ_self _) (Or.inl rfl) (by omega) (by omega) (by omega) rfl (Or.inl rfl) _ _ (zWe hw (zU_id h2).symm) _ (lv_sub hl [3, 4, 5, 2, 1, 0] rfl)

set_option maxHeartbeats 4000000 in
set_option maxRecDepth 100000 in
theorem k_blow (l : Launch) (hl0 : l.stackTraces = false) (G : zG) (I : List Nat) (ad : Nat → Nat) (ct : Nat → va_E) (sz : Nat) (n : Nat) (hn6 : n ≤ 6) (hI0 : 0 ∈ I) (hI1 : 1 ∈ I) (h0 : ct 0 = .inr (3, [.ref (ad 1), .ref (ad 2), .ref (ad 3), zi n])) (h1 : ct 1 = zP G 6 (zpf ad n)) (σ : Nat → zPl) (hgs : ∀ p : Nat, p < n → zGood (σ p)) (hms : ∀ p : Nat, p < n → zMem4 I (40 + 4 * p)) (hps : ∀ p : Nat, p < n → zPileAt G ad ct (40 + 4 * p) (σ p)) (b0 b1 : Int) (f g h wv : Int → Int) (hI3 : 3 ∈ I) (hI4 : 4 ∈ I) (hI5 : 5 ∈ I) (hI6 : 6 ∈ I) (hI7 : 7 ∈ I) (h3 : ct 3 = .inr (0, [zi b0, zi b1, .ref (ad 4), .ref (ad 5), .ref (ad 6), .ref (ad 7)])) (h4 : ct 4 = zI G 13 f) (h5 : ct 5 = zI G 13 g) (h6 : ct 6 = zL G 13 h) (h7 : ct 7 = zI G 2600 wv) (a1 a2 a3 : Int) (hz1 : zr a1) (hz2 : zr a2) (hz3 : zr a3) : zN l yX3_blow wsX3_blow 7 108 3 18 G [.ref (ad (0)), zi (a1), zi (a2), zi (a3)] I ad ct (fun E => E = zIA ∧ ¬ ((0 ≤ a1 ∧ a1 < n) ∧ (1 ≤ a2 ∧ a2 ≤ 10000) ∧ (1 ≤ a3 ∧ a3 ≤ 1000))) sz (zk I (zqi fun z u => ((0 ≤ a1 ∧ a1 < n) ∧ (1 ≤ a2 ∧ a2 ≤ 10000) ∧ (1 ≤ a3 ∧ a3 ≤ 1000)) ∧ z = zset (σ (a1).toNat) a2 a3 ∧ ∃ f1 g1 h1 wv1 : Int → Int, zwv (σ (a1).toNat) a2 a3 200 wv1 ∧ u = (zU5 ct (.inr (0, [zi (pn (σ (a1).toNat)), zi (zdp (σ (a1).toNat) a2 a3 200), .ref (ad (4)), .ref (ad (5)), .ref (ad (6)), .ref (ad (7))])) (zI G 13 (f1)) (zI G 13 (g1)) (zL G 13 (h1)) (zI G 2600 (wv1))))) := by
  refine z_ofW (ret := (some .int)) hl0 (by decide +kernel) rfl (Nat.le_of_ble_eq_true rfl) ?_
  intro p e s m args below meth c A ls hA0 hsz hF hr hout hnm hw hl
  obtain ⟨hx, hb, hml, hown, hts, hK, hlk, hst⟩ := hF
  have hown : s.vm.findClass RX3 = some m.cls := hown
  have hl : lv_has ls 5 [(0, .ref (ad (0))), (1, zi (a1)), (2, zi (a2)), (3, zi (a3))] := hl
  have w_0 := hts (.fieldLink RX3 25 "PileMoves" "latestBlow" "LPileMoves$Blow;") (by decide +kernel)
  have w_1 : ∀ w ∈ wsX30, w ∈ wsX3_blow := by decide +kernel
  refine lv_aload_n hx hb dX3_blow_0 rfl (lv_at hl 0 rfl) ?_
  refine lv_iload_n hx hb dX3_blow_1 rfl (lv_at hl 1 rfl) ?_
  refine z_tA (z_runV (As := [zi (a1)]) (rest := []) (k := 0) (fs := [.ref (ad (1)), .ref (ad (2)), .ref (ad (3)), zi (n)]) ⟨hx, hb, hml, hown, hts⟩ hK hw (k_pileOf l hl0 G I ad _ _ n hn6 hI0 hI1 h0 h1 (a1) hz1) (cwV 1 hts gX3_blow_X3_pileOf rfl rfl rfl (by decide +kernel) ⟨Nat.le_of_ble_eq_true rfl, Nat.le_of_ble_eq_true rfl⟩) hI0 h0 rfl rfl rfl hl.1 rfl (Nat.le_of_ble_eq_true rfl) dX3_blow_2 ⟨Nat.le_of_ble_eq_true rfl, Nat.le_of_ble_eq_true rfl⟩) hw hout hlk (fun E h9 => ⟨h9.1, fun q9 => h9.2 (by omega)⟩) (Nat.le_of_ble_eq_true rfl) (Nat.le_of_ble_eq_true rfl) (fun r_1 ct_2 H locs hP hw => ?_)
  obtain ⟨rfl, ⟨q2_1, q2_2⟩, hct⟩ := hP
  rw [hct] at hw
  clear hct
  obtain ⟨hp0, hp1, hp2, hp3⟩ := hps (a1).toNat (by omega)
  obtain ⟨hk0, hk1, hk2, hk3⟩ := hms (a1).toNat (by omega)
  have hg := hgs (a1).toNat (by omega)
  have hg0 := hg
  obtain ⟨⟨g1, g2⟩, ⟨g3, g4⟩, ⟨g5, g6⟩, ⟨g7, g8⟩, ⟨g9, g10⟩, ⟨g11, g12⟩, g13, g14, g15, g16⟩ := hg0
  have gn : (((σ (a1).toNat)).1 : Int) = pn (σ (a1).toNat) := rfl
  refine lv_astore (lv' := [(4, .ref (ad (40 + 4 * (a1).toNat))), (0, .ref (ad (0))), (1, zi (a1)), (2, zi (a2)), (3, zi (a3))]) hx hb dX3_blow_5 hl (by decide) rfl (fun ls hl => ?_)
  refine lv_iload_n hx hb dX3_blow_7 rfl (lv_at hl 3 rfl) ?_
  refine z_ic hx hb dX3_blow_8 ?_
  refine z_si hx hb dX3_blow_9 (by decide) ?_
  refine z_tV (z_runS (As := [zi (a2), zi (1), zi (10000)]) (rest := []) ⟨hx, hb, hml, hown, hts⟩ hK hw (k_within l hl0 G I ad _ _ (a2) (1) (10000) hz2 ⟨by decide, by decide⟩ ⟨by decide, by decide⟩) (va_cwS 3 hts gX3_blow_X3_checkWithin rfl rfl rfl (by decide +kernel) ⟨Nat.le_of_ble_eq_true rfl, Nat.le_of_ble_eq_true rfl⟩) rfl hl.1 rfl (Nat.le_of_ble_eq_true rfl) dX3_blow_12 ⟨Nat.le_of_ble_eq_true rfl, Nat.le_of_ble_eq_true rfl⟩) hw hout hlk (fun E h9 => ⟨h9.1, fun q9 => h9.2 (by omega)⟩) (Nat.le_of_ble_eq_true rfl) (Nat.le_of_ble_eq_true rfl) (fun ct_4 H locs hP hw => ?_)
  obtain ⟨⟨q12_1, q12_2⟩, hct⟩ := hP
  rw [hct] at hw
  clear hct
  refine lv_iload_n hx hb dX3_blow_15 rfl (lv_at hl 4 rfl) ?_
  refine z_ic hx hb dX3_blow_16 ?_
  refine z_si hx hb dX3_blow_17 (by decide) ?_
  refine z_tV (z_runS (As := [zi (a3), zi (1), zi (1000)]) (rest := []) ⟨hx, hb, hml, hown, hts⟩ hK hw (k_within l hl0 G I ad _ _ (a3) (1) (1000) hz3 ⟨by decide, by decide⟩ ⟨by decide, by decide⟩) (va_cwS 3 hts gX3_blow_X3_checkWithin rfl rfl rfl (by decide +kernel) ⟨Nat.le_of_ble_eq_true rfl, Nat.le_of_ble_eq_true rfl⟩) rfl hl.1 rfl (Nat.le_of_ble_eq_true rfl) dX3_blow_20 ⟨Nat.le_of_ble_eq_true rfl, Nat.le_of_ble_eq_true rfl⟩) hw hout hlk (fun E h9 => ⟨h9.1, fun q9 => h9.2 (by omega)⟩) (Nat.le_of_ble_eq_true rfl) (Nat.le_of_ble_eq_true rfl) (fun ct_6 H locs hP hw => ?_)
  obtain ⟨⟨q20_1, q20_2⟩, hct⟩ := hP
  rw [hct] at hw
  clear hct
  refine lv_aload_n hx hb dX3_blow_23 rfl (lv_at hl 1 rfl) ?_
  refine z_get (C := RX3) (T := TX3) (N := 4) (fs := [.ref (ad (1)), .ref (ad (2)), .ref (ad (3)), zi (n)]) hx hb hts w_1 hown hK hw hI0 h0 rfl 2 (by decide) w_0 rfl rfl dX3_blow_24 ?_
  refine lv_aload hx hb dX3_blow_27 (lv_at hl 0 rfl) ?_
  refine lv_iload_n hx hb dX3_blow_29 rfl (lv_at hl 3 rfl) ?_
  refine lv_iload_n hx hb dX3_blow_30 rfl (lv_at hl 4 rfl) ?_
  refine z_kV (z_runV (As := [.ref (ad (40 + 4 * (a1).toNat)), zi (a2), zi (a3)]) (rest := []) (k := 3) (fs := [zi (b0), zi (b1), .ref (ad (4)), .ref (ad (5)), .ref (ad (6)), .ref (ad (7))]) ⟨hx, hb, hml, hown, hts⟩ hK hw (k_strike l hl0 G I ad _ _ (40 + 4 * (a1).toNat) (σ (a1).toNat) hg ⟨hk0, hk1, hk2, hk3⟩ ⟨hp0, hp1, hp2, hp3⟩ (b0) (b1) (f) (g) (h) (wv) hI3 hI4 hI5 hI6 hI7 h3 h4 h5 h6 h7 (by omega) (a2) (a3) (by omega) (by omega) (by omega) (by omega)) (cwV 3 hts gX3_blow_X0_strike rfl rfl rfl (by decide +kernel) ⟨Nat.le_of_ble_eq_true rfl, Nat.le_of_ble_eq_true rfl⟩) hI3 h3 rfl rfl rfl hl.1 rfl (Nat.le_of_ble_eq_true rfl) dX3_blow_31 ⟨Nat.le_of_ble_eq_true rfl, Nat.le_of_ble_eq_true rfl⟩) hw (fun ct_8 H locs hP hw => ?_)
  obtain ⟨f9, g9, h9, wv9, hwv9, hct⟩ := hP
  rw [hct] at hw
  clear hct
  refine lv_aload_n hx hb dX3_blow_34 rfl (lv_at hl 1 rfl) ?_
  refine z_get (C := RX3) (T := TX3) (N := 4) (fs := [.ref (ad (1)), .ref (ad (2)), .ref (ad (3)), zi (n)]) hx hb hts w_1 hown hK hw hI0 (zU5_n (by omega) h0) rfl 2 (by decide) w_0 rfl rfl dX3_blow_35 ?_
  refine lv_aload hx hb dX3_blow_38 (lv_at hl 0 rfl) ?_
  refine z_kI (z_runV (As := [.ref (ad (40 + 4 * (a1).toNat))]) (rest := []) (k := 3) (fs := [zi (pn (σ (a1).toNat)), zi (zdp (σ (a1).toNat) (a2) (a3) 200), .ref (ad (4)), .ref (ad (5)), .ref (ad (6)), .ref (ad (7))]) ⟨hx, hb, hml, hown, hts⟩ hK hw (k_settled l hl0 G I ad _ _ (40 + 4 * (a1).toNat) (σ (a1).toNat) hg ⟨hk0, hk1, hk2, hk3⟩ ⟨(zU5_n (by omega) hp0), (zU5_n (by omega) hp1), (zU5_n (by omega) hp2), (zU5_n (by omega) hp3)⟩ (pn (σ (a1).toNat)) (zdp (σ (a1).toNat) (a2) (a3) 200) _ _ _ _ hI3 rfl (by have := zdp_bd (σ (a1).toNat) a2 a3 200; omega)) (cwV 1 hts gX3_blow_X0_settled rfl rfl rfl (by decide +kernel) ⟨Nat.le_of_ble_eq_true rfl, Nat.le_of_ble_eq_true rfl⟩) hI3 rfl rfl rfl rfl hl.1 rfl (Nat.le_of_ble_eq_true rfl) dX3_blow_40 ⟨Nat.le_of_ble_eq_true rfl, Nat.le_of_ble_eq_true rfl⟩) hw (fun r_9 ct_10 H locs hP hw => ?_)
  obtain ⟨rfl, hct⟩ := hP
  rw [hct] at hw
  clear hct
  exact z_iret hx hb hlk hr hw dX3_blow_43 (Nat.le_of_ble_eq_true rfl) (Nat.le_of_ble_eq_true rfl) ⟨rfl, _, rfl, ⟨⟨⟨by omega, by omega⟩, ⟨by omega, by omega⟩, ⟨by omega, by omega⟩⟩, rfl, f9, g9, h9, wv9, hwv9, rfl⟩⟩

set_option maxHeartbeats 4000000 in
set_option maxRecDepth 100000 in
theorem k_wave (l : Launch) (hl0 : l.stackTraces = false) (G : zG) (I : List Nat) (ad : Nat → Nat) (ct : Nat → va_E) (sz : Nat) (n : Nat) (hn6 : n ≤ 6) (hI0 : 0 ∈ I) (hI1 : 1 ∈ I) (h0 : ct 0 = .inr (3, [.ref (ad 1), .ref (ad 2), .ref (ad 3), zi n])) (h1 : ct 1 = zP G 6 (zpf ad n)) (b0 b1 : Int) (f g h wv : Int → Int) (hI3 : 3 ∈ I) (hI4 : 4 ∈ I) (hI5 : 5 ∈ I) (hI6 : 6 ∈ I) (hI7 : 7 ∈ I) (h3 : ct 3 = .inr (0, [zi b0, zi b1, .ref (ad 4), .ref (ad 5), .ref (ad 6), .ref (ad 7)])) (h4 : ct 4 = zI G 13 f) (h5 : ct 5 = zI G 13 g) (h6 : ct 6 = zL G 13 h) (h7 : ct 7 = zI G 2600 wv) (a1 a2 : Int) (hz1 : zr a1) (hz2 : zr a2) (hb0 : 0 ≤ b0 ∧ b0 ≤ 12) : zN l yX3_wave wsX3_wave 7 108 2 12 G [.ref (ad (0)), zi (a1), zi (a2)] I ad ct (fun E => (E = zIS ∧ ¬ 0 < b0) ∨ (E = zIA ∧ 0 < b0 ∧ ¬ ((0 ≤ a1 ∧ a1 ≤ 199) ∧ (0 ≤ a2 ∧ a2 ≤ b0)))) sz (zk I (zqi fun z u => (0 < b0 ∧ (0 ≤ a1 ∧ a1 ≤ 199) ∧ (0 ≤ a2 ∧ a2 ≤ b0)) ∧ z = wv (13 * a1 + a2) ∧ u = ct)) := by
  refine z_ofW (ret := (some .int)) hl0 (by decide +kernel) rfl (Nat.le_of_ble_eq_true rfl) ?_
  intro p e s m args below meth c A ls hA0 hsz hF hr hout hnm hw hl
  obtain ⟨hx, hb, hml, hown, hts, hK, hlk, hst⟩ := hF
  have hown : s.vm.findClass RX3 = some m.cls := hown
  have hl : lv_has ls 3 [(0, .ref (ad (0))), (1, zi (a1)), (2, zi (a2))] := hl
  have w_0 := hts (.fieldLink RX3 25 "PileMoves" "latestBlow" "LPileMoves$Blow;") (by decide +kernel)
  have w_1 : ∀ w ∈ wsX30, w ∈ wsX3_wave := by decide +kernel
  have w_2 := hts (.fieldLink RX3 131 "PileMoves$Blow" "pieces" "I") (by decide +kernel)
  have w_3 : ∀ w ∈ wsX00, w ∈ wsX3_wave := by decide +kernel
  have w_4 := hts (.classLink RX3 38 zIS) (by decide +kernel)
  have w_5 := hts (.initialized zIS) (by decide +kernel)
  refine lv_aload_n hx hb dX3_wave_0 rfl (lv_at hl 0 rfl) ?_
  refine z_get (C := RX3) (T := TX3) (N := 4) (fs := [.ref (ad (1)), .ref (ad (2)), .ref (ad (3)), zi (n)]) hx hb hts w_1 hown hK hw hI0 h0 rfl 2 (by decide) w_0 rfl rfl dX3_wave_1 ?_
  refine z_kI (z_runV (As := []) (rest := []) (k := 3) (fs := [zi (b0), zi (b1), .ref (ad (4)), .ref (ad (5)), .ref (ad (6)), .ref (ad (7))]) ⟨hx, hb, hml, hown, hts⟩ hK hw (k_happened l hl0 G I ad _ _ (b0) (b1) _ _ _ _ hI3 h3 ⟨by omega, by omega⟩) (cwV 0 hts gX3_wave_X0_happened rfl rfl rfl (by decide +kernel) ⟨Nat.le_of_ble_eq_true rfl, Nat.le_of_ble_eq_true rfl⟩) hI3 h3 rfl rfl rfl hl.1 rfl (Nat.le_of_ble_eq_true rfl) dX3_wave_4 ⟨Nat.le_of_ble_eq_true rfl, Nat.le_of_ble_eq_true rfl⟩) hw (fun r_1 ct_2 H locs hP hw => ?_)
  obtain ⟨rfl, hct⟩ := hP
  rw [hct] at hw
  clear hct
  refine z_ifb_ne (tgt := 20) hx hb dX3_wave_7 (by decide) (fun c_3 => ?_) (fun c_3 => ?_)
  · refine lv_iload_n hx hb dX3_wave_20 rfl (lv_at hl 1 rfl) ?_
    refine z_ic hx hb dX3_wave_21 ?_
    refine z_si hx hb dX3_wave_22 (by decide) ?_
    refine z_tV (z_runS (As := [zi (a1), zi (0), zi (199)]) (rest := []) ⟨hx, hb, hml, hown, hts⟩ hK hw (k_within l hl0 G I ad _ _ (a1) (0) (199) hz1 ⟨by decide, by decide⟩ ⟨by decide, by decide⟩) (va_cwS 3 hts gX3_wave_X3_checkWithin rfl rfl rfl (by decide +kernel) ⟨Nat.le_of_ble_eq_true rfl, Nat.le_of_ble_eq_true rfl⟩) rfl hl.1 rfl (Nat.le_of_ble_eq_true rfl) dX3_wave_25 ⟨Nat.le_of_ble_eq_true rfl, Nat.le_of_ble_eq_true rfl⟩) hw hout hlk (fun E h9 => Or.inr ⟨h9.1, by omega, fun q9 => h9.2 (by omega)⟩) (Nat.le_of_ble_eq_true rfl) (Nat.le_of_ble_eq_true rfl) (fun ct_5 H locs hP hw => ?_)
    obtain ⟨⟨q25_1, q25_2⟩, hct⟩ := hP
    rw [hct] at hw
    clear hct
    refine lv_iload_n hx hb dX3_wave_28 rfl (lv_at hl 2 rfl) ?_
    refine z_ic hx hb dX3_wave_29 ?_
    refine lv_aload_n hx hb dX3_wave_30 rfl (lv_at hl 0 rfl) ?_
    refine z_get (C := RX3) (T := TX3) (N := 4) (fs := [.ref (ad (1)), .ref (ad (2)), .ref (ad (3)), zi (n)]) hx hb hts w_1 hown hK hw hI0 h0 rfl 2 (by decide) w_0 rfl rfl dX3_wave_31 ?_
    refine z_get (C := RX0) (T := TX0) (N := 6) (fs := [zi (b0), zi (b1), .ref (ad (4)), .ref (ad (5)), .ref (ad (6)), .ref (ad (7))]) hx hb hts w_3 hown hK hw hI3 h3 rfl 0 (by decide) w_2 rfl rfl dX3_wave_34 ?_
    refine z_tV (z_runS (As := [zi (a2), zi (0), zi (b0)]) (rest := []) ⟨hx, hb, hml, hown, hts⟩ hK hw (k_within l hl0 G I ad _ _ (a2) (0) (b0) hz2 ⟨by decide, by decide⟩ ⟨by omega, by omega⟩) (va_cwS 3 hts gX3_wave_X3_checkWithin rfl rfl rfl (by decide +kernel) ⟨Nat.le_of_ble_eq_true rfl, Nat.le_of_ble_eq_true rfl⟩) rfl hl.1 rfl (Nat.le_of_ble_eq_true rfl) dX3_wave_37 ⟨Nat.le_of_ble_eq_true rfl, Nat.le_of_ble_eq_true rfl⟩) hw hout hlk (fun E h9 => Or.inr ⟨h9.1, by omega, fun q9 => h9.2 (by omega)⟩) (Nat.le_of_ble_eq_true rfl) (Nat.le_of_ble_eq_true rfl) (fun ct_7 H locs hP hw => ?_)
    obtain ⟨⟨q37_1, q37_2⟩, hct⟩ := hP
    rw [hct] at hw
    clear hct
    refine lv_aload_n hx hb dX3_wave_40 rfl (lv_at hl 0 rfl) ?_
    refine z_get (C := RX3) (T := TX3) (N := 4) (fs := [.ref (ad (1)), .ref (ad (2)), .ref (ad (3)), zi (n)]) hx hb hts w_1 hown hK hw hI0 h0 rfl 2 (by decide) w_0 rfl rfl dX3_wave_41 ?_
    refine lv_iload_n hx hb dX3_wave_44 rfl (lv_at hl 1 rfl) ?_
    refine lv_iload_n hx hb dX3_wave_45 rfl (lv_at hl 2 rfl) ?_
    refine z_kI (z_runV (As := [zi (a1), zi (a2)]) (rest := []) (k := 3) (fs := [zi (b0), zi (b1), .ref (ad (4)), .ref (ad (5)), .ref (ad (6)), .ref (ad (7))]) ⟨hx, hb, hml, hown, hts⟩ hK hw (k_behind l hl0 G I ad _ _ (b0) (b1) (f) (g) (h) (wv) hI3 hI4 hI5 hI6 hI7 h3 h4 h5 h6 h7  (a1) (a2) (by omega) (by omega) (by omega) (by omega)) (cwV 2 hts gX3_wave_X0_behindRound rfl rfl rfl (by decide +kernel) ⟨Nat.le_of_ble_eq_true rfl, Nat.le_of_ble_eq_true rfl⟩) hI3 h3 rfl rfl rfl hl.1 rfl (Nat.le_of_ble_eq_true rfl) dX3_wave_46 ⟨Nat.le_of_ble_eq_true rfl, Nat.le_of_ble_eq_true rfl⟩) hw (fun r_8 ct_9 H locs hP hw => ?_)
    obtain ⟨rfl, hct⟩ := hP
    rw [hct] at hw
    clear hct
    exact z_iret hx hb hlk hr hw dX3_wave_49 (Nat.le_of_ble_eq_true rfl) (Nat.le_of_ble_eq_true rfl) ⟨rfl, _, rfl, ⟨⟨by omega, ⟨by omega, by omega⟩, ⟨by omega, by omega⟩⟩, rfl, rfl⟩⟩
  · exact z_throw hx hb hst hK hw hout hlk (cls := zIS) (text := "there was no blow") (names := zNm) hown (by decide +kernel) zfit w_4 w_5 hK.2.1.2.2.2.2.2.2.2.2.2.2.2.2.2 (fun w h => hts w (List.mem_cons_of_mem _ (List.mem_append_left _ (List.mem_append_right _ h)))) hK.2.1.badS zbIS zgIS (hl.1.trans hml.symm) dX3_wave_10 dX3_wave_13 dX3_wave_14 dX3_wave_16 dX3_wave_19 (Nat.le_of_ble_eq_true rfl) (Nat.le_of_ble_eq_true rfl) (Nat.le_of_ble_eq_true rfl) (Nat.le_of_ble_eq_true rfl) (Or.inl ⟨rfl, by assumption⟩) (Nat.le_of_ble_eq_true rfl) (Nat.le_of_ble_eq_true rfl)
