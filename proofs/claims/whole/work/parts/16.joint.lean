set_option maxRecDepth 20000 in
theorem hi_X0_backOf_X0 : ∀ w ∈ wsX00, w ∈ wsX0_backOf := by
  intro w h
  unfold wsX0_backOf
  simp only [List.mem_cons, List.mem_append, h, or_true, true_or]
theorem nd_X0_backOf : okName yX0_backOf 2 := by decide +kernel
set_option maxHeartbeats 4000000 in
set_option maxRecDepth 100000 in
theorem k_X0_backOf (l : Launch) (D : va_G) (cI cZ : ClassId) (aJ : Nat) (aU : Nat) (aV : Nat) (fw : Nat) (sh : Nat) (wy : Nat) (bk : Nat) (fV : Nat → Int32) (i : Nat) (sv : Nat) (hf : 0 < fw ∧ fw ≤ 48) (hi : i < 1000) (hs : sv < 1000) : RO l yX0_backOf wsX0_backOf ({ frames := 2, cells := 0, slots := 0, locals := 43 } : Room) D cI cZ [(aJ, .inr (0, [.int (nI fw), .int (nI sh), .int (nI wy), .int (nI bk), .ref aU, .ref aV])), (aV, .inl (cI, 48, .inl fV))] [.ref aJ, .int (nI i), .int (nI sv)] (fV ((i + sv) % fw)) := by
  refine ro_start (by decide) rfl (Nat.le_of_ble_eq_true rfl) ?_
  intro p e s m args below meth c hx hb hr hml hlocks hts hown hT hP ls hl
  have hown : s.vm.findClass RX0 = some m.cls := hown
  have hl : lv_has ls 3 [(0, .ref aJ), (1, .int (nI i)), (2, .int (nI sv))] := hl
  refine lv_aload_n hx hb dX0_backOf_0 rfl (lv_at hl 0 rfl) ?_
  refine va_get (D := D) (ci := 0) (v := .ref aV) (C := RX0) (T := TX0) (N := 6) hx hb hts hi_X0_backOf_X0 hown hT.1 hP 0 rfl rfl 5 (by decide) (hts (.fieldLink RX0 15 "SlotStar$Joint" "backSlots" "[I") (List.mem_of_getElem? (i := 1) rfl)) (fun _ h9 => h9) rfl dX0_backOf_1 ?_
  refine lv_iload_n hx hb dX0_backOf_4 rfl (lv_at hl 1 rfl) ?_
  refine lv_iload_n hx hb dX0_backOf_5 rfl (lv_at hl 2 rfl) ?_
  refine lv_iadd hx hb dX0_backOf_6 ?_
  refine top_eq (z := (nI (i + sv))) (by exact nI_add _ _) ?_
  refine lv_aload_n hx hb dX0_backOf_7 rfl (lv_at hl 0 rfl) ?_
  refine va_get (D := D) (ci := 0) (v := .int (nI fw)) (C := RX0) (T := TX0) (N := 6) hx hb hts hi_X0_backOf_X0 hown hT.1 hP 0 rfl rfl 0 (by decide) (hts (.fieldLink RX0 22 "SlotStar$Joint" "forwards" "I") (List.mem_of_getElem? (i := 2) rfl)) (fun _ h9 => h9) rfl dX0_backOf_8 ?_
  refine ro_N (As := [.int (nI (i + sv)), .int (nI fw)]) (rest := [.ref aV]) ⟨hx, hb, hml, hown, hts⟩ hT hP (k_X3_leftOver l D cI cZ (nI (i + sv)) (nI fw)) (List.mem_of_getElem? (i := 2) rfl) gX0_backOf_X3_leftOver_n67 (hts (.initialized RX3) (List.mem_of_getElem? (i := 4) rfl)) (hts (.static yX3_leftOver) (List.mem_of_getElem? (i := 3) rfl)) rfl nd_X3_leftOver [] rfl hl.1 rfl rfl (Nat.le_of_ble_eq_true rfl) ⟨Nat.le_of_ble_eq_true rfl, Nat.le_of_ble_eq_true rfl⟩ ⟨rfl, rfl⟩ ⟨Nat.zero_le _, Nat.zero_le _⟩ dX0_backOf_11 ?_
  refine top_eq (z := (nI ((i + sv) % fw))) (by exact jLO_nI (by omega) (by omega) (by omega)) ?_
  refine ro_N (As := [.ref aV, .int (nI ((i + sv) % fw))]) (rest := []) ⟨hx, hb, hml, hown, hts⟩ hT hP (k_X3_at l D cI cZ aV 48 fV ((i + sv) % fw) (by decide) (Nat.lt_of_lt_of_le (Nat.mod_lt _ hf.1) hf.2)) (List.mem_of_getElem? (i := 1) rfl) gX0_backOf_X3_at_n56 (hts (.initialized RX3) (List.mem_of_getElem? (i := 4) rfl)) (hts (.static yX3_at) (List.mem_of_getElem? (i := 6) rfl)) rfl nd_X3_at [1] rfl hl.1 rfl rfl (Nat.le_of_ble_eq_true rfl) ⟨Nat.le_of_ble_eq_true rfl, Nat.le_of_ble_eq_true rfl⟩ ⟨rfl, rfl⟩ ⟨Nat.zero_le _, Nat.zero_le _⟩ dX0_backOf_14 ?_
  exact ro_ret hx hb hr hlocks dX0_backOf_17 (by rfl)

set_option maxRecDepth 20000 in
theorem hi_X0_waysOf_X0 : ∀ w ∈ wsX00, w ∈ wsX0_waysOf := by
  intro w h
  unfold wsX0_waysOf
  simp only [List.mem_cons, List.mem_append, h, or_true, true_or]
theorem nd_X0_waysOf : okName yX0_waysOf 2 := by decide +kernel
set_option maxHeartbeats 4000000 in
set_option maxRecDepth 100000 in
theorem k_X0_waysOf (l : Launch) (D : va_G) (cI cZ : ClassId) (aJ : Nat) (aU : Nat) (aV : Nat) (fw : Nat) (sh : Nat) (wy : Nat) (bk : Nat) (fU : Nat → Int32) (fV : Nat → Int32) (aM : Nat) (Q : Nat) (P : Nat) (M : Nat) (Wd : Nat) (sv : Nat) (hv : MV Q P M Wd) (hf : fw ≤ 48) (hs : sv < 1000) (hU : slR Q fw fU) (hV : slR Q fw fV) : RO l yX0_waysOf wsX0_waysOf ({ frames := 3, cells := 0, slots := 0, locals := 65 } : Room) D cI cZ [(aJ, .inr (0, [.int (nI fw), .int (nI sh), .int (nI wy), .int (nI bk), .ref aU, .ref aV])), (aM, .inr (1, [.int (nI Q), .int (nI P), .int (nI M), .int (nI Wd), .int (nI (tT Q P)), .int (nI (tN Q P))])), (aU, .inl (cI, 48, .inl fU)), (aV, .inl (cI, 48, .inl fV))] [.ref aJ, .ref aM, .int (nI sv)] (nI (wyL Q fU fV fw sv fw 0 0)) := by
  refine ro_start (by decide) rfl (Nat.le_of_ble_eq_true rfl) ?_
  intro p e s m args below meth c hx hb hr hml hlocks hts hown hT hP ls hl
  have hown : s.vm.findClass RX0 = some m.cls := hown
  have hl : lv_has ls 5 [(0, .ref aJ), (1, .ref aM), (2, .int (nI sv))] := hl
  have hv' := hv
  unfold MV at hv'
  refine lv_iconst (v := 0) hx hb dX0_waysOf_0 (by decide) ?_
  refine lv_istore_n (lv' := [(3, .int 0), (0, .ref aJ), (1, .ref aM), (2, .int (nI sv))]) hx hb dX0_waysOf_1 rfl hl (by decide) rfl (fun ls hl => ?_)
  refine lv_iconst (v := 0) hx hb dX0_waysOf_2 (by decide) ?_
  refine lv_istore (lv' := [(4, .int 0), (3, .int 0), (0, .ref aJ), (1, .ref aM), (2, .int (nI sv))]) hx hb dX0_waysOf_3 hl (by decide) rfl (fun ls hl => ?_)
  have L_5 : ∀ (f : Nat) (i : Nat) (t : Nat), i + f = fw → wyL Q fU fV fw sv fw 0 0 = wyL Q fU fV fw sv f i t → ∀ ls : Array Slot, lv_has ls 5 [(0, .ref aJ), (1, .ref aM), (2, .int (nI sv)), (3, .int (nI t)), (4, .int (nI i))] → W p l e (headSpec wsX0_waysOf ({ frames := 3, cells := 0, slots := 0, locals := 65 } : Room)).room s m args below meth c s.heap [] 0 0 (MQ below (QcRead (nI (wyL Q fU fV fw sv fw 0 0))) args s 0 0 (fun _ => False)) (F0 m 5 ls []) := by
    intro f
    induction f with
    | zero =>
      intro i t h1 h2 ls hl
      refine lv_iload hx hb dX0_waysOf_5 (lv_at hl 4 rfl) ?_
      refine lv_aload_n hx hb dX0_waysOf_7 rfl (lv_at hl 0 rfl) ?_
      refine va_get (D := D) (ci := 0) (v := .int (nI fw)) (C := RX0) (T := TX0) (N := 6) hx hb hts hi_X0_waysOf_X0 hown hT.1 hP 0 rfl rfl 0 (by decide) (hts (.fieldLink RX0 22 "SlotStar$Joint" "forwards" "I") (List.mem_of_getElem? (i := 1) rfl)) (fun _ h9 => h9) rfl dX0_waysOf_8 ?_
      refine lv_icmp_ge (tgt := 43) hx hb dX0_waysOf_11 (by decide) (fun c_1 => ?_) (fun c_1 => ?_)
      · skip
        refine lv_iload_n hx hb dX0_waysOf_43 rfl (lv_at hl 3 rfl) ?_
        exact ro_ret hx hb hr hlocks dX0_waysOf_44 (by rw [h2]; rfl)
      · exfalso; exact c_1 (nI_le (by omega) (by omega))
    | succ f ih_5 =>
      intro i t h1 h2 ls hl
      refine lv_iload hx hb dX0_waysOf_5 (lv_at hl 4 rfl) ?_
      refine lv_aload_n hx hb dX0_waysOf_7 rfl (lv_at hl 0 rfl) ?_
      refine va_get (D := D) (ci := 0) (v := .int (nI fw)) (C := RX0) (T := TX0) (N := 6) hx hb hts hi_X0_waysOf_X0 hown hT.1 hP 0 rfl rfl 0 (by decide) (hts (.fieldLink RX0 22 "SlotStar$Joint" "forwards" "I") (List.mem_of_getElem? (i := 1) rfl)) (fun _ h9 => h9) rfl dX0_waysOf_8 ?_
      refine lv_icmp_ge (tgt := 43) hx hb dX0_waysOf_11 (by decide) (fun c_2 => ?_) (fun c_2 => ?_)
      · exfalso; exact nI_ge (show i < fw by omega) (by omega) c_2
      · skip
        refine lv_iload_n hx hb dX0_waysOf_14 rfl (lv_at hl 3 rfl) ?_
        refine lv_aload_n hx hb dX0_waysOf_15 rfl (lv_at hl 1 rfl) ?_
        refine lv_aload_n hx hb dX0_waysOf_16 rfl (lv_at hl 0 rfl) ?_
        refine va_get (D := D) (ci := 0) (v := .ref aU) (C := RX0) (T := TX0) (N := 6) hx hb hts hi_X0_waysOf_X0 hown hT.1 hP 0 rfl rfl 4 (by decide) (hts (.fieldLink RX0 9 "SlotStar$Joint" "forwardSlots" "[I") (List.mem_of_getElem? (i := 2) rfl)) (fun _ h9 => h9) rfl dX0_waysOf_17 ?_
        refine lv_iload hx hb dX0_waysOf_20 (lv_at hl 4 rfl) ?_
        refine ro_N (As := [.ref aU, .int (nI i)]) (rest := [.ref aM, .int (nI t)]) ⟨hx, hb, hml, hown, hts⟩ hT hP (k_X3_at l D cI cZ aU 48 fU i (by decide) (by omega)) (List.mem_of_getElem? (i := 1) rfl) gX0_waysOf_X3_at_n56 (hts (.initialized RX3) (List.mem_of_getElem? (i := 4) rfl)) (hts (.static yX3_at) (List.mem_of_getElem? (i := 3) rfl)) rfl nd_X3_at [2] rfl hl.1 rfl rfl (Nat.le_of_ble_eq_true rfl) ⟨Nat.le_of_ble_eq_true rfl, Nat.le_of_ble_eq_true rfl⟩ ⟨rfl, rfl⟩ ⟨Nat.zero_le _, Nat.zero_le _⟩ dX0_waysOf_22 ?_
        refine top_eq (z := (nI (cl (fU i)))) (by exact (hU i (by omega)).1) ?_
        refine lv_aload_n hx hb dX0_waysOf_25 rfl (lv_at hl 0 rfl) ?_
        refine lv_iload hx hb dX0_waysOf_26 (lv_at hl 4 rfl) ?_
        refine lv_iload_n hx hb dX0_waysOf_28 rfl (lv_at hl 2 rfl) ?_
        refine ro_V (As := [.int (nI i), .int (nI sv)]) (rest := [.int (nI (cl (fU i))), .ref aM, .int (nI t)]) ⟨hx, hb, hml, hown, hts⟩ hT hP (k_X0_backOf l D cI cZ aJ aU aV fw sh wy bk fV i sv (by omega) (by omega) hs) gX0_waysOf_X0_backOf rfl rfl nd_X0_backOf [0, 3] rfl (ci := 0) rfl rfl (q0 := 0) rfl hl.1 rfl rfl (Nat.le_of_ble_eq_true rfl) ⟨Nat.le_of_ble_eq_true rfl, Nat.le_of_ble_eq_true rfl⟩ ⟨rfl, rfl⟩ ⟨Nat.zero_le _, Nat.zero_le _⟩ dX0_waysOf_29 ?_
        refine top_eq (z := (nI (cl (fV ((i + sv) % fw))))) (by exact (hV _ (Nat.mod_lt _ (by omega))).1) ?_
        refine ro_V (As := [.int (nI (cl (fU i))), .int (nI (cl (fV ((i + sv) % fw))))]) (rest := [.int (nI t)]) ⟨hx, hb, hml, hown, hts⟩ hT hP (k_X1_wayBetween l D cI cZ aM Q P M Wd (cl (fU i)) (cl (fV ((i + sv) % fw))) (by omega) ((hU i (by omega)).2) ((hV _ (Nat.mod_lt _ (by omega))).2)) gX0_waysOf_X1_wayBetween rfl rfl nd_X1_wayBetween [1] rfl (ci := 1) rfl rfl (q0 := 1) rfl hl.1 rfl rfl (Nat.le_of_ble_eq_true rfl) ⟨Nat.le_of_ble_eq_true rfl, Nat.le_of_ble_eq_true rfl⟩ ⟨rfl, rfl⟩ ⟨Nat.zero_le _, Nat.zero_le _⟩ dX0_waysOf_32 ?_
        refine lv_iadd hx hb dX0_waysOf_35 ?_
        refine top_eq (z := (nI (t + wB Q (cl (fU i)) (cl (fV ((i + sv) % fw)))))) (by exact nI_add _ _) ?_
        refine lv_istore_n (lv' := [(3, .int (nI (t + wB Q (cl (fU i)) (cl (fV ((i + sv) % fw)))))), (0, .ref aJ), (1, .ref aM), (2, .int (nI sv)), (4, .int (nI i))]) hx hb dX0_waysOf_36 rfl hl (by decide) rfl (fun ls hl => ?_)
        refine lv_iinc (v := nI (i + 1)) (lv' := [(4, .int (nI (i + 1))), (3, .int (nI (t + wB Q (cl (fU i)) (cl (fV ((i + sv) % fw)))))), (0, .ref aJ), (1, .ref aM), (2, .int (nI sv))]) hx hb dX0_waysOf_37 hl (k := 4) rfl ((nI_succ i).symm) (by decide) rfl (fun ls hl => ?_)
        refine lv_goto (tgt := 5) hx hb dX0_waysOf_40 (by decide) ?_
        exact ih_5 (i + 1) (t + wB Q (cl (fU i)) (cl (fV ((i + sv) % fw)))) (by omega) (by rw [h2]; rfl) ls (lv_sub hl [2, 3, 4, 1, 0] rfl)
  exact L_5 fw 0 0 (by omega) rfl ls (lv_sub hl [2, 3, 4, 1, 0] rfl)

set_option maxRecDepth 20000 in
theorem hi_X0_otherOf_X0 : ∀ w ∈ wsX00, w ∈ wsX0_otherOf := by
  intro w h
  unfold wsX0_otherOf
  simp only [List.mem_cons, List.mem_append, h, or_true, true_or]
theorem nd_X0_otherOf : okName yX0_otherOf 2 := by decide +kernel
set_option maxHeartbeats 4000000 in
set_option maxRecDepth 100000 in
theorem k_X0_otherOf (l : Launch) (D : va_G) (cI cZ : ClassId) (aJ : Nat) (aU : Nat) (aV : Nat) (fw : Nat) (sh : Nat) (wy : Nat) (bk : Nat) (fU : Nat → Int32) (fV : Nat → Int32) (k : Int32) (b : Int32) (hf : fw ≤ 48) (hs : sh < 1000) : RO l yX0_otherOf wsX0_otherOf ({ frames := 3, cells := 0, slots := 0, locals := 65 } : Room) D cI cZ [(aJ, .inr (0, [.int (nI fw), .int (nI sh), .int (nI wy), .int (nI bk), .ref aU, .ref aV])), (aU, .inl (cI, 48, .inl fU)), (aV, .inl (cI, 48, .inl fV))] [.ref aJ, .int k, .int b] (ooL fU fV fw sh k b fw 0) := by
  refine ro_start (by decide) rfl (Nat.le_of_ble_eq_true rfl) ?_
  intro p e s m args below meth c hx hb hr hml hlocks hts hown hT hP ls hl
  have hown : s.vm.findClass RX0 = some m.cls := hown
  have hl : lv_has ls 6 [(0, .ref aJ), (1, .int k), (2, .int b)] := hl
  refine lv_iconst (v := 0) hx hb dX0_otherOf_0 (by decide) ?_
  refine lv_istore_n (lv' := [(3, .int 0), (0, .ref aJ), (1, .int k), (2, .int b)]) hx hb dX0_otherOf_1 rfl hl (by decide) rfl (fun ls hl => ?_)
  have L_2 : ∀ (f : Nat) (i : Nat), i + f = fw → ooL fU fV fw sh k b fw 0 = ooL fU fV fw sh k b f i → ∀ ls : Array Slot, lv_has ls 6 [(0, .ref aJ), (1, .int k), (2, .int b), (3, .int (nI i))] → W p l e (headSpec wsX0_otherOf ({ frames := 3, cells := 0, slots := 0, locals := 65 } : Room)).room s m args below meth c s.heap [] 0 0 (MQ below (QcRead (ooL fU fV fw sh k b fw 0)) args s 0 0 (fun _ => False)) (F0 m 2 ls []) := by
    intro f
    induction f with
    | zero =>
      intro i h1 h2 ls hl
      refine lv_iload_n hx hb dX0_otherOf_2 rfl (lv_at hl 3 rfl) ?_
      refine lv_aload_n hx hb dX0_otherOf_3 rfl (lv_at hl 0 rfl) ?_
      refine va_get (D := D) (ci := 0) (v := .int (nI fw)) (C := RX0) (T := TX0) (N := 6) hx hb hts hi_X0_otherOf_X0 hown hT.1 hP 0 rfl rfl 0 (by decide) (hts (.fieldLink RX0 22 "SlotStar$Joint" "forwards" "I") (List.mem_of_getElem? (i := 1) rfl)) (fun _ h9 => h9) rfl dX0_otherOf_4 ?_
      refine lv_icmp_ge (tgt := 64) hx hb dX0_otherOf_7 (by decide) (fun c_1 => ?_) (fun c_1 => ?_)
      · skip
        refine lv_bipush (v := (-5)) hx hb dX0_otherOf_64 (by decide) ?_
        exact ro_ret hx hb hr hlocks dX0_otherOf_66 (by rw [h2]; rfl)
      · exfalso; exact c_1 (nI_le (by omega) (by omega))
    | succ f ih_2 =>
      intro i h1 h2 ls hl
      refine lv_iload_n hx hb dX0_otherOf_2 rfl (lv_at hl 3 rfl) ?_
      refine lv_aload_n hx hb dX0_otherOf_3 rfl (lv_at hl 0 rfl) ?_
      refine va_get (D := D) (ci := 0) (v := .int (nI fw)) (C := RX0) (T := TX0) (N := 6) hx hb hts hi_X0_otherOf_X0 hown hT.1 hP 0 rfl rfl 0 (by decide) (hts (.fieldLink RX0 22 "SlotStar$Joint" "forwards" "I") (List.mem_of_getElem? (i := 1) rfl)) (fun _ h9 => h9) rfl dX0_otherOf_4 ?_
      refine lv_icmp_ge (tgt := 64) hx hb dX0_otherOf_7 (by decide) (fun c_2 => ?_) (fun c_2 => ?_)
      · exfalso; exact nI_ge (show i < fw by omega) (by omega) c_2
      · skip
        refine lv_aload_n hx hb dX0_otherOf_10 rfl (lv_at hl 0 rfl) ?_
        refine va_get (D := D) (ci := 0) (v := .ref aU) (C := RX0) (T := TX0) (N := 6) hx hb hts hi_X0_otherOf_X0 hown hT.1 hP 0 rfl rfl 4 (by decide) (hts (.fieldLink RX0 9 "SlotStar$Joint" "forwardSlots" "[I") (List.mem_of_getElem? (i := 2) rfl)) (fun _ h9 => h9) rfl dX0_otherOf_11 ?_
        refine lv_iload_n hx hb dX0_otherOf_14 rfl (lv_at hl 3 rfl) ?_
        refine ro_N (As := [.ref aU, .int (nI i)]) (rest := []) ⟨hx, hb, hml, hown, hts⟩ hT hP (k_X3_at l D cI cZ aU 48 fU i (by decide) (by omega)) (List.mem_of_getElem? (i := 1) rfl) gX0_otherOf_X3_at_n56 (hts (.initialized RX3) (List.mem_of_getElem? (i := 5) rfl)) (hts (.static yX3_at) (List.mem_of_getElem? (i := 4) rfl)) rfl nd_X3_at [1] rfl hl.1 rfl rfl (Nat.le_of_ble_eq_true rfl) ⟨Nat.le_of_ble_eq_true rfl, Nat.le_of_ble_eq_true rfl⟩ ⟨rfl, rfl⟩ ⟨Nat.zero_le _, Nat.zero_le _⟩ dX0_otherOf_15 ?_
        refine lv_istore (lv' := [(4, .int (fU i)), (0, .ref aJ), (1, .int k), (2, .int b), (3, .int (nI i))]) hx hb dX0_otherOf_18 hl (by decide) rfl (fun ls hl => ?_)
        refine lv_aload_n hx hb dX0_otherOf_20 rfl (lv_at hl 1 rfl) ?_
        refine lv_iload_n hx hb dX0_otherOf_21 rfl (lv_at hl 4 rfl) ?_
        refine lv_aload_n hx hb dX0_otherOf_22 rfl (lv_at hl 1 rfl) ?_
        refine va_get (D := D) (ci := 0) (v := .int (nI sh)) (C := RX0) (T := TX0) (N := 6) hx hb hts hi_X0_otherOf_X0 hown hT.1 hP 0 rfl rfl 1 (by decide) (hts (.fieldLink RX0 29 "SlotStar$Joint" "shift" "I") (List.mem_of_getElem? (i := 3) rfl)) (fun _ h9 => h9) rfl dX0_otherOf_23 ?_
        refine ro_V (As := [.int (nI i), .int (nI sh)]) (rest := []) ⟨hx, hb, hml, hown, hts⟩ hT hP (k_X0_backOf l D cI cZ aJ aU aV fw sh wy bk fV i sh (by omega) (by omega) hs) gX0_otherOf_X0_backOf rfl rfl nd_X0_backOf [0, 2] rfl (ci := 0) rfl rfl (q0 := 0) rfl hl.1 rfl rfl (Nat.le_of_ble_eq_true rfl) ⟨Nat.le_of_ble_eq_true rfl, Nat.le_of_ble_eq_true rfl⟩ ⟨rfl, rfl⟩ ⟨Nat.zero_le _, Nat.zero_le _⟩ dX0_otherOf_26 ?_
        refine lv_istore (lv' := [(5, .int (fV ((i + sh) % fw))), (4, .int (fU i)), (0, .ref aJ), (1, .int k), (2, .int b), (3, .int (nI i))]) hx hb dX0_otherOf_29 hl (by decide) rfl (fun ls hl => ?_)
        refine lv_iload_n hx hb dX0_otherOf_31 rfl (lv_at hl 3 rfl) ?_
        refine lv_iload_n hx hb dX0_otherOf_32 rfl (lv_at hl 4 rfl) ?_
        refine lv_if_eq (tgt := 41) hx hb dX0_otherOf_33 (by decide) (fun c_3 => ?_) (fun c_3 => ?_)
        · skip
          refine lv_iload hx hb dX0_otherOf_41 (lv_at hl 0 rfl) ?_
          refine lv_icmp_ne (tgt := 58) hx hb dX0_otherOf_43 (by decide) (fun c_4 => ?_) (fun c_4 => ?_)
          · skip
            refine lv_iinc (v := nI (i + 1)) (lv' := [(3, .int (nI (i + 1))), (5, .int (fV ((i + sh) % fw))), (4, .int (fU i)), (0, .ref aJ), (1, .int k), (2, .int b)]) hx hb dX0_otherOf_58 hl (k := 5) rfl ((nI_succ i).symm) (by decide) rfl (fun ls hl => ?_)
            refine lv_goto (tgt := 2) hx hb dX0_otherOf_61 (by decide) ?_
            exact ih_2 (i + 1) (by omega) (by rw [h2]; simp [ooL, c_2, c_3, c_4]) ls (lv_sub hl [3, 4, 5, 0] rfl)
          · skip
            refine lv_iload_n hx hb dX0_otherOf_46 rfl (lv_at hl 4 rfl) ?_
            refine lv_if_eq (tgt := 55) hx hb dX0_otherOf_47 (by decide) (fun c_5 => ?_) (fun c_5 => ?_)
            · skip
              refine lv_iload hx hb dX0_otherOf_55 (lv_at hl 1 rfl) ?_
              exact ro_ret hx hb hr hlocks dX0_otherOf_57 (by rw [h2]; simp_all [ooL])
            · skip
              refine lv_iload hx hb dX0_otherOf_50 (lv_at hl 0 rfl) ?_
              refine lv_goto (tgt := 57) hx hb dX0_otherOf_52 (by decide) ?_
              exact ro_ret hx hb hr hlocks dX0_otherOf_57 (by rw [h2]; simp_all [ooL])
        · skip
          refine lv_iload hx hb dX0_otherOf_36 (lv_at hl 1 rfl) ?_
          refine lv_goto (tgt := 43) hx hb dX0_otherOf_38 (by decide) ?_
          refine lv_icmp_ne (tgt := 58) hx hb dX0_otherOf_43 (by decide) (fun c_6 => ?_) (fun c_6 => ?_)
          · skip
            refine lv_iinc (v := nI (i + 1)) (lv' := [(3, .int (nI (i + 1))), (5, .int (fV ((i + sh) % fw))), (4, .int (fU i)), (0, .ref aJ), (1, .int k), (2, .int b)]) hx hb dX0_otherOf_58 hl (k := 5) rfl ((nI_succ i).symm) (by decide) rfl (fun ls hl => ?_)
            refine lv_goto (tgt := 2) hx hb dX0_otherOf_61 (by decide) ?_
            exact ih_2 (i + 1) (by omega) (by rw [h2]; simp [ooL, c_2, c_3, c_6]) ls (lv_sub hl [3, 4, 5, 0] rfl)
          · skip
            refine lv_iload_n hx hb dX0_otherOf_46 rfl (lv_at hl 4 rfl) ?_
            refine lv_if_eq (tgt := 55) hx hb dX0_otherOf_47 (by decide) (fun c_7 => ?_) (fun c_7 => ?_)
            · skip
              refine lv_iload hx hb dX0_otherOf_55 (lv_at hl 1 rfl) ?_
              exact ro_ret hx hb hr hlocks dX0_otherOf_57 (by rw [h2]; simp_all [ooL])
            · skip
              refine lv_iload hx hb dX0_otherOf_50 (lv_at hl 0 rfl) ?_
              refine lv_goto (tgt := 57) hx hb dX0_otherOf_52 (by decide) ?_
              exact ro_ret hx hb hr hlocks dX0_otherOf_57 (by rw [h2]; simp_all [ooL])
  exact L_2 fw 0 (by omega) rfl ls (lv_sub hl [1, 2, 3, 0] rfl)

set_option maxRecDepth 20000 in
theorem hi_X0_collect_X0 : ∀ w ∈ wsX00, w ∈ wsX0_collect := by
  intro w h
  unfold wsX0_collect
  simp only [List.mem_cons, List.mem_append, h, or_true, true_or]
set_option maxRecDepth 20000 in
theorem hi_X0_collect_X1 : ∀ w ∈ wsX10, w ∈ wsX0_collect := by
  intro w h
  unfold wsX0_collect
  simp only [List.mem_cons, List.mem_append, h, or_true, true_or]
theorem nd_X0_collect : okName yX0_collect 2 := by decide +kernel
set_option maxHeartbeats 4000000 in
set_option maxRecDepth 100000 in
theorem k_X0_collect (l : Launch) (D : va_G) (cI cZ : ClassId) (aJ : Nat) (aU : Nat) (aV : Nat) (fw : Nat) (sh : Nat) (wy : Nat) (bk : Nat) (fU : Nat → Int32) (fV : Nat → Int32) (aM : Nat) (Q : Nat) (P : Nat) (M : Nat) (Wd : Nat) (a : Int32) (hv : MV Q P M Wd) : MU l yX0_collect wsX0_collect ({ frames := 4, cells := 0, slots := 0, locals := 86 } : Room) D cI cZ [(aJ, .inr (0, [.int (nI fw), .int (nI sh), .int (nI wy), .int (nI bk), .ref aU, .ref aV])), (aM, .inr (1, [.int (nI Q), .int (nI P), .int (nI M), .int (nI Wd), .int (nI (tT Q P)), .int (nI (tN Q P))])), (aU, .inl (cI, 48, .inl fU)), (aV, .inl (cI, 48, .inl fV))] [.ref aJ, .ref aM, .int a] none [(aJ, .inr (0, [.int (nI (fwN Q P M a)), .int (nI sh), .int (nI wy), .int (nI (bkN Q P M a)), .ref aU, .ref aV])), (aM, .inr (1, [.int (nI Q), .int (nI P), .int (nI M), .int (nI Wd), .int (nI (tT Q P)), .int (nI (tN Q P))])), (aU, .inl (cI, 48, .inl ((clS Q P M a fU fV).2.2.1))), (aV, .inl (cI, 48, .inl ((clS Q P M a fU fV).2.2.2)))] := by
  refine mu_start (by decide) rfl (Nat.le_of_ble_eq_true rfl) ?_
  intro p e s m args below meth c hx hb hr hml hlocks hts hown hT hP hD hS ls hl
  have hown : s.vm.findClass RX0 = some m.cls := hown
  have hl : lv_has ls 4 [(0, .ref aJ), (1, .ref aM), (2, .int a)] := hl
  have hv' := hv
  unfold MV at hv'
  refine lv_aload_n hx hb dX0_collect_0 rfl (lv_at hl 0 rfl) ?_
  refine lv_iconst (v := 0) hx hb dX0_collect_1 (by decide) ?_
  refine va_put (D := D) (ci := 0) (v := .int 0) (ty := .int) (C := RX0) (T := TX0) (N := 6) hx hb hts hi_X0_collect_X0 tyX0 tyX0_ok nmX0 hown hT.1 hP hD hS 0 rfl rfl 0 (by decide) (hts (.fieldLink RX0 22 "SlotStar$Joint" "forwards" "I") (List.mem_of_getElem? (i := 1) rfl)) (fun _ h9 => h9) rfl (by decide +kernel) rfl rfl (Nat.le_of_ble_eq_true rfl) dX0_collect_2 (fun H locs hP hD hS => ?_)
  have hP : va_P D cls5 [(aJ, .inr (0, [.int 0, .int (nI sh), .int (nI wy), .int (nI bk), .ref aU, .ref aV])), (aM, .inr (1, [.int (nI Q), .int (nI P), .int (nI M), .int (nI Wd), .int (nI (tT Q P)), .int (nI (tN Q P))])), (aU, .inl (cI, 48, .inl fU)), (aV, .inl (cI, 48, .inl fV))] H := hP
  have hD : va_D (va_M [(aJ, .inr (0, [.int (nI fw), .int (nI sh), .int (nI wy), .int (nI bk), .ref aU, .ref aV])), (aM, .inr (1, [.int (nI Q), .int (nI P), .int (nI M), .int (nI Wd), .int (nI (tT Q P)), .int (nI (tN Q P))])), (aU, .inl (cI, 48, .inl fU)), (aV, .inl (cI, 48, .inl fV))]) [(aJ, .inr (0, [.int 0, .int (nI sh), .int (nI wy), .int (nI bk), .ref aU, .ref aV])), (aM, .inr (1, [.int (nI Q), .int (nI P), .int (nI M), .int (nI Wd), .int (nI (tT Q P)), .int (nI (tN Q P))])), (aU, .inl (cI, 48, .inl fU)), (aV, .inl (cI, 48, .inl fV))] := hD
  refine lv_aload_n hx hb dX0_collect_5 rfl (lv_at hl 0 rfl) ?_
  refine lv_iconst (v := 0) hx hb dX0_collect_6 (by decide) ?_
  refine va_put (D := D) (ci := 0) (v := .int 0) (ty := .int) (C := RX0) (T := TX0) (N := 6) hx hb hts hi_X0_collect_X0 tyX0 tyX0_ok nmX0 hown hT.1 hP hD hS 0 rfl rfl 3 (by decide) (hts (.fieldLink RX0 26 "SlotStar$Joint" "backs" "I") (List.mem_of_getElem? (i := 2) rfl)) (fun _ h9 => h9) rfl (by decide +kernel) rfl rfl (Nat.le_of_ble_eq_true rfl) dX0_collect_7 (fun H locs hP hD hS => ?_)
  have hP : va_P D cls5 [(aJ, .inr (0, [.int 0, .int (nI sh), .int (nI wy), .int 0, .ref aU, .ref aV])), (aM, .inr (1, [.int (nI Q), .int (nI P), .int (nI M), .int (nI Wd), .int (nI (tT Q P)), .int (nI (tN Q P))])), (aU, .inl (cI, 48, .inl fU)), (aV, .inl (cI, 48, .inl fV))] H := hP
  have hD : va_D (va_M [(aJ, .inr (0, [.int (nI fw), .int (nI sh), .int (nI wy), .int (nI bk), .ref aU, .ref aV])), (aM, .inr (1, [.int (nI Q), .int (nI P), .int (nI M), .int (nI Wd), .int (nI (tT Q P)), .int (nI (tN Q P))])), (aU, .inl (cI, 48, .inl fU)), (aV, .inl (cI, 48, .inl fV))]) [(aJ, .inr (0, [.int 0, .int (nI sh), .int (nI wy), .int 0, .ref aU, .ref aV])), (aM, .inr (1, [.int (nI Q), .int (nI P), .int (nI M), .int (nI Wd), .int (nI (tT Q P)), .int (nI (tN Q P))])), (aU, .inl (cI, 48, .inl fU)), (aV, .inl (cI, 48, .inl fV))] := hD
  refine lv_iconst (v := 0) hx hb dX0_collect_10 (by decide) ?_
  refine lv_istore_n (lv' := [(3, .int 0), (0, .ref aJ), (1, .ref aM), (2, .int a)]) hx hb dX0_collect_11 rfl hl (by decide) rfl (fun ls hl => ?_)
  have L_12 : ∀ (f : Nat) (i : Nat) (x : Nat) (y : Nat) (u : Nat → Int32) (v : Nat → Int32), i + f = Q → x + y ≤ i → clS Q P M a fU fV = clL Q P M a f i x y u v → ∀ (H : Heap) (locs : List Loc), va_P D cls5 [(aJ, .inr (0, [.int (nI x), .int (nI sh), .int (nI wy), .int (nI y), .ref aU, .ref aV])), (aM, .inr (1, [.int (nI Q), .int (nI P), .int (nI M), .int (nI Wd), .int (nI (tT Q P)), .int (nI (tN Q P))])), (aU, .inl (cI, 48, .inl u)), (aV, .inl (cI, 48, .inl v))] H → va_D (va_M [(aJ, .inr (0, [.int (nI fw), .int (nI sh), .int (nI wy), .int (nI bk), .ref aU, .ref aV])), (aM, .inr (1, [.int (nI Q), .int (nI P), .int (nI M), .int (nI Wd), .int (nI (tT Q P)), .int (nI (tN Q P))])), (aU, .inl (cI, 48, .inl fU)), (aV, .inl (cI, 48, .inl fV))]) [(aJ, .inr (0, [.int (nI x), .int (nI sh), .int (nI wy), .int (nI y), .ref aU, .ref aV])), (aM, .inr (1, [.int (nI Q), .int (nI P), .int (nI M), .int (nI Wd), .int (nI (tT Q P)), .int (nI (tN Q P))])), (aU, .inl (cI, 48, .inl u)), (aV, .inl (cI, 48, .inl v))] → va_S (va_M [(aJ, .inr (0, [.int (nI fw), .int (nI sh), .int (nI wy), .int (nI bk), .ref aU, .ref aV])), (aM, .inr (1, [.int (nI Q), .int (nI P), .int (nI M), .int (nI Wd), .int (nI (tT Q P)), .int (nI (tN Q P))])), (aU, .inl (cI, 48, .inl fU)), (aV, .inl (cI, 48, .inl fV))]) s.heap H locs → ∀ ls : Array Slot, lv_has ls 4 [(0, .ref aJ), (1, .ref aM), (2, .int a), (3, .int (nI i))] → W p l e (headSpec wsX0_collect ({ frames := 4, cells := 0, slots := 0, locals := 86 } : Room)).room s m args below meth c H locs 0 0 (MQ below (QcM D [(aJ, .inr (0, [.int (nI fw), .int (nI sh), .int (nI wy), .int (nI bk), .ref aU, .ref aV])), (aM, .inr (1, [.int (nI Q), .int (nI P), .int (nI M), .int (nI Wd), .int (nI (tT Q P)), .int (nI (tN Q P))])), (aU, .inl (cI, 48, .inl fU)), (aV, .inl (cI, 48, .inl fV))] [(aJ, .inr (0, [.int (nI (fwN Q P M a)), .int (nI sh), .int (nI wy), .int (nI (bkN Q P M a)), .ref aU, .ref aV])), (aM, .inr (1, [.int (nI Q), .int (nI P), .int (nI M), .int (nI Wd), .int (nI (tT Q P)), .int (nI (tN Q P))])), (aU, .inl (cI, 48, .inl ((clS Q P M a fU fV).2.2.1))), (aV, .inl (cI, 48, .inl ((clS Q P M a fU fV).2.2.2)))] none) args s 0 0 (va_M [(aJ, .inr (0, [.int (nI fw), .int (nI sh), .int (nI wy), .int (nI bk), .ref aU, .ref aV])), (aM, .inr (1, [.int (nI Q), .int (nI P), .int (nI M), .int (nI Wd), .int (nI (tT Q P)), .int (nI (tN Q P))])), (aU, .inl (cI, 48, .inl fU)), (aV, .inl (cI, 48, .inl fV))])) (F0 m 12 ls []) := by
    intro f
    induction f with
    | zero =>
      intro i x y u v h1 h3 h2 H locs hP hD hS ls hl
      refine lv_iload_n hx hb dX0_collect_12 rfl (lv_at hl 3 rfl) ?_
      refine lv_aload_n hx hb dX0_collect_13 rfl (lv_at hl 1 rfl) ?_
      refine va_get (D := D) (ci := 1) (v := .int (nI Q)) (C := RX1) (T := TX1) (N := 6) hx hb hts hi_X0_collect_X1 hown hT.1 hP 1 rfl rfl 0 (by decide) (hts (.fieldLink RX0 39 "SlotStar$Machine" "slots" "I") (List.mem_of_getElem? (i := 3) rfl)) (fun _ h9 => h9) rfl dX0_collect_14 ?_
      refine lv_icmp_ge (tgt := 90) hx hb dX0_collect_17 (by decide) (fun c_1 => ?_) (fun c_1 => ?_)
      · skip
        exact mu_retv hx hb hr hlocks dX0_collect_90 (by rw [clS_fw Q P M a fU fV, clS_bk Q P M a fU fV, h2]; exact hP) hS
      · exfalso; exact c_1 (nI_le (by omega) (by omega))
    | succ f ih_12 =>
      intro i x y u v h1 h3 h2 H locs hP hD hS ls hl
      refine lv_iload_n hx hb dX0_collect_12 rfl (lv_at hl 3 rfl) ?_
      refine lv_aload_n hx hb dX0_collect_13 rfl (lv_at hl 1 rfl) ?_
      refine va_get (D := D) (ci := 1) (v := .int (nI Q)) (C := RX1) (T := TX1) (N := 6) hx hb hts hi_X0_collect_X1 hown hT.1 hP 1 rfl rfl 0 (by decide) (hts (.fieldLink RX0 39 "SlotStar$Machine" "slots" "I") (List.mem_of_getElem? (i := 3) rfl)) (fun _ h9 => h9) rfl dX0_collect_14 ?_
      refine lv_icmp_ge (tgt := 90) hx hb dX0_collect_17 (by decide) (fun c_2 => ?_) (fun c_2 => ?_)
      · exfalso; exact nI_ge (show i < Q by omega) (by omega) c_2
      · skip
        refine lv_aload_n hx hb dX0_collect_20 rfl (lv_at hl 1 rfl) ?_
        refine lv_iload_n hx hb dX0_collect_21 rfl (lv_at hl 3 rfl) ?_
        refine ro_V (As := [.int (nI i)]) (rest := []) ⟨hx, hb, hml, hown, hts⟩ hT hP (k_X1_phaseOf l D cI cZ aM Q P M Wd i hv (by omega)) gX0_collect_X1_phaseOf rfl rfl nd_X1_phaseOf [1] rfl (ci := 1) rfl rfl (q0 := 1) rfl hl.1 rfl rfl (Nat.le_of_ble_eq_true rfl) ⟨Nat.le_of_ble_eq_true rfl, Nat.le_of_ble_eq_true rfl⟩ ⟨rfl, rfl⟩ ⟨Nat.zero_le _, Nat.zero_le _⟩ dX0_collect_22 ?_
        refine lv_iload_n hx hb dX0_collect_25 rfl (lv_at hl 2 rfl) ?_
        refine lv_icmp_ne (tgt := 84) hx hb dX0_collect_26 (by decide) (fun c_3 => ?_) (fun c_3 => ?_)
        · skip
          refine lv_iinc (v := nI (i + 1)) (lv' := [(3, .int (nI (i + 1))), (0, .ref aJ), (1, .ref aM), (2, .int a)]) hx hb dX0_collect_84 hl (k := 3) rfl ((nI_succ i).symm) (by decide) rfl (fun ls hl => ?_)
          refine lv_goto (tgt := 12) hx hb dX0_collect_87 (by decide) ?_
          exact ih_12 (i + 1) x y _ _ (by omega) (by omega) (by rw [h2]; simp [clL, c_2, c_3]) _ _ hP hD hS ls (lv_sub hl [1, 2, 3, 0] rfl)
        · skip
          refine lv_aload_n hx hb dX0_collect_29 rfl (lv_at hl 1 rfl) ?_
          refine lv_iload_n hx hb dX0_collect_30 rfl (lv_at hl 3 rfl) ?_
          refine ro_V (As := [.int (nI i)]) (rest := []) ⟨hx, hb, hml, hown, hts⟩ hT hP (k_X1_isForward l D cI cZ aM Q P M Wd i hv (by omega)) gX0_collect_X1_isForward rfl rfl nd_X1_isForward [1] rfl (ci := 1) rfl rfl (q0 := 1) rfl hl.1 rfl rfl (Nat.le_of_ble_eq_true rfl) ⟨Nat.le_of_ble_eq_true rfl, Nat.le_of_ble_eq_true rfl⟩ ⟨rfl, rfl⟩ ⟨Nat.zero_le _, Nat.zero_le _⟩ dX0_collect_31 ?_
          refine lv_if_eq (tgt := 62) hx hb dX0_collect_34 (by decide) (fun c_4 => ?_) (fun c_4 => ?_)
          · skip
            refine lv_aload_n hx hb dX0_collect_62 rfl (lv_at hl 0 rfl) ?_
            refine va_get (D := D) (ci := 0) (v := .ref aV) (C := RX0) (T := TX0) (N := 6) hx hb hts hi_X0_collect_X0 hown hT.1 hP 0 rfl rfl 5 (by decide) (hts (.fieldLink RX0 15 "SlotStar$Joint" "backSlots" "[I") (List.mem_of_getElem? (i := 5) rfl)) (fun _ h9 => h9) rfl dX0_collect_63 ?_
            refine lv_aload_n hx hb dX0_collect_66 rfl (lv_at hl 0 rfl) ?_
            refine va_get (D := D) (ci := 0) (v := .int (nI y)) (C := RX0) (T := TX0) (N := 6) hx hb hts hi_X0_collect_X0 hown hT.1 hP 0 rfl rfl 3 (by decide) (hts (.fieldLink RX0 26 "SlotStar$Joint" "backs" "I") (List.mem_of_getElem? (i := 2) rfl)) (fun _ h9 => h9) rfl dX0_collect_67 ?_
            refine lv_iload_n hx hb dX0_collect_70 rfl (lv_at hl 3 rfl) ?_
            refine mu_N (As := [.ref aV, .int (nI y), .int (nI i)]) (rest := []) (W1 := [(aJ, .inr (0, [.int (nI x), .int (nI sh), .int (nI wy), .int (nI y), .ref aU, .ref aV])), (aM, .inr (1, [.int (nI Q), .int (nI P), .int (nI M), .int (nI Wd), .int (nI (tT Q P)), .int (nI (tN Q P))])), (aU, .inl (cI, 48, .inl u)), (aV, .inl (cI, 48, .inl (upd v y (nI i))))]) (st1 := []) ⟨hx, hb, hml, hown, hts⟩ hT hP hD hS (k_X3_put l D cI cZ aV 48 v y (nI i) (by decide) (by omega)) (List.mem_of_getElem? (i := 0) rfl) gX0_collect_X3_put_n52 (hts (.initialized RX3) (List.mem_of_getElem? (i := 25) rfl)) (hts (.static yX3_put) (List.mem_of_getElem? (i := 33) rfl)) rfl nd_X3_put [3] (by decide) rfl rfl rfl rfl hl.1 rfl rfl (Nat.le_of_ble_eq_true rfl) ⟨Nat.le_of_ble_eq_true rfl, Nat.le_of_ble_eq_true rfl⟩ ⟨rfl, rfl⟩ ⟨Nat.zero_le _, Nat.zero_le _⟩ dX0_collect_71 (fun H locs hP hD hS => ?_)
            refine lv_aload_n hx hb dX0_collect_74 rfl (lv_at hl 0 rfl) ?_
            refine lv_dup hx hb dX0_collect_75 rfl ?_
            refine va_get (D := D) (ci := 0) (v := .int (nI y)) (C := RX0) (T := TX0) (N := 6) hx hb hts hi_X0_collect_X0 hown hT.1 hP 0 rfl rfl 3 (by decide) (hts (.fieldLink RX0 26 "SlotStar$Joint" "backs" "I") (List.mem_of_getElem? (i := 2) rfl)) (fun _ h9 => h9) rfl dX0_collect_76 ?_
            refine lv_iconst (v := 1) hx hb dX0_collect_79 (by decide) ?_
            refine lv_iadd hx hb dX0_collect_80 ?_
            refine top_eq (z := (nI (y + 1))) (by exact nI_1 y) ?_
            refine va_put (D := D) (ci := 0) (v := .int (nI (y + 1))) (ty := .int) (C := RX0) (T := TX0) (N := 6) hx hb hts hi_X0_collect_X0 tyX0 tyX0_ok nmX0 hown hT.1 hP hD hS 0 rfl rfl 3 (by decide) (hts (.fieldLink RX0 26 "SlotStar$Joint" "backs" "I") (List.mem_of_getElem? (i := 2) rfl)) (fun _ h9 => h9) rfl (by decide +kernel) rfl rfl (Nat.le_of_ble_eq_true rfl) dX0_collect_81 (fun H locs hP hD hS => ?_)
            have hP : va_P D cls5 [(aJ, .inr (0, [.int (nI x), .int (nI sh), .int (nI wy), .int (nI (y + 1)), .ref aU, .ref aV])), (aM, .inr (1, [.int (nI Q), .int (nI P), .int (nI M), .int (nI Wd), .int (nI (tT Q P)), .int (nI (tN Q P))])), (aU, .inl (cI, 48, .inl u)), (aV, .inl (cI, 48, .inl (upd v y (nI i))))] H := hP
            have hD : va_D (va_M [(aJ, .inr (0, [.int (nI fw), .int (nI sh), .int (nI wy), .int (nI bk), .ref aU, .ref aV])), (aM, .inr (1, [.int (nI Q), .int (nI P), .int (nI M), .int (nI Wd), .int (nI (tT Q P)), .int (nI (tN Q P))])), (aU, .inl (cI, 48, .inl fU)), (aV, .inl (cI, 48, .inl fV))]) [(aJ, .inr (0, [.int (nI x), .int (nI sh), .int (nI wy), .int (nI (y + 1)), .ref aU, .ref aV])), (aM, .inr (1, [.int (nI Q), .int (nI P), .int (nI M), .int (nI Wd), .int (nI (tT Q P)), .int (nI (tN Q P))])), (aU, .inl (cI, 48, .inl u)), (aV, .inl (cI, 48, .inl (upd v y (nI i))))] := hD
            refine lv_iinc (v := nI (i + 1)) (lv' := [(3, .int (nI (i + 1))), (0, .ref aJ), (1, .ref aM), (2, .int a)]) hx hb dX0_collect_84 hl (k := 3) rfl ((nI_succ i).symm) (by decide) rfl (fun ls hl => ?_)
            refine lv_goto (tgt := 12) hx hb dX0_collect_87 (by decide) ?_
            exact ih_12 (i + 1) x (y + 1) _ _ (by omega) (by omega) (by rw [h2]; simp [clL, c_2, c_3, c_4]) _ _ hP hD hS ls (lv_sub hl [1, 2, 3, 0] rfl)
          · skip
            refine lv_aload_n hx hb dX0_collect_37 rfl (lv_at hl 0 rfl) ?_
            refine va_get (D := D) (ci := 0) (v := .ref aU) (C := RX0) (T := TX0) (N := 6) hx hb hts hi_X0_collect_X0 hown hT.1 hP 0 rfl rfl 4 (by decide) (hts (.fieldLink RX0 9 "SlotStar$Joint" "forwardSlots" "[I") (List.mem_of_getElem? (i := 4) rfl)) (fun _ h9 => h9) rfl dX0_collect_38 ?_
            refine lv_aload_n hx hb dX0_collect_41 rfl (lv_at hl 0 rfl) ?_
            refine va_get (D := D) (ci := 0) (v := .int (nI x)) (C := RX0) (T := TX0) (N := 6) hx hb hts hi_X0_collect_X0 hown hT.1 hP 0 rfl rfl 0 (by decide) (hts (.fieldLink RX0 22 "SlotStar$Joint" "forwards" "I") (List.mem_of_getElem? (i := 1) rfl)) (fun _ h9 => h9) rfl dX0_collect_42 ?_
            refine lv_iload_n hx hb dX0_collect_45 rfl (lv_at hl 3 rfl) ?_
            refine mu_N (As := [.ref aU, .int (nI x), .int (nI i)]) (rest := []) (W1 := [(aJ, .inr (0, [.int (nI x), .int (nI sh), .int (nI wy), .int (nI y), .ref aU, .ref aV])), (aM, .inr (1, [.int (nI Q), .int (nI P), .int (nI M), .int (nI Wd), .int (nI (tT Q P)), .int (nI (tN Q P))])), (aU, .inl (cI, 48, .inl (upd u x (nI i)))), (aV, .inl (cI, 48, .inl v))]) (st1 := []) ⟨hx, hb, hml, hown, hts⟩ hT hP hD hS (k_X3_put l D cI cZ aU 48 u x (nI i) (by decide) (by omega)) (List.mem_of_getElem? (i := 0) rfl) gX0_collect_X3_put_n52 (hts (.initialized RX3) (List.mem_of_getElem? (i := 25) rfl)) (hts (.static yX3_put) (List.mem_of_getElem? (i := 33) rfl)) rfl nd_X3_put [2] (by decide) rfl rfl rfl rfl hl.1 rfl rfl (Nat.le_of_ble_eq_true rfl) ⟨Nat.le_of_ble_eq_true rfl, Nat.le_of_ble_eq_true rfl⟩ ⟨rfl, rfl⟩ ⟨Nat.zero_le _, Nat.zero_le _⟩ dX0_collect_46 (fun H locs hP hD hS => ?_)
            refine lv_aload_n hx hb dX0_collect_49 rfl (lv_at hl 0 rfl) ?_
            refine lv_dup hx hb dX0_collect_50 rfl ?_
            refine va_get (D := D) (ci := 0) (v := .int (nI x)) (C := RX0) (T := TX0) (N := 6) hx hb hts hi_X0_collect_X0 hown hT.1 hP 0 rfl rfl 0 (by decide) (hts (.fieldLink RX0 22 "SlotStar$Joint" "forwards" "I") (List.mem_of_getElem? (i := 1) rfl)) (fun _ h9 => h9) rfl dX0_collect_51 ?_
            refine lv_iconst (v := 1) hx hb dX0_collect_54 (by decide) ?_
            refine lv_iadd hx hb dX0_collect_55 ?_
            refine top_eq (z := (nI (x + 1))) (by exact nI_1 x) ?_
            refine va_put (D := D) (ci := 0) (v := .int (nI (x + 1))) (ty := .int) (C := RX0) (T := TX0) (N := 6) hx hb hts hi_X0_collect_X0 tyX0 tyX0_ok nmX0 hown hT.1 hP hD hS 0 rfl rfl 0 (by decide) (hts (.fieldLink RX0 22 "SlotStar$Joint" "forwards" "I") (List.mem_of_getElem? (i := 1) rfl)) (fun _ h9 => h9) rfl (by decide +kernel) rfl rfl (Nat.le_of_ble_eq_true rfl) dX0_collect_56 (fun H locs hP hD hS => ?_)
            have hP : va_P D cls5 [(aJ, .inr (0, [.int (nI (x + 1)), .int (nI sh), .int (nI wy), .int (nI y), .ref aU, .ref aV])), (aM, .inr (1, [.int (nI Q), .int (nI P), .int (nI M), .int (nI Wd), .int (nI (tT Q P)), .int (nI (tN Q P))])), (aU, .inl (cI, 48, .inl (upd u x (nI i)))), (aV, .inl (cI, 48, .inl v))] H := hP
            have hD : va_D (va_M [(aJ, .inr (0, [.int (nI fw), .int (nI sh), .int (nI wy), .int (nI bk), .ref aU, .ref aV])), (aM, .inr (1, [.int (nI Q), .int (nI P), .int (nI M), .int (nI Wd), .int (nI (tT Q P)), .int (nI (tN Q P))])), (aU, .inl (cI, 48, .inl fU)), (aV, .inl (cI, 48, .inl fV))]) [(aJ, .inr (0, [.int (nI (x + 1)), .int (nI sh), .int (nI wy), .int (nI y), .ref aU, .ref aV])), (aM, .inr (1, [.int (nI Q), .int (nI P), .int (nI M), .int (nI Wd), .int (nI (tT Q P)), .int (nI (tN Q P))])), (aU, .inl (cI, 48, .inl (upd u x (nI i)))), (aV, .inl (cI, 48, .inl v))] := hD
            refine lv_goto (tgt := 84) hx hb dX0_collect_59 (by decide) ?_
            refine lv_iinc (v := nI (i + 1)) (lv' := [(3, .int (nI (i + 1))), (0, .ref aJ), (1, .ref aM), (2, .int a)]) hx hb dX0_collect_84 hl (k := 3) rfl ((nI_succ i).symm) (by decide) rfl (fun ls hl => ?_)
            refine lv_goto (tgt := 12) hx hb dX0_collect_87 (by decide) ?_
            exact ih_12 (i + 1) (x + 1) y _ _ (by omega) (by omega) (by rw [h2]; simp [clL, c_2, c_3, c_4]) _ _ hP hD hS ls (lv_sub hl [1, 2, 3, 0] rfl)
  exact L_12 Q 0 0 0 fU fV (by omega) (by omega) rfl _ _ hP hD hS ls (lv_sub hl [1, 2, 3, 0] rfl)

set_option maxRecDepth 20000 in
theorem hi_X0_join_X0 : ∀ w ∈ wsX00, w ∈ wsX0_join := by
  intro w h
  unfold wsX0_join
  simp only [List.mem_cons, List.mem_append, h, or_true, true_or]
theorem nd_X0_join : okName yX0_join 2 := by decide +kernel
set_option maxHeartbeats 4000000 in
set_option maxRecDepth 100000 in
theorem k_X0_join (l : Launch) (D : va_G) (cI cZ : ClassId) (aJ : Nat) (aU : Nat) (aV : Nat) (fw : Nat) (sh : Nat) (wy : Nat) (bk : Nat) (fU : Nat → Int32) (fV : Nat → Int32) (aM : Nat) (Q : Nat) (P : Nat) (M : Nat) (Wd : Nat) (a : Int32) (hv : MV Q P M Wd) : MU l yX0_join wsX0_join ({ frames := 5, cells := 0, slots := 0, locals := 109 } : Room) D cI cZ [(aJ, .inr (0, [.int (nI fw), .int (nI sh), .int (nI wy), .int (nI bk), .ref aU, .ref aV])), (aM, .inr (1, [.int (nI Q), .int (nI P), .int (nI M), .int (nI Wd), .int (nI (tT Q P)), .int (nI (tN Q P))])), (aU, .inl (cI, 48, .inl fU)), (aV, .inl (cI, 48, .inl fV))] [.ref aJ, .ref aM, .int a] (some (.int (jnR Q P M a))) [(aJ, .inr (0, [.int (nI (fwN Q P M a)), .int (nI (if fwN Q P M a = bkN Q P M a then (joS Q P M a).1 else sh)), .int (nI (if fwN Q P M a = bkN Q P M a then (joS Q P M a).2 else wy)), .int (nI (bkN Q P M a)), .ref aU, .ref aV])), (aM, .inr (1, [.int (nI Q), .int (nI P), .int (nI M), .int (nI Wd), .int (nI (tT Q P)), .int (nI (tN Q P))])), (aU, .inl (cI, 48, .inl ((clS Q P M a fU fV).2.2.1))), (aV, .inl (cI, 48, .inl ((clS Q P M a fU fV).2.2.2)))] := by
  refine mu_start (by decide) rfl (Nat.le_of_ble_eq_true rfl) ?_
  intro p e s m args below meth c hx hb hr hml hlocks hts hown hT hP hD hS ls hl
  have hown : s.vm.findClass RX0 = some m.cls := hown
  have hl : lv_has ls 5 [(0, .ref aJ), (1, .ref aM), (2, .int a)] := hl
  have hv' := hv
  unfold MV at hv'
  have hfb := fb_le Q P M a
  refine lv_aload_n hx hb dX0_join_0 rfl (lv_at hl 0 rfl) ?_
  refine lv_aload_n hx hb dX0_join_1 rfl (lv_at hl 1 rfl) ?_
  refine lv_iload_n hx hb dX0_join_2 rfl (lv_at hl 2 rfl) ?_
  refine mu_V (As := [.ref aM, .int a]) (rest := []) (W1 := [(aJ, .inr (0, [.int (nI (fwN Q P M a)), .int (nI sh), .int (nI wy), .int (nI (bkN Q P M a)), .ref aU, .ref aV])), (aM, .inr (1, [.int (nI Q), .int (nI P), .int (nI M), .int (nI Wd), .int (nI (tT Q P)), .int (nI (tN Q P))])), (aU, .inl (cI, 48, .inl ((clS Q P M a fU fV).2.2.1))), (aV, .inl (cI, 48, .inl ((clS Q P M a fU fV).2.2.2)))]) (st1 := []) ⟨hx, hb, hml, hown, hts⟩ hT hP hD hS (k_X0_collect l D cI cZ aJ aU aV fw sh wy bk fU fV aM Q P M Wd a hv) gX0_join_X0_collect rfl rfl nd_X0_collect [0, 1, 2, 3] (by decide) rfl rfl rfl rfl (ci := 0) rfl rfl (q0 := 0) rfl hl.1 rfl rfl (Nat.le_of_ble_eq_true rfl) ⟨Nat.le_of_ble_eq_true rfl, Nat.le_of_ble_eq_true rfl⟩ ⟨rfl, rfl⟩ ⟨Nat.zero_le _, Nat.zero_le _⟩ dX0_join_3 (fun H locs hP hD hS => ?_)
  refine lv_aload_n hx hb dX0_join_6 rfl (lv_at hl 0 rfl) ?_
  refine va_get (D := D) (ci := 0) (v := .int (nI (fwN Q P M a))) (C := RX0) (T := TX0) (N := 6) hx hb hts hi_X0_join_X0 hown hT.1 hP 0 rfl rfl 0 (by decide) (hts (.fieldLink RX0 22 "SlotStar$Joint" "forwards" "I") (List.mem_of_getElem? (i := 1) rfl)) (fun _ h9 => h9) rfl dX0_join_7 ?_
  refine lv_aload_n hx hb dX0_join_10 rfl (lv_at hl 0 rfl) ?_
  refine va_get (D := D) (ci := 0) (v := .int (nI (bkN Q P M a))) (C := RX0) (T := TX0) (N := 6) hx hb hts hi_X0_join_X0 hown hT.1 hP 0 rfl rfl 3 (by decide) (hts (.fieldLink RX0 26 "SlotStar$Joint" "backs" "I") (List.mem_of_getElem? (i := 2) rfl)) (fun _ h9 => h9) rfl dX0_join_11 ?_
  refine lv_icmp_eq (tgt := 19) hx hb dX0_join_14 (by decide) (fun c_1 => ?_) (fun c_1 => ?_)
  · skip
    have hj : fwN Q P M a = bkN Q P M a := (nI_eq (by omega) (by omega)).mp c_1
    refine lv_aload_n hx hb dX0_join_19 rfl (lv_at hl 0 rfl) ?_
    refine lv_iconst (v := 0) hx hb dX0_join_20 (by decide) ?_
    refine va_put (D := D) (ci := 0) (v := .int 0) (ty := .int) (C := RX0) (T := TX0) (N := 6) hx hb hts hi_X0_join_X0 tyX0 tyX0_ok nmX0 hown hT.1 hP hD hS 0 rfl rfl 1 (by decide) (hts (.fieldLink RX0 29 "SlotStar$Joint" "shift" "I") (List.mem_of_getElem? (i := 3) rfl)) (fun _ h9 => h9) rfl (by decide +kernel) rfl rfl (Nat.le_of_ble_eq_true rfl) dX0_join_21 (fun H locs hP hD hS => ?_)
    have hP : va_P D cls5 [(aJ, .inr (0, [.int (nI (fwN Q P M a)), .int 0, .int (nI wy), .int (nI (bkN Q P M a)), .ref aU, .ref aV])), (aM, .inr (1, [.int (nI Q), .int (nI P), .int (nI M), .int (nI Wd), .int (nI (tT Q P)), .int (nI (tN Q P))])), (aU, .inl (cI, 48, .inl ((clS Q P M a fU fV).2.2.1))), (aV, .inl (cI, 48, .inl ((clS Q P M a fU fV).2.2.2)))] H := hP
    have hD : va_D (va_M [(aJ, .inr (0, [.int (nI fw), .int (nI sh), .int (nI wy), .int (nI bk), .ref aU, .ref aV])), (aM, .inr (1, [.int (nI Q), .int (nI P), .int (nI M), .int (nI Wd), .int (nI (tT Q P)), .int (nI (tN Q P))])), (aU, .inl (cI, 48, .inl fU)), (aV, .inl (cI, 48, .inl fV))]) [(aJ, .inr (0, [.int (nI (fwN Q P M a)), .int 0, .int (nI wy), .int (nI (bkN Q P M a)), .ref aU, .ref aV])), (aM, .inr (1, [.int (nI Q), .int (nI P), .int (nI M), .int (nI Wd), .int (nI (tT Q P)), .int (nI (tN Q P))])), (aU, .inl (cI, 48, .inl ((clS Q P M a fU fV).2.2.1))), (aV, .inl (cI, 48, .inl ((clS Q P M a fU fV).2.2.2)))] := hD
    refine lv_aload_n hx hb dX0_join_24 rfl (lv_at hl 0 rfl) ?_
    refine lv_aload_n hx hb dX0_join_25 rfl (lv_at hl 0 rfl) ?_
    refine lv_aload_n hx hb dX0_join_26 rfl (lv_at hl 1 rfl) ?_
    refine lv_iconst (v := 0) hx hb dX0_join_27 (by decide) ?_
    refine ro_V (As := [.ref aM, .int 0]) (rest := [.ref aJ]) ⟨hx, hb, hml, hown, hts⟩ hT hP (k_X0_waysOf l D cI cZ aJ aU aV (fwN Q P M a) 0 wy (bkN Q P M a) ((clS Q P M a fU fV).2.2.1) ((clS Q P M a fU fV).2.2.2) aM Q P M Wd 0 hv (by omega) (by omega) (slR_u (by omega) a fU fV) (by have h9 := slR_v (Q := Q) (P := P) (M := M) (by omega) a fU fV; rw [← hj] at h9; exact h9)) gX0_join_X0_waysOf rfl rfl nd_X0_waysOf [0, 1, 2, 3] rfl (ci := 0) rfl rfl (q0 := 0) rfl hl.1 rfl rfl (Nat.le_of_ble_eq_true rfl) ⟨Nat.le_of_ble_eq_true rfl, Nat.le_of_ble_eq_true rfl⟩ ⟨rfl, rfl⟩ ⟨Nat.zero_le _, Nat.zero_le _⟩ dX0_join_28 ?_
    refine top_eq (z := (nI (wyS Q P M a 0))) (by rw [wyS_of fU fV 0 hj]) ?_
    refine va_put (D := D) (ci := 0) (v := .int (nI (wyS Q P M a 0))) (ty := .int) (C := RX0) (T := TX0) (N := 6) hx hb hts hi_X0_join_X0 tyX0 tyX0_ok nmX0 hown hT.1 hP hD hS 0 rfl rfl 2 (by decide) (hts (.fieldLink RX0 36 "SlotStar$Joint" "ways" "I") (List.mem_of_getElem? (i := 4) rfl)) (fun _ h9 => h9) rfl (by decide +kernel) rfl rfl (Nat.le_of_ble_eq_true rfl) dX0_join_31 (fun H locs hP hD hS => ?_)
    have hP : va_P D cls5 [(aJ, .inr (0, [.int (nI (fwN Q P M a)), .int 0, .int (nI (wyS Q P M a 0)), .int (nI (bkN Q P M a)), .ref aU, .ref aV])), (aM, .inr (1, [.int (nI Q), .int (nI P), .int (nI M), .int (nI Wd), .int (nI (tT Q P)), .int (nI (tN Q P))])), (aU, .inl (cI, 48, .inl ((clS Q P M a fU fV).2.2.1))), (aV, .inl (cI, 48, .inl ((clS Q P M a fU fV).2.2.2)))] H := hP
    have hD : va_D (va_M [(aJ, .inr (0, [.int (nI fw), .int (nI sh), .int (nI wy), .int (nI bk), .ref aU, .ref aV])), (aM, .inr (1, [.int (nI Q), .int (nI P), .int (nI M), .int (nI Wd), .int (nI (tT Q P)), .int (nI (tN Q P))])), (aU, .inl (cI, 48, .inl fU)), (aV, .inl (cI, 48, .inl fV))]) [(aJ, .inr (0, [.int (nI (fwN Q P M a)), .int 0, .int (nI (wyS Q P M a 0)), .int (nI (bkN Q P M a)), .ref aU, .ref aV])), (aM, .inr (1, [.int (nI Q), .int (nI P), .int (nI M), .int (nI Wd), .int (nI (tT Q P)), .int (nI (tN Q P))])), (aU, .inl (cI, 48, .inl ((clS Q P M a fU fV).2.2.1))), (aV, .inl (cI, 48, .inl ((clS Q P M a fU fV).2.2.2)))] := hD
    refine lv_iconst (v := 1) hx hb dX0_join_34 (by decide) ?_
    refine lv_istore_n (lv' := [(3, .int 1), (0, .ref aJ), (1, .ref aM), (2, .int a)]) hx hb dX0_join_35 rfl hl (by decide) rfl (fun ls hl => ?_)
    have L_36 : ∀ (f : Nat) (sv : Nat) (x : Nat) (y : Nat), sv + f = fwN Q P M a ∨ (f = 0 ∧ fwN Q P M a ≤ sv) → 1 ≤ sv ∧ sv < 1000 → joS Q P M a = joL Q P M a f sv x y → ∀ (H : Heap) (locs : List Loc), va_P D cls5 [(aJ, .inr (0, [.int (nI (fwN Q P M a)), .int (nI x), .int (nI y), .int (nI (bkN Q P M a)), .ref aU, .ref aV])), (aM, .inr (1, [.int (nI Q), .int (nI P), .int (nI M), .int (nI Wd), .int (nI (tT Q P)), .int (nI (tN Q P))])), (aU, .inl (cI, 48, .inl ((clS Q P M a fU fV).2.2.1))), (aV, .inl (cI, 48, .inl ((clS Q P M a fU fV).2.2.2)))] H → va_D (va_M [(aJ, .inr (0, [.int (nI fw), .int (nI sh), .int (nI wy), .int (nI bk), .ref aU, .ref aV])), (aM, .inr (1, [.int (nI Q), .int (nI P), .int (nI M), .int (nI Wd), .int (nI (tT Q P)), .int (nI (tN Q P))])), (aU, .inl (cI, 48, .inl fU)), (aV, .inl (cI, 48, .inl fV))]) [(aJ, .inr (0, [.int (nI (fwN Q P M a)), .int (nI x), .int (nI y), .int (nI (bkN Q P M a)), .ref aU, .ref aV])), (aM, .inr (1, [.int (nI Q), .int (nI P), .int (nI M), .int (nI Wd), .int (nI (tT Q P)), .int (nI (tN Q P))])), (aU, .inl (cI, 48, .inl ((clS Q P M a fU fV).2.2.1))), (aV, .inl (cI, 48, .inl ((clS Q P M a fU fV).2.2.2)))] → va_S (va_M [(aJ, .inr (0, [.int (nI fw), .int (nI sh), .int (nI wy), .int (nI bk), .ref aU, .ref aV])), (aM, .inr (1, [.int (nI Q), .int (nI P), .int (nI M), .int (nI Wd), .int (nI (tT Q P)), .int (nI (tN Q P))])), (aU, .inl (cI, 48, .inl fU)), (aV, .inl (cI, 48, .inl fV))]) s.heap H locs → ∀ ls : Array Slot, lv_has ls 5 [(0, .ref aJ), (1, .ref aM), (2, .int a), (3, .int (nI sv))] → W p l e (headSpec wsX0_join ({ frames := 5, cells := 0, slots := 0, locals := 109 } : Room)).room s m args below meth c H locs 0 0 (MQ below (QcM D [(aJ, .inr (0, [.int (nI fw), .int (nI sh), .int (nI wy), .int (nI bk), .ref aU, .ref aV])), (aM, .inr (1, [.int (nI Q), .int (nI P), .int (nI M), .int (nI Wd), .int (nI (tT Q P)), .int (nI (tN Q P))])), (aU, .inl (cI, 48, .inl fU)), (aV, .inl (cI, 48, .inl fV))] [(aJ, .inr (0, [.int (nI (fwN Q P M a)), .int (nI (if fwN Q P M a = bkN Q P M a then (joS Q P M a).1 else sh)), .int (nI (if fwN Q P M a = bkN Q P M a then (joS Q P M a).2 else wy)), .int (nI (bkN Q P M a)), .ref aU, .ref aV])), (aM, .inr (1, [.int (nI Q), .int (nI P), .int (nI M), .int (nI Wd), .int (nI (tT Q P)), .int (nI (tN Q P))])), (aU, .inl (cI, 48, .inl ((clS Q P M a fU fV).2.2.1))), (aV, .inl (cI, 48, .inl ((clS Q P M a fU fV).2.2.2)))] (some (.int (jnR Q P M a)))) args s 0 0 (va_M [(aJ, .inr (0, [.int (nI fw), .int (nI sh), .int (nI wy), .int (nI bk), .ref aU, .ref aV])), (aM, .inr (1, [.int (nI Q), .int (nI P), .int (nI M), .int (nI Wd), .int (nI (tT Q P)), .int (nI (tN Q P))])), (aU, .inl (cI, 48, .inl fU)), (aV, .inl (cI, 48, .inl fV))])) (F0 m 36 ls []) := by
      intro f
      induction f with
      | zero =>
        intro sv x y h1 h3 h2 H locs hP hD hS ls hl
        refine lv_iload_n hx hb dX0_join_36 rfl (lv_at hl 3 rfl) ?_
        refine lv_aload_n hx hb dX0_join_37 rfl (lv_at hl 0 rfl) ?_
        refine va_get (D := D) (ci := 0) (v := .int (nI (fwN Q P M a))) (C := RX0) (T := TX0) (N := 6) hx hb hts hi_X0_join_X0 hown hT.1 hP 0 rfl rfl 0 (by decide) (hts (.fieldLink RX0 22 "SlotStar$Joint" "forwards" "I") (List.mem_of_getElem? (i := 1) rfl)) (fun _ h9 => h9) rfl dX0_join_38 ?_
        refine lv_icmp_ge (tgt := 78) hx hb dX0_join_41 (by decide) (fun c_2 => ?_) (fun c_2 => ?_)
        · skip
          refine lv_iconst (v := 1) hx hb dX0_join_78 (by decide) ?_
          exact mu_retz hx hb hr hlocks dX0_join_79 (by rw [if_pos hj, if_pos hj, h2]; exact hP) hS (by unfold jnR; rw [if_pos hj]) (by exact jnR01 _ _ _ _)
        · exfalso; exact c_2 (nI_le (by omega) (by omega))
      | succ f ih_36 =>
        intro sv x y h1 h3 h2 H locs hP hD hS ls hl
        refine lv_iload_n hx hb dX0_join_36 rfl (lv_at hl 3 rfl) ?_
        refine lv_aload_n hx hb dX0_join_37 rfl (lv_at hl 0 rfl) ?_
        refine va_get (D := D) (ci := 0) (v := .int (nI (fwN Q P M a))) (C := RX0) (T := TX0) (N := 6) hx hb hts hi_X0_join_X0 hown hT.1 hP 0 rfl rfl 0 (by decide) (hts (.fieldLink RX0 22 "SlotStar$Joint" "forwards" "I") (List.mem_of_getElem? (i := 1) rfl)) (fun _ h9 => h9) rfl dX0_join_38 ?_
        refine lv_icmp_ge (tgt := 78) hx hb dX0_join_41 (by decide) (fun c_3 => ?_) (fun c_3 => ?_)
        · exfalso; exact nI_ge (show sv < fwN Q P M a by omega) (by omega) c_3
        · skip
          refine lv_aload_n hx hb dX0_join_44 rfl (lv_at hl 0 rfl) ?_
          refine lv_aload_n hx hb dX0_join_45 rfl (lv_at hl 1 rfl) ?_
          refine lv_iload_n hx hb dX0_join_46 rfl (lv_at hl 3 rfl) ?_
          refine ro_V (As := [.ref aM, .int (nI sv)]) (rest := []) ⟨hx, hb, hml, hown, hts⟩ hT hP (k_X0_waysOf l D cI cZ aJ aU aV (fwN Q P M a) x y (bkN Q P M a) ((clS Q P M a fU fV).2.2.1) ((clS Q P M a fU fV).2.2.2) aM Q P M Wd sv hv (by omega) (by omega) (slR_u (by omega) a fU fV) (by have h9 := slR_v (Q := Q) (P := P) (M := M) (by omega) a fU fV; rw [← hj] at h9; exact h9)) gX0_join_X0_waysOf rfl rfl nd_X0_waysOf [0, 1, 2, 3] rfl (ci := 0) rfl rfl (q0 := 0) rfl hl.1 rfl rfl (Nat.le_of_ble_eq_true rfl) ⟨Nat.le_of_ble_eq_true rfl, Nat.le_of_ble_eq_true rfl⟩ ⟨rfl, rfl⟩ ⟨Nat.zero_le _, Nat.zero_le _⟩ dX0_join_47 ?_
          refine top_eq (z := (nI (wyS Q P M a sv))) (by rw [wyS_of fU fV sv hj]) ?_
          refine lv_istore (lv' := [(4, .int (nI (wyS Q P M a sv))), (0, .ref aJ), (1, .ref aM), (2, .int a), (3, .int (nI sv))]) hx hb dX0_join_50 hl (by decide) rfl (fun ls hl => ?_)
          refine lv_iload hx hb dX0_join_52 (lv_at hl 0 rfl) ?_
          refine lv_aload_n hx hb dX0_join_54 rfl (lv_at hl 1 rfl) ?_
          refine va_get (D := D) (ci := 0) (v := .int (nI y)) (C := RX0) (T := TX0) (N := 6) hx hb hts hi_X0_join_X0 hown hT.1 hP 0 rfl rfl 2 (by decide) (hts (.fieldLink RX0 36 "SlotStar$Joint" "ways" "I") (List.mem_of_getElem? (i := 4) rfl)) (fun _ h9 => h9) rfl dX0_join_55 ?_
          refine lv_icmp_ge (tgt := 72) hx hb dX0_join_58 (by decide) (fun c_4 => ?_) (fun c_4 => ?_)
          · skip
            refine lv_iinc (v := nI (sv + 1)) (lv' := [(3, .int (nI (sv + 1))), (4, .int (nI (wyS Q P M a sv))), (0, .ref aJ), (1, .ref aM), (2, .int a)]) hx hb dX0_join_72 hl (k := 4) rfl ((nI_succ sv).symm) (by decide) rfl (fun ls hl => ?_)
            refine lv_goto (tgt := 36) hx hb dX0_join_75 (by decide) ?_
            exact ih_36 (sv + 1) x y (by omega) (by omega) (by rw [h2]; simp [joL, c_1, c_3, c_4]) _ _ hP hD hS ls (lv_sub hl [2, 3, 4, 0] rfl)
          · skip
            refine lv_aload_n hx hb dX0_join_61 rfl (lv_at hl 1 rfl) ?_
            refine lv_iload_n hx hb dX0_join_62 rfl (lv_at hl 4 rfl) ?_
            refine va_put (D := D) (ci := 0) (v := .int (nI sv)) (ty := .int) (C := RX0) (T := TX0) (N := 6) hx hb hts hi_X0_join_X0 tyX0 tyX0_ok nmX0 hown hT.1 hP hD hS 0 rfl rfl 1 (by decide) (hts (.fieldLink RX0 29 "SlotStar$Joint" "shift" "I") (List.mem_of_getElem? (i := 3) rfl)) (fun _ h9 => h9) rfl (by decide +kernel) rfl rfl (Nat.le_of_ble_eq_true rfl) dX0_join_63 (fun H locs hP hD hS => ?_)
            have hP : va_P D cls5 [(aJ, .inr (0, [.int (nI (fwN Q P M a)), .int (nI sv), .int (nI y), .int (nI (bkN Q P M a)), .ref aU, .ref aV])), (aM, .inr (1, [.int (nI Q), .int (nI P), .int (nI M), .int (nI Wd), .int (nI (tT Q P)), .int (nI (tN Q P))])), (aU, .inl (cI, 48, .inl ((clS Q P M a fU fV).2.2.1))), (aV, .inl (cI, 48, .inl ((clS Q P M a fU fV).2.2.2)))] H := hP
            have hD : va_D (va_M [(aJ, .inr (0, [.int (nI fw), .int (nI sh), .int (nI wy), .int (nI bk), .ref aU, .ref aV])), (aM, .inr (1, [.int (nI Q), .int (nI P), .int (nI M), .int (nI Wd), .int (nI (tT Q P)), .int (nI (tN Q P))])), (aU, .inl (cI, 48, .inl fU)), (aV, .inl (cI, 48, .inl fV))]) [(aJ, .inr (0, [.int (nI (fwN Q P M a)), .int (nI sv), .int (nI y), .int (nI (bkN Q P M a)), .ref aU, .ref aV])), (aM, .inr (1, [.int (nI Q), .int (nI P), .int (nI M), .int (nI Wd), .int (nI (tT Q P)), .int (nI (tN Q P))])), (aU, .inl (cI, 48, .inl ((clS Q P M a fU fV).2.2.1))), (aV, .inl (cI, 48, .inl ((clS Q P M a fU fV).2.2.2)))] := hD
            refine lv_aload_n hx hb dX0_join_66 rfl (lv_at hl 1 rfl) ?_
            refine lv_iload hx hb dX0_join_67 (lv_at hl 0 rfl) ?_
            refine va_put (D := D) (ci := 0) (v := .int (nI (wyS Q P M a sv))) (ty := .int) (C := RX0) (T := TX0) (N := 6) hx hb hts hi_X0_join_X0 tyX0 tyX0_ok nmX0 hown hT.1 hP hD hS 0 rfl rfl 2 (by decide) (hts (.fieldLink RX0 36 "SlotStar$Joint" "ways" "I") (List.mem_of_getElem? (i := 4) rfl)) (fun _ h9 => h9) rfl (by decide +kernel) rfl rfl (Nat.le_of_ble_eq_true rfl) dX0_join_69 (fun H locs hP hD hS => ?_)
            have hP : va_P D cls5 [(aJ, .inr (0, [.int (nI (fwN Q P M a)), .int (nI sv), .int (nI (wyS Q P M a sv)), .int (nI (bkN Q P M a)), .ref aU, .ref aV])), (aM, .inr (1, [.int (nI Q), .int (nI P), .int (nI M), .int (nI Wd), .int (nI (tT Q P)), .int (nI (tN Q P))])), (aU, .inl (cI, 48, .inl ((clS Q P M a fU fV).2.2.1))), (aV, .inl (cI, 48, .inl ((clS Q P M a fU fV).2.2.2)))] H := hP
            have hD : va_D (va_M [(aJ, .inr (0, [.int (nI fw), .int (nI sh), .int (nI wy), .int (nI bk), .ref aU, .ref aV])), (aM, .inr (1, [.int (nI Q), .int (nI P), .int (nI M), .int (nI Wd), .int (nI (tT Q P)), .int (nI (tN Q P))])), (aU, .inl (cI, 48, .inl fU)), (aV, .inl (cI, 48, .inl fV))]) [(aJ, .inr (0, [.int (nI (fwN Q P M a)), .int (nI sv), .int (nI (wyS Q P M a sv)), .int (nI (bkN Q P M a)), .ref aU, .ref aV])), (aM, .inr (1, [.int (nI Q), .int (nI P), .int (nI M), .int (nI Wd), .int (nI (tT Q P)), .int (nI (tN Q P))])), (aU, .inl (cI, 48, .inl ((clS Q P M a fU fV).2.2.1))), (aV, .inl (cI, 48, .inl ((clS Q P M a fU fV).2.2.2)))] := hD
            refine lv_iinc (v := nI (sv + 1)) (lv' := [(3, .int (nI (sv + 1))), (4, .int (nI (wyS Q P M a sv))), (0, .ref aJ), (1, .ref aM), (2, .int a)]) hx hb dX0_join_72 hl (k := 4) rfl ((nI_succ sv).symm) (by decide) rfl (fun ls hl => ?_)
            refine lv_goto (tgt := 36) hx hb dX0_join_75 (by decide) ?_
            exact ih_36 (sv + 1) sv (wyS Q P M a sv) (by omega) (by omega) (by rw [h2]; simp [joL, c_1, c_3, c_4]) _ _ hP hD hS ls (lv_sub hl [2, 3, 4, 0] rfl)
    exact L_36 (fwN Q P M a - 1) 1 0 (wyS Q P M a 0) (by omega) (by omega) rfl _ _ hP hD hS ls (lv_sub hl [1, 2, 3, 0] rfl)
  · skip
    have hj : ¬ fwN Q P M a = bkN Q P M a := fun q => c_1 (by rw [q])
    refine lv_iconst (v := 0) hx hb dX0_join_17 (by decide) ?_
    exact mu_retz hx hb hr hlocks dX0_join_18 (by rw [if_neg hj, if_neg hj]; exact hP) hS (by unfold jnR; rw [if_neg hj]) (by exact jnR01 _ _ _ _)
