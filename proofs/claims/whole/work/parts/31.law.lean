set_option maxHeartbeats 8000000 in
set_option maxRecDepth 100000 in
theorem law_loop {p : Program} {l : Launch} {e : Env} {s : State} {m : MethodId} {below : List Frame} {meth : Method} {c : Code} {D : va_G} {cI cZ : ClassId} {b L : Nat} {xs : Nat → Int32} (hL : L ≤ 2048) (C0 : lw_At p s m meth c b L xs) (hT : TW D cI cZ s) (aS aM aR aJ aN aF aG aI aU aV aO aOw aDg aWk aSm aFo aBk aIm aKp : Nat) : ∀ (f i : Nat) (Q P M Wd fw sh wy bk fo ba le sf : Nat) (fF fG fI fU fV fOw fDg fWk sm fFo fBk fIm fKp : Nat → Int32), L ≤ i + f → i ≤ 2048 + 4 → MV Q P M Wd → IMG fI fIm fKp → ∀ (H : Heap) (locs : List Loc), va_P D cls5 [(aS, .inr (3, [.ref aM, .ref aR, .ref aJ, .ref aF, .ref aG, .ref aI])), (aM, .inr (1, [.int (nI Q), .int (nI P), .int (nI M), .int (nI Wd), .int (nI (tT Q P)), .int (nI (tN Q P))])), (aR, .inr (2, [.ref aN, .int (nI (dgN (tN Q P))), .int (nI (tN Q P))])), (aJ, .inr (0, [.int (nI fw), .int (nI sh), .int (nI wy), .int (nI bk), .ref aU, .ref aV])), (aN, .inl (cI, 49, .inl (cyR (tN Q P)))), (aF, .inl (cI, 48, .inl fF)), (aG, .inl (cI, 48, .inl fG)), (aI, .inl (cI, 8, .inl fI)), (aU, .inl (cI, 48, .inl fU)), (aV, .inl (cI, 48, .inl fV)), (aO, .inr (4, [.int (nI Q), .int (nI P), .int (nI M), .int (nI Wd), .ref aOw, .ref aDg, .ref aWk, .ref aSm, .ref aFo, .ref aBk, .int (nI fo), .int (nI ba), .int (nI le), .int (nI sf), .ref aIm, .ref aKp])), (aOw, .inl (cI, 2401, .inl fOw)), (aDg, .inl (cI, 49, .inl fDg)), (aWk, .inl (cI, 49, .inl fWk)), (aSm, .inl (cI, 98, .inl sm)), (aFo, .inl (cI, 48, .inl fFo)), (aBk, .inl (cI, 48, .inl fBk)), (aIm, .inl (cI, 8, .inl fIm)), (aKp, .inl (cZ, 2, .inl fKp))] H → va_D (fun q : Nat => s.heap.size ≤ q) [(aS, .inr (3, [.ref aM, .ref aR, .ref aJ, .ref aF, .ref aG, .ref aI])), (aM, .inr (1, [.int (nI Q), .int (nI P), .int (nI M), .int (nI Wd), .int (nI (tT Q P)), .int (nI (tN Q P))])), (aR, .inr (2, [.ref aN, .int (nI (dgN (tN Q P))), .int (nI (tN Q P))])), (aJ, .inr (0, [.int (nI fw), .int (nI sh), .int (nI wy), .int (nI bk), .ref aU, .ref aV])), (aN, .inl (cI, 49, .inl (cyR (tN Q P)))), (aF, .inl (cI, 48, .inl fF)), (aG, .inl (cI, 48, .inl fG)), (aI, .inl (cI, 8, .inl fI)), (aU, .inl (cI, 48, .inl fU)), (aV, .inl (cI, 48, .inl fV)), (aO, .inr (4, [.int (nI Q), .int (nI P), .int (nI M), .int (nI Wd), .ref aOw, .ref aDg, .ref aWk, .ref aSm, .ref aFo, .ref aBk, .int (nI fo), .int (nI ba), .int (nI le), .int (nI sf), .ref aIm, .ref aKp])), (aOw, .inl (cI, 2401, .inl fOw)), (aDg, .inl (cI, 49, .inl fDg)), (aWk, .inl (cI, 49, .inl fWk)), (aSm, .inl (cI, 98, .inl sm)), (aFo, .inl (cI, 48, .inl fFo)), (aBk, .inl (cI, 48, .inl fBk)), (aIm, .inl (cI, 8, .inl fIm)), (aKp, .inl (cZ, 2, .inl fKp))] → va_S (fun q : Nat => s.heap.size ≤ q) s.heap H locs → ∀ ls : Array Slot, lv_has ls 4 [(0, .ref b), (1, .ref aS), (2, .ref aO), (3, .int (nI i))] → W p l e room_1 s m #[Value.ref b] below meth c H locs 19 2989 (lw_Z below #[Value.ref b] s) (F0 m 18 ls []) := by
  obtain ⟨hx, hb, hr, hml, hown, hts0, hX, hbl, hlocks, hgv⟩ := C0
  have hts : ∀ w ∈ wsL_law, w.before #[Value.ref b] s = true := fun w h => hts0 w (wsL_law_in w h)
  have hown : s.vm.findClass RL = some m.cls := hown
  have hbA : ¬ (fun q : Nat => s.heap.size ≤ q) b := Nat.not_le.mpr hbl
  intro f
  induction f with
  | zero =>
    intro i Q P M Wd fw sh wy bk fo ba le sf fF fG fI fU fV fOw fDg fWk sm fFo fBk fIm fKp hf hi0 hv himg H locs hP hD hS ls hl
    have hi : i ≤ 4096 := by omega
    refine lv_iload_n hx hb dL_law_18 rfl (lv_at hl 3 rfl) ?_
    refine lv_aload_n hx hb dL_law_19 rfl (lv_at hl 0 rfl) ?_
    refine va_slen hx hb hX hbl hbA hS dL_law_20 ?_
    refine lv_iconst (v := 4) hx hb dL_law_21 (by decide) ?_
    refine lv_isub hx hb dL_law_22 ?_
    refine lv_icmp_gt (tgt := 640) hx hb dL_law_23 (by decide) (fun c_1 => ?_) (fun c_1 => ?_)
    · refine lv_iconst (v := 1) hx hb dL_law_640 (by decide) ?_
      refine va_forget (fun q hq => hS.2.2 q hq) ?_
      exact lw_ret hx hb hr hlocks dL_law_641
    · exact absurd (law_end hL hi (by omega)) c_1
  | succ f ih =>
    intro i Q P M Wd fw sh wy bk fo ba le sf fF fG fI fU fV fOw fDg fWk sm fFo fBk fIm fKp hf hi0 hv himg H locs hP hD hS ls hl
    have hi : i ≤ 4096 := by omega
    refine lv_iload_n hx hb dL_law_18 rfl (lv_at hl 3 rfl) ?_
    refine lv_aload_n hx hb dL_law_19 rfl (lv_at hl 0 rfl) ?_
    refine va_slen hx hb hX hbl hbA hS dL_law_20 ?_
    refine lv_iconst (v := 4) hx hb dL_law_21 (by decide) ?_
    refine lv_isub hx hb dL_law_22 ?_
    refine lv_icmp_gt (tgt := 640) hx hb dL_law_23 (by decide) (fun c_2 => ?_) (fun c_2 => ?_)
    · refine lv_iconst (v := 1) hx hb dL_law_640 (by decide) ?_
      refine va_forget (fun q hq => hS.2.2 q hq) ?_
      exact lw_ret hx hb hr hlocks dL_law_641
    have hlt : i + 4 ≤ L := law_on hL hi c_2
    refine lv_aload_n hx hb dL_law_26 rfl (lv_at hl 0 rfl) ?_
    refine lv_iload_n hx hb dL_law_27 rfl (lv_at hl 3 rfl) ?_
    refine ld_s hx hb hX hbl hbA hS (i) rfl (by omega) (by omega) dL_law_28 ?_
    refine lv_bipush (v := 31) hx hb dL_law_29 (by decide) ?_
    refine lv_iand hx hb dL_law_31 ?_
    generalize ((xs (i)) &&& 31) = wt
    by_cases w_3 : wt = 0
    · refine lv_tableIn (off := 88) (tgt := 120) hx hb dL_law_32 (by rw [w_3]; decide) (by rw [w_3]; decide) (by rw [w_3]; decide) (by decide) ?_
      refine lv_aload_n hx hb dL_law_120 rfl (lv_at hl 1 rfl) ?_
      refine lv_aload_n hx hb dL_law_121 rfl (lv_at hl 0 rfl) ?_
      refine lv_iload_n hx hb dL_law_122 rfl (lv_at hl 3 rfl) ?_
      refine lv_iconst (v := 1) hx hb dL_law_123 (by decide) ?_
      refine lv_iadd hx hb dL_law_124 ?_
      refine top_eq (z := (nI (i + 1))) (by exact nI_add i 1) ?_
      refine ld_s hx hb hX hbl hbA hS (i + 1) rfl (by omega) (by omega) dL_law_125 ?_
      refine lv_aload_n hx hb dL_law_126 rfl (lv_at hl 0 rfl) ?_
      refine lv_iload_n hx hb dL_law_127 rfl (lv_at hl 3 rfl) ?_
      refine lv_iconst (v := 2) hx hb dL_law_128 (by decide) ?_
      refine lv_iadd hx hb dL_law_129 ?_
      refine top_eq (z := (nI (i + 2))) (by exact nI_add i 2) ?_
      refine ld_s hx hb hX hbl hbA hS (i + 2) rfl (by omega) (by omega) dL_law_130 ?_
      refine lv_aload_n hx hb dL_law_131 rfl (lv_at hl 0 rfl) ?_
      refine lv_iload_n hx hb dL_law_132 rfl (lv_at hl 3 rfl) ?_
      refine lv_iconst (v := 3) hx hb dL_law_133 (by decide) ?_
      refine lv_iadd hx hb dL_law_134 ?_
      refine top_eq (z := (nI (i + 3))) (by exact nI_add i 3) ?_
      refine ld_s hx hb hX hbl hbA hS (i + 3) rfl (by omega) (by omega) dL_law_135 ?_
      refine mu_V (As := [.int (xs (i + 1)), .int (xs (i + 2)), .int (xs (i + 3))]) (rest := []) (W1 := [(aS, .inr (3, [.ref aM, .ref aR, .ref aJ, .ref aF, .ref aG, .ref aI])), (aM, .inr (1, [.int (nI ((mcT (xs (i + 1)) (xs (i + 2)) (xs (i + 3)) (Q, P, M, Wd)).1)), .int (nI ((mcT (xs (i + 1)) (xs (i + 2)) (xs (i + 3)) (Q, P, M, Wd)).2.1)), .int (nI ((mcT (xs (i + 1)) (xs (i + 2)) (xs (i + 3)) (Q, P, M, Wd)).2.2.1)), .int (nI ((mcT (xs (i + 1)) (xs (i + 2)) (xs (i + 3)) (Q, P, M, Wd)).2.2.2)), .int (nI (tT ((mcT (xs (i + 1)) (xs (i + 2)) (xs (i + 3)) (Q, P, M, Wd)).1) ((mcT (xs (i + 1)) (xs (i + 2)) (xs (i + 3)) (Q, P, M, Wd)).2.1))), .int (nI (tN ((mcT (xs (i + 1)) (xs (i + 2)) (xs (i + 3)) (Q, P, M, Wd)).1) ((mcT (xs (i + 1)) (xs (i + 2)) (xs (i + 3)) (Q, P, M, Wd)).2.1)))])), (aR, .inr (2, [.ref aN, .int (nI (dgN (tN ((mcT (xs (i + 1)) (xs (i + 2)) (xs (i + 3)) (Q, P, M, Wd)).1) ((mcT (xs (i + 1)) (xs (i + 2)) (xs (i + 3)) (Q, P, M, Wd)).2.1)))), .int (nI (tN ((mcT (xs (i + 1)) (xs (i + 2)) (xs (i + 3)) (Q, P, M, Wd)).1) ((mcT (xs (i + 1)) (xs (i + 2)) (xs (i + 3)) (Q, P, M, Wd)).2.1)))])), (aJ, .inr (0, [.int (nI fw), .int (nI sh), .int (nI wy), .int (nI bk), .ref aU, .ref aV])), (aN, .inl (cI, 49, .inl (cyR (tN ((mcT (xs (i + 1)) (xs (i + 2)) (xs (i + 3)) (Q, P, M, Wd)).1) ((mcT (xs (i + 1)) (xs (i + 2)) (xs (i + 3)) (Q, P, M, Wd)).2.1))))), (aF, .inl (cI, 48, .inl fF)), (aG, .inl (cI, 48, .inl fG)), (aI, .inl (cI, 8, .inl fI)), (aU, .inl (cI, 48, .inl fU)), (aV, .inl (cI, 48, .inl fV)), (aO, .inr (4, [.int (nI Q), .int (nI P), .int (nI M), .int (nI Wd), .ref aOw, .ref aDg, .ref aWk, .ref aSm, .ref aFo, .ref aBk, .int (nI fo), .int (nI ba), .int (nI le), .int (nI sf), .ref aIm, .ref aKp])), (aOw, .inl (cI, 2401, .inl fOw)), (aDg, .inl (cI, 49, .inl fDg)), (aWk, .inl (cI, 49, .inl fWk)), (aSm, .inl (cI, 98, .inl sm)), (aFo, .inl (cI, 48, .inl fFo)), (aBk, .inl (cI, 48, .inl fBk)), (aIm, .inl (cI, 8, .inl fIm)), (aKp, .inl (cZ, 2, .inl fKp))]) (st1 := [.int (sMac (xs (i + 1)) (xs (i + 2)) (xs (i + 3)))]) ⟨hx, hb, hml, hown, hts⟩ hT hP hD hS (k_X3_machine l D cI cZ aS aM aR aJ aF aG aI Q P M Wd aN (xs (i + 1)) (xs (i + 2)) (xs (i + 3)) hv) gL_law_X3_machine rfl rfl nd_X3_machine [0, 1, 2, 4] (by decide) rfl rfl rfl rfl (ci := 3) rfl rfl (q0 := 0) rfl hl.1 rfl rfl (Nat.le_of_ble_eq_true rfl) ⟨Nat.le_of_ble_eq_true rfl, Nat.le_of_ble_eq_true rfl⟩ ⟨rfl, rfl⟩ ⟨Nat.le_of_ble_eq_true rfl, Nat.le_of_ble_eq_true rfl⟩ dL_law_136 (fun H locs hP hD hS => ?_)
      refine lv_aload_n hx hb dL_law_139 rfl (lv_at hl 2 rfl) ?_
      refine lv_aload_n hx hb dL_law_140 rfl (lv_at hl 0 rfl) ?_
      refine lv_iload_n hx hb dL_law_141 rfl (lv_at hl 3 rfl) ?_
      refine lv_iconst (v := 1) hx hb dL_law_142 (by decide) ?_
      refine lv_iadd hx hb dL_law_143 ?_
      refine top_eq (z := (nI (i + 1))) (by exact nI_add i 1) ?_
      refine ld_s hx hb hX hbl hbA hS (i + 1) rfl (by omega) (by omega) dL_law_144 ?_
      refine lv_aload_n hx hb dL_law_145 rfl (lv_at hl 0 rfl) ?_
      refine lv_iload_n hx hb dL_law_146 rfl (lv_at hl 3 rfl) ?_
      refine lv_iconst (v := 2) hx hb dL_law_147 (by decide) ?_
      refine lv_iadd hx hb dL_law_148 ?_
      refine top_eq (z := (nI (i + 2))) (by exact nI_add i 2) ?_
      refine ld_s hx hb hX hbl hbA hS (i + 2) rfl (by omega) (by omega) dL_law_149 ?_
      refine lv_aload_n hx hb dL_law_150 rfl (lv_at hl 0 rfl) ?_
      refine lv_iload_n hx hb dL_law_151 rfl (lv_at hl 3 rfl) ?_
      refine lv_iconst (v := 3) hx hb dL_law_152 (by decide) ?_
      refine lv_iadd hx hb dL_law_153 ?_
      refine top_eq (z := (nI (i + 3))) (by exact nI_add i 3) ?_
      refine ld_s hx hb hX hbl hbA hS (i + 3) rfl (by omega) (by omega) dL_law_154 ?_
      refine mu_V (As := [.int (xs (i + 1)), .int (xs (i + 2)), .int (xs (i + 3))]) (rest := [.int (sMac (xs (i + 1)) (xs (i + 2)) (xs (i + 3)))]) (W1 := [(aS, .inr (3, [.ref aM, .ref aR, .ref aJ, .ref aF, .ref aG, .ref aI])), (aM, .inr (1, [.int (nI ((mcT (xs (i + 1)) (xs (i + 2)) (xs (i + 3)) (Q, P, M, Wd)).1)), .int (nI ((mcT (xs (i + 1)) (xs (i + 2)) (xs (i + 3)) (Q, P, M, Wd)).2.1)), .int (nI ((mcT (xs (i + 1)) (xs (i + 2)) (xs (i + 3)) (Q, P, M, Wd)).2.2.1)), .int (nI ((mcT (xs (i + 1)) (xs (i + 2)) (xs (i + 3)) (Q, P, M, Wd)).2.2.2)), .int (nI (tT ((mcT (xs (i + 1)) (xs (i + 2)) (xs (i + 3)) (Q, P, M, Wd)).1) ((mcT (xs (i + 1)) (xs (i + 2)) (xs (i + 3)) (Q, P, M, Wd)).2.1))), .int (nI (tN ((mcT (xs (i + 1)) (xs (i + 2)) (xs (i + 3)) (Q, P, M, Wd)).1) ((mcT (xs (i + 1)) (xs (i + 2)) (xs (i + 3)) (Q, P, M, Wd)).2.1)))])), (aR, .inr (2, [.ref aN, .int (nI (dgN (tN ((mcT (xs (i + 1)) (xs (i + 2)) (xs (i + 3)) (Q, P, M, Wd)).1) ((mcT (xs (i + 1)) (xs (i + 2)) (xs (i + 3)) (Q, P, M, Wd)).2.1)))), .int (nI (tN ((mcT (xs (i + 1)) (xs (i + 2)) (xs (i + 3)) (Q, P, M, Wd)).1) ((mcT (xs (i + 1)) (xs (i + 2)) (xs (i + 3)) (Q, P, M, Wd)).2.1)))])), (aJ, .inr (0, [.int (nI fw), .int (nI sh), .int (nI wy), .int (nI bk), .ref aU, .ref aV])), (aN, .inl (cI, 49, .inl (cyR (tN ((mcT (xs (i + 1)) (xs (i + 2)) (xs (i + 3)) (Q, P, M, Wd)).1) ((mcT (xs (i + 1)) (xs (i + 2)) (xs (i + 3)) (Q, P, M, Wd)).2.1))))), (aF, .inl (cI, 48, .inl fF)), (aG, .inl (cI, 48, .inl fG)), (aI, .inl (cI, 8, .inl fI)), (aU, .inl (cI, 48, .inl fU)), (aV, .inl (cI, 48, .inl fV)), (aO, .inr (4, [.int (nI ((mcT (xs (i + 1)) (xs (i + 2)) (xs (i + 3)) (Q, P, M, Wd)).1)), .int (nI ((mcT (xs (i + 1)) (xs (i + 2)) (xs (i + 3)) (Q, P, M, Wd)).2.1)), .int (nI ((mcT (xs (i + 1)) (xs (i + 2)) (xs (i + 3)) (Q, P, M, Wd)).2.2.1)), .int (nI ((mcT (xs (i + 1)) (xs (i + 2)) (xs (i + 3)) (Q, P, M, Wd)).2.2.2)), .ref aOw, .ref aDg, .ref aWk, .ref aSm, .ref aFo, .ref aBk, .int (nI fo), .int (nI ba), .int (nI le), .int (nI sf), .ref aIm, .ref aKp])), (aOw, .inl (cI, 2401, .inl fOw)), (aDg, .inl (cI, 49, .inl fDg)), (aWk, .inl (cI, 49, .inl fWk)), (aSm, .inl (cI, 98, .inl sm)), (aFo, .inl (cI, 48, .inl fFo)), (aBk, .inl (cI, 48, .inl fBk)), (aIm, .inl (cI, 8, .inl fIm)), (aKp, .inl (cZ, 2, .inl fKp))]) (st1 := [.int (sMac (xs (i + 1)) (xs (i + 2)) (xs (i + 3))), .int (sMac (xs (i + 1)) (xs (i + 2)) (xs (i + 3)))]) ⟨hx, hb, hml, hown, hts⟩ hT hP hD hS (k_X4_machine l D cI cZ aO Q P M Wd aOw aDg aWk aSm aFo aBk fo ba le sf aIm aKp (xs (i + 1)) (xs (i + 2)) (xs (i + 3))) gL_law_X4_machine rfl rfl nd_X4_machine [10] (by decide) rfl rfl rfl rfl (ci := 4) rfl rfl (q0 := 10) rfl hl.1 rfl rfl (Nat.le_of_ble_eq_true rfl) ⟨Nat.le_of_ble_eq_true rfl, Nat.le_of_ble_eq_true rfl⟩ ⟨rfl, rfl⟩ ⟨Nat.le_of_ble_eq_true rfl, Nat.le_of_ble_eq_true rfl⟩ dL_law_155 (fun H locs hP hD hS => ?_)
      refine lv_icmp_eq (tgt := 634) hx hb dL_law_158 (by decide) (fun c_4 => ?_) (fun c_4 => absurd rfl c_4)
      refine lv_iinc (v := nI (i + 4)) (lv' := [(3, .int (nI (i + 4))), (0, .ref b), (1, .ref aS), (2, .ref aO)]) hx hb dL_law_634 hl (k := 3) rfl (nI_add i 4) (by decide) rfl (fun ls hl => ?_)
      refine lv_goto (tgt := 18) hx hb dL_law_637 (by decide) ?_
      exact ih (i + 4) _ _ _ _ _ _ _ _ _ _ _ _ _ _ _ _ _ _ _ _ _ _ _ _ _ (by omega) (by omega) (mv_mc hv _ _ _) (himg) _ _ hP hD hS ls (lv_sub hl [1, 2, 3, 0] rfl)
    by_cases w_5 : wt = 1
    · refine lv_tableIn (off := 131) (tgt := 163) hx hb dL_law_32 (by rw [w_5]; decide) (by rw [w_5]; decide) (by rw [w_5]; decide) (by decide) ?_
      refine lv_aload_n hx hb dL_law_163 rfl (lv_at hl 1 rfl) ?_
      refine lv_aload_n hx hb dL_law_164 rfl (lv_at hl 0 rfl) ?_
      refine lv_iload_n hx hb dL_law_165 rfl (lv_at hl 3 rfl) ?_
      refine lv_iconst (v := 1) hx hb dL_law_166 (by decide) ?_
      refine lv_iadd hx hb dL_law_167 ?_
      refine top_eq (z := (nI (i + 1))) (by exact nI_add i 1) ?_
      refine ld_s hx hb hX hbl hbA hS (i + 1) rfl (by omega) (by omega) dL_law_168 ?_
      refine mu_V (As := [.int (xs (i + 1))]) (rest := []) (W1 := [(aS, .inr (3, [.ref aM, .ref aR, .ref aJ, .ref aF, .ref aG, .ref aI])), (aM, .inr (1, [.int (nI Q), .int (nI P), .int (nI M), .int (nI (wdT Q Wd (xs (i + 1)))), .int (nI (tT Q P)), .int (nI (tN Q P))])), (aR, .inr (2, [.ref aN, .int (nI (dgN (tN Q P))), .int (nI (tN Q P))])), (aJ, .inr (0, [.int (nI fw), .int (nI sh), .int (nI wy), .int (nI bk), .ref aU, .ref aV])), (aN, .inl (cI, 49, .inl (cyR (tN Q P)))), (aF, .inl (cI, 48, .inl fF)), (aG, .inl (cI, 48, .inl fG)), (aI, .inl (cI, 8, .inl fI)), (aU, .inl (cI, 48, .inl fU)), (aV, .inl (cI, 48, .inl fV)), (aO, .inr (4, [.int (nI Q), .int (nI P), .int (nI M), .int (nI Wd), .ref aOw, .ref aDg, .ref aWk, .ref aSm, .ref aFo, .ref aBk, .int (nI fo), .int (nI ba), .int (nI le), .int (nI sf), .ref aIm, .ref aKp])), (aOw, .inl (cI, 2401, .inl fOw)), (aDg, .inl (cI, 49, .inl fDg)), (aWk, .inl (cI, 49, .inl fWk)), (aSm, .inl (cI, 98, .inl sm)), (aFo, .inl (cI, 48, .inl fFo)), (aBk, .inl (cI, 48, .inl fBk)), (aIm, .inl (cI, 8, .inl fIm)), (aKp, .inl (cZ, 2, .inl fKp))]) (st1 := [.int (sWid Q Wd (xs (i + 1)))]) ⟨hx, hb, hml, hown, hts⟩ hT hP hD hS (k_X3_width l D cI cZ aS aM aR aJ aF aG aI Q P M Wd (xs (i + 1)) hv) gL_law_X3_width rfl rfl nd_X3_width [0, 1] (by decide) rfl rfl rfl rfl (ci := 3) rfl rfl (q0 := 0) rfl hl.1 rfl rfl (Nat.le_of_ble_eq_true rfl) ⟨Nat.le_of_ble_eq_true rfl, Nat.le_of_ble_eq_true rfl⟩ ⟨rfl, rfl⟩ ⟨Nat.le_of_ble_eq_true rfl, Nat.le_of_ble_eq_true rfl⟩ dL_law_169 (fun H locs hP hD hS => ?_)
      refine lv_aload_n hx hb dL_law_172 rfl (lv_at hl 2 rfl) ?_
      refine lv_aload_n hx hb dL_law_173 rfl (lv_at hl 0 rfl) ?_
      refine lv_iload_n hx hb dL_law_174 rfl (lv_at hl 3 rfl) ?_
      refine lv_iconst (v := 1) hx hb dL_law_175 (by decide) ?_
      refine lv_iadd hx hb dL_law_176 ?_
      refine top_eq (z := (nI (i + 1))) (by exact nI_add i 1) ?_
      refine ld_s hx hb hX hbl hbA hS (i + 1) rfl (by omega) (by omega) dL_law_177 ?_
      refine mu_V (As := [.int (xs (i + 1))]) (rest := [.int (sWid Q Wd (xs (i + 1)))]) (W1 := [(aS, .inr (3, [.ref aM, .ref aR, .ref aJ, .ref aF, .ref aG, .ref aI])), (aM, .inr (1, [.int (nI Q), .int (nI P), .int (nI M), .int (nI (wdT Q Wd (xs (i + 1)))), .int (nI (tT Q P)), .int (nI (tN Q P))])), (aR, .inr (2, [.ref aN, .int (nI (dgN (tN Q P))), .int (nI (tN Q P))])), (aJ, .inr (0, [.int (nI fw), .int (nI sh), .int (nI wy), .int (nI bk), .ref aU, .ref aV])), (aN, .inl (cI, 49, .inl (cyR (tN Q P)))), (aF, .inl (cI, 48, .inl fF)), (aG, .inl (cI, 48, .inl fG)), (aI, .inl (cI, 8, .inl fI)), (aU, .inl (cI, 48, .inl fU)), (aV, .inl (cI, 48, .inl fV)), (aO, .inr (4, [.int (nI Q), .int (nI P), .int (nI M), .int (nI (wdT Q Wd (xs (i + 1)))), .ref aOw, .ref aDg, .ref aWk, .ref aSm, .ref aFo, .ref aBk, .int (nI fo), .int (nI ba), .int (nI le), .int (nI sf), .ref aIm, .ref aKp])), (aOw, .inl (cI, 2401, .inl fOw)), (aDg, .inl (cI, 49, .inl fDg)), (aWk, .inl (cI, 49, .inl fWk)), (aSm, .inl (cI, 98, .inl sm)), (aFo, .inl (cI, 48, .inl fFo)), (aBk, .inl (cI, 48, .inl fBk)), (aIm, .inl (cI, 8, .inl fIm)), (aKp, .inl (cZ, 2, .inl fKp))]) (st1 := [.int (sWid Q Wd (xs (i + 1))), .int (sWid Q Wd (xs (i + 1)))]) ⟨hx, hb, hml, hown, hts⟩ hT hP hD hS (k_X4_width l D cI cZ aO Q P M Wd aOw aDg aWk aSm aFo aBk fo ba le sf aIm aKp (xs (i + 1)) hv) gL_law_X4_width rfl rfl nd_X4_width [10] (by decide) rfl rfl rfl rfl (ci := 4) rfl rfl (q0 := 10) rfl hl.1 rfl rfl (Nat.le_of_ble_eq_true rfl) ⟨Nat.le_of_ble_eq_true rfl, Nat.le_of_ble_eq_true rfl⟩ ⟨rfl, rfl⟩ ⟨Nat.le_of_ble_eq_true rfl, Nat.le_of_ble_eq_true rfl⟩ dL_law_178 (fun H locs hP hD hS => ?_)
      refine lv_icmp_eq (tgt := 634) hx hb dL_law_181 (by decide) (fun c_6 => ?_) (fun c_6 => absurd rfl c_6)
      refine lv_iinc (v := nI (i + 4)) (lv' := [(3, .int (nI (i + 4))), (0, .ref b), (1, .ref aS), (2, .ref aO)]) hx hb dL_law_634 hl (k := 3) rfl (nI_add i 4) (by decide) rfl (fun ls hl => ?_)
      refine lv_goto (tgt := 18) hx hb dL_law_637 (by decide) ?_
      exact ih (i + 4) _ _ _ _ _ _ _ _ _ _ _ _ _ _ _ _ _ _ _ _ _ _ _ _ _ (by omega) (by omega) (mv_wd hv _) (himg) _ _ hP hD hS ls (lv_sub hl [1, 2, 3, 0] rfl)
    by_cases w_7 : wt = 2
    · refine lv_tableIn (off := 154) (tgt := 186) hx hb dL_law_32 (by rw [w_7]; decide) (by rw [w_7]; decide) (by rw [w_7]; decide) (by decide) ?_
      refine lv_aload_n hx hb dL_law_186 rfl (lv_at hl 1 rfl) ?_
      refine ro_V (As := []) (rest := []) ⟨hx, hb, hml, hown, hts⟩ hT hP (k_X3_lacking l D cI cZ aS aM aR aJ aF aG aI Q P M Wd hv) gL_law_X3_lacking rfl rfl nd_X3_lacking [0, 1] rfl (ci := 3) rfl rfl (q0 := 0) rfl hl.1 rfl rfl (Nat.le_of_ble_eq_true rfl) ⟨Nat.le_of_ble_eq_true rfl, Nat.le_of_ble_eq_true rfl⟩ ⟨rfl, rfl⟩ ⟨Nat.le_of_ble_eq_true rfl, Nat.le_of_ble_eq_true rfl⟩ dL_law_187 ?_
      refine lv_aload_n hx hb dL_law_190 rfl (lv_at hl 2 rfl) ?_
      refine ro_V (As := []) (rest := [.int (nI (lck Q P M))]) ⟨hx, hb, hml, hown, hts⟩ hT hP (k_X4_lacking l D cI cZ aO Q P M Wd aOw aDg aWk aSm aFo aBk fo ba le sf aIm aKp hv) gL_law_X4_lacking rfl rfl nd_X4_lacking [10] rfl (ci := 4) rfl rfl (q0 := 10) rfl hl.1 rfl rfl (Nat.le_of_ble_eq_true rfl) ⟨Nat.le_of_ble_eq_true rfl, Nat.le_of_ble_eq_true rfl⟩ ⟨rfl, rfl⟩ ⟨Nat.le_of_ble_eq_true rfl, Nat.le_of_ble_eq_true rfl⟩ dL_law_191 ?_
      refine lv_icmp_eq (tgt := 634) hx hb dL_law_194 (by decide) (fun c_8 => ?_) (fun c_8 => absurd rfl c_8)
      refine lv_iinc (v := nI (i + 4)) (lv' := [(3, .int (nI (i + 4))), (0, .ref b), (1, .ref aS), (2, .ref aO)]) hx hb dL_law_634 hl (k := 3) rfl (nI_add i 4) (by decide) rfl (fun ls hl => ?_)
      refine lv_goto (tgt := 18) hx hb dL_law_637 (by decide) ?_
      exact ih (i + 4) _ _ _ _ _ _ _ _ _ _ _ _ _ _ _ _ _ _ _ _ _ _ _ _ _ (by omega) (by omega) (hv) (himg) _ _ hP hD hS ls (lv_sub hl [1, 2, 3, 0] rfl)
    by_cases w_9 : wt = 3
    · refine lv_tableIn (off := 167) (tgt := 199) hx hb dL_law_32 (by rw [w_9]; decide) (by rw [w_9]; decide) (by rw [w_9]; decide) (by decide) ?_
      refine lv_aload_n hx hb dL_law_199 rfl (lv_at hl 1 rfl) ?_
      refine lv_aload_n hx hb dL_law_200 rfl (lv_at hl 0 rfl) ?_
      refine lv_iload_n hx hb dL_law_201 rfl (lv_at hl 3 rfl) ?_
      refine lv_iconst (v := 1) hx hb dL_law_202 (by decide) ?_
      refine lv_iadd hx hb dL_law_203 ?_
      refine top_eq (z := (nI (i + 1))) (by exact nI_add i 1) ?_
      refine ld_s hx hb hX hbl hbA hS (i + 1) rfl (by omega) (by omega) dL_law_204 ?_
      refine lv_aload_n hx hb dL_law_205 rfl (lv_at hl 0 rfl) ?_
      refine lv_iload_n hx hb dL_law_206 rfl (lv_at hl 3 rfl) ?_
      refine lv_iconst (v := 2) hx hb dL_law_207 (by decide) ?_
      refine lv_iadd hx hb dL_law_208 ?_
      refine top_eq (z := (nI (i + 2))) (by exact nI_add i 2) ?_
      refine ld_s hx hb hX hbl hbA hS (i + 2) rfl (by omega) (by omega) dL_law_209 ?_
      refine ro_V (As := [.int (xs (i + 1)), .int (xs (i + 2))]) (rest := []) ⟨hx, hb, hml, hown, hts⟩ hT hP (k_X3_slot l D cI cZ aS aM aR aJ aF aG aI Q P M Wd (xs (i + 1)) (xs (i + 2)) hv) gL_law_X3_slot rfl rfl nd_X3_slot [0, 1] rfl (ci := 3) rfl rfl (q0 := 0) rfl hl.1 rfl rfl (Nat.le_of_ble_eq_true rfl) ⟨Nat.le_of_ble_eq_true rfl, Nat.le_of_ble_eq_true rfl⟩ ⟨rfl, rfl⟩ ⟨Nat.le_of_ble_eq_true rfl, Nat.le_of_ble_eq_true rfl⟩ dL_law_210 ?_
      refine lv_aload_n hx hb dL_law_213 rfl (lv_at hl 2 rfl) ?_
      refine lv_aload_n hx hb dL_law_214 rfl (lv_at hl 0 rfl) ?_
      refine lv_iload_n hx hb dL_law_215 rfl (lv_at hl 3 rfl) ?_
      refine lv_iconst (v := 1) hx hb dL_law_216 (by decide) ?_
      refine lv_iadd hx hb dL_law_217 ?_
      refine top_eq (z := (nI (i + 1))) (by exact nI_add i 1) ?_
      refine ld_s hx hb hX hbl hbA hS (i + 1) rfl (by omega) (by omega) dL_law_218 ?_
      refine lv_aload_n hx hb dL_law_219 rfl (lv_at hl 0 rfl) ?_
      refine lv_iload_n hx hb dL_law_220 rfl (lv_at hl 3 rfl) ?_
      refine lv_iconst (v := 2) hx hb dL_law_221 (by decide) ?_
      refine lv_iadd hx hb dL_law_222 ?_
      refine top_eq (z := (nI (i + 2))) (by exact nI_add i 2) ?_
      refine ld_s hx hb hX hbl hbA hS (i + 2) rfl (by omega) (by omega) dL_law_223 ?_
      refine ro_V (As := [.int (xs (i + 1)), .int (xs (i + 2))]) (rest := [.int (sSlot Q P M Wd (xs (i + 1)) (xs (i + 2)))]) ⟨hx, hb, hml, hown, hts⟩ hT hP (k_X4_slot l D cI cZ aO Q P M Wd aOw aDg aWk aSm aFo aBk fo ba le sf aIm aKp (xs (i + 1)) (xs (i + 2)) hv) gL_law_X4_slot rfl rfl nd_X4_slot [10] rfl (ci := 4) rfl rfl (q0 := 10) rfl hl.1 rfl rfl (Nat.le_of_ble_eq_true rfl) ⟨Nat.le_of_ble_eq_true rfl, Nat.le_of_ble_eq_true rfl⟩ ⟨rfl, rfl⟩ ⟨Nat.le_of_ble_eq_true rfl, Nat.le_of_ble_eq_true rfl⟩ dL_law_224 ?_
      refine lv_icmp_eq (tgt := 634) hx hb dL_law_227 (by decide) (fun c_10 => ?_) (fun c_10 => absurd rfl c_10)
      refine lv_iinc (v := nI (i + 4)) (lv' := [(3, .int (nI (i + 4))), (0, .ref b), (1, .ref aS), (2, .ref aO)]) hx hb dL_law_634 hl (k := 3) rfl (nI_add i 4) (by decide) rfl (fun ls hl => ?_)
      refine lv_goto (tgt := 18) hx hb dL_law_637 (by decide) ?_
      exact ih (i + 4) _ _ _ _ _ _ _ _ _ _ _ _ _ _ _ _ _ _ _ _ _ _ _ _ _ (by omega) (by omega) (hv) (himg) _ _ hP hD hS ls (lv_sub hl [1, 2, 3, 0] rfl)
    by_cases w_11 : wt = 4
    · refine lv_tableIn (off := 200) (tgt := 232) hx hb dL_law_32 (by rw [w_11]; decide) (by rw [w_11]; decide) (by rw [w_11]; decide) (by decide) ?_
      refine lv_aload_n hx hb dL_law_232 rfl (lv_at hl 1 rfl) ?_
      refine lv_aload_n hx hb dL_law_233 rfl (lv_at hl 0 rfl) ?_
      refine lv_iload_n hx hb dL_law_234 rfl (lv_at hl 3 rfl) ?_
      refine lv_iconst (v := 1) hx hb dL_law_235 (by decide) ?_
      refine lv_iadd hx hb dL_law_236 ?_
      refine top_eq (z := (nI (i + 1))) (by exact nI_add i 1) ?_
      refine ld_s hx hb hX hbl hbA hS (i + 1) rfl (by omega) (by omega) dL_law_237 ?_
      refine lv_aload_n hx hb dL_law_238 rfl (lv_at hl 0 rfl) ?_
      refine lv_iload_n hx hb dL_law_239 rfl (lv_at hl 3 rfl) ?_
      refine lv_iconst (v := 2) hx hb dL_law_240 (by decide) ?_
      refine lv_iadd hx hb dL_law_241 ?_
      refine top_eq (z := (nI (i + 2))) (by exact nI_add i 2) ?_
      refine ld_s hx hb hX hbl hbA hS (i + 2) rfl (by omega) (by omega) dL_law_242 ?_
      refine ro_V (As := [.int (xs (i + 1)), .int (xs (i + 2))]) (rest := []) ⟨hx, hb, hml, hown, hts⟩ hT hP (k_X3_phase l D cI cZ aS aM aR aJ aF aG aI Q P M Wd (xs (i + 1)) (xs (i + 2)) hv) gL_law_X3_phase rfl rfl nd_X3_phase [0, 1] rfl (ci := 3) rfl rfl (q0 := 0) rfl hl.1 rfl rfl (Nat.le_of_ble_eq_true rfl) ⟨Nat.le_of_ble_eq_true rfl, Nat.le_of_ble_eq_true rfl⟩ ⟨rfl, rfl⟩ ⟨Nat.le_of_ble_eq_true rfl, Nat.le_of_ble_eq_true rfl⟩ dL_law_243 ?_
      refine lv_aload_n hx hb dL_law_246 rfl (lv_at hl 2 rfl) ?_
      refine lv_aload_n hx hb dL_law_247 rfl (lv_at hl 0 rfl) ?_
      refine lv_iload_n hx hb dL_law_248 rfl (lv_at hl 3 rfl) ?_
      refine lv_iconst (v := 1) hx hb dL_law_249 (by decide) ?_
      refine lv_iadd hx hb dL_law_250 ?_
      refine top_eq (z := (nI (i + 1))) (by exact nI_add i 1) ?_
      refine ld_s hx hb hX hbl hbA hS (i + 1) rfl (by omega) (by omega) dL_law_251 ?_
      refine lv_aload_n hx hb dL_law_252 rfl (lv_at hl 0 rfl) ?_
      refine lv_iload_n hx hb dL_law_253 rfl (lv_at hl 3 rfl) ?_
      refine lv_iconst (v := 2) hx hb dL_law_254 (by decide) ?_
      refine lv_iadd hx hb dL_law_255 ?_
      refine top_eq (z := (nI (i + 2))) (by exact nI_add i 2) ?_
      refine ld_s hx hb hX hbl hbA hS (i + 2) rfl (by omega) (by omega) dL_law_256 ?_
      refine ro_V (As := [.int (xs (i + 1)), .int (xs (i + 2))]) (rest := [.int (sPhase Q P M (xs (i + 1)) (xs (i + 2)))]) ⟨hx, hb, hml, hown, hts⟩ hT hP (k_X4_phase l D cI cZ aO Q P M Wd aOw aDg aWk aSm aFo aBk fo ba le sf aIm aKp (xs (i + 1)) (xs (i + 2)) hv) gL_law_X4_phase rfl rfl nd_X4_phase [10] rfl (ci := 4) rfl rfl (q0 := 10) rfl hl.1 rfl rfl (Nat.le_of_ble_eq_true rfl) ⟨Nat.le_of_ble_eq_true rfl, Nat.le_of_ble_eq_true rfl⟩ ⟨rfl, rfl⟩ ⟨Nat.le_of_ble_eq_true rfl, Nat.le_of_ble_eq_true rfl⟩ dL_law_257 ?_
      refine lv_icmp_eq (tgt := 634) hx hb dL_law_260 (by decide) (fun c_12 => ?_) (fun c_12 => absurd rfl c_12)
      refine lv_iinc (v := nI (i + 4)) (lv' := [(3, .int (nI (i + 4))), (0, .ref b), (1, .ref aS), (2, .ref aO)]) hx hb dL_law_634 hl (k := 3) rfl (nI_add i 4) (by decide) rfl (fun ls hl => ?_)
      refine lv_goto (tgt := 18) hx hb dL_law_637 (by decide) ?_
      exact ih (i + 4) _ _ _ _ _ _ _ _ _ _ _ _ _ _ _ _ _ _ _ _ _ _ _ _ _ (by omega) (by omega) (hv) (himg) _ _ hP hD hS ls (lv_sub hl [1, 2, 3, 0] rfl)
    by_cases w_13 : wt = 5
    · refine lv_tableIn (off := 233) (tgt := 265) hx hb dL_law_32 (by rw [w_13]; decide) (by rw [w_13]; decide) (by rw [w_13]; decide) (by decide) ?_
      refine lv_aload_n hx hb dL_law_265 rfl (lv_at hl 1 rfl) ?_
      refine lv_aload_n hx hb dL_law_266 rfl (lv_at hl 0 rfl) ?_
      refine lv_iload_n hx hb dL_law_267 rfl (lv_at hl 3 rfl) ?_
      refine lv_iconst (v := 1) hx hb dL_law_268 (by decide) ?_
      refine lv_iadd hx hb dL_law_269 ?_
      refine top_eq (z := (nI (i + 1))) (by exact nI_add i 1) ?_
      refine ld_s hx hb hX hbl hbA hS (i + 1) rfl (by omega) (by omega) dL_law_270 ?_
      refine lv_aload_n hx hb dL_law_271 rfl (lv_at hl 0 rfl) ?_
      refine lv_iload_n hx hb dL_law_272 rfl (lv_at hl 3 rfl) ?_
      refine lv_iconst (v := 2) hx hb dL_law_273 (by decide) ?_
      refine lv_iadd hx hb dL_law_274 ?_
      refine top_eq (z := (nI (i + 2))) (by exact nI_add i 2) ?_
      refine ld_s hx hb hX hbl hbA hS (i + 2) rfl (by omega) (by omega) dL_law_275 ?_
      refine ro_V (As := [.int (xs (i + 1)), .int (xs (i + 2))]) (rest := []) ⟨hx, hb, hml, hown, hts⟩ hT hP (k_X3_layer l D cI cZ aS aM aR aJ aF aG aI Q P M Wd (xs (i + 1)) (xs (i + 2)) hv) gL_law_X3_layer rfl rfl nd_X3_layer [0, 1] rfl (ci := 3) rfl rfl (q0 := 0) rfl hl.1 rfl rfl (Nat.le_of_ble_eq_true rfl) ⟨Nat.le_of_ble_eq_true rfl, Nat.le_of_ble_eq_true rfl⟩ ⟨rfl, rfl⟩ ⟨Nat.le_of_ble_eq_true rfl, Nat.le_of_ble_eq_true rfl⟩ dL_law_276 ?_
      refine lv_aload_n hx hb dL_law_279 rfl (lv_at hl 2 rfl) ?_
      refine lv_aload_n hx hb dL_law_280 rfl (lv_at hl 0 rfl) ?_
      refine lv_iload_n hx hb dL_law_281 rfl (lv_at hl 3 rfl) ?_
      refine lv_iconst (v := 1) hx hb dL_law_282 (by decide) ?_
      refine lv_iadd hx hb dL_law_283 ?_
      refine top_eq (z := (nI (i + 1))) (by exact nI_add i 1) ?_
      refine ld_s hx hb hX hbl hbA hS (i + 1) rfl (by omega) (by omega) dL_law_284 ?_
      refine lv_aload_n hx hb dL_law_285 rfl (lv_at hl 0 rfl) ?_
      refine lv_iload_n hx hb dL_law_286 rfl (lv_at hl 3 rfl) ?_
      refine lv_iconst (v := 2) hx hb dL_law_287 (by decide) ?_
      refine lv_iadd hx hb dL_law_288 ?_
      refine top_eq (z := (nI (i + 2))) (by exact nI_add i 2) ?_
      refine ld_s hx hb hX hbl hbA hS (i + 2) rfl (by omega) (by omega) dL_law_289 ?_
      refine ro_V (As := [.int (xs (i + 1)), .int (xs (i + 2))]) (rest := [.int (sLayer Q P M Wd (xs (i + 1)) (xs (i + 2)))]) ⟨hx, hb, hml, hown, hts⟩ hT hP (k_X4_layer l D cI cZ aO Q P M Wd aOw aDg aWk aSm aFo aBk fo ba le sf aIm aKp (xs (i + 1)) (xs (i + 2)) hv) gL_law_X4_layer rfl rfl nd_X4_layer [10] rfl (ci := 4) rfl rfl (q0 := 10) rfl hl.1 rfl rfl (Nat.le_of_ble_eq_true rfl) ⟨Nat.le_of_ble_eq_true rfl, Nat.le_of_ble_eq_true rfl⟩ ⟨rfl, rfl⟩ ⟨Nat.le_of_ble_eq_true rfl, Nat.le_of_ble_eq_true rfl⟩ dL_law_290 ?_
      refine lv_icmp_eq (tgt := 634) hx hb dL_law_293 (by decide) (fun c_14 => ?_) (fun c_14 => absurd rfl c_14)
      refine lv_iinc (v := nI (i + 4)) (lv' := [(3, .int (nI (i + 4))), (0, .ref b), (1, .ref aS), (2, .ref aO)]) hx hb dL_law_634 hl (k := 3) rfl (nI_add i 4) (by decide) rfl (fun ls hl => ?_)
      refine lv_goto (tgt := 18) hx hb dL_law_637 (by decide) ?_
      exact ih (i + 4) _ _ _ _ _ _ _ _ _ _ _ _ _ _ _ _ _ _ _ _ _ _ _ _ _ (by omega) (by omega) (hv) (himg) _ _ hP hD hS ls (lv_sub hl [1, 2, 3, 0] rfl)
    by_cases w_15 : wt = 6
    · refine lv_tableIn (off := 266) (tgt := 298) hx hb dL_law_32 (by rw [w_15]; decide) (by rw [w_15]; decide) (by rw [w_15]; decide) (by decide) ?_
      refine lv_aload_n hx hb dL_law_298 rfl (lv_at hl 1 rfl) ?_
      refine lv_aload_n hx hb dL_law_299 rfl (lv_at hl 0 rfl) ?_
      refine lv_iload_n hx hb dL_law_300 rfl (lv_at hl 3 rfl) ?_
      refine lv_iconst (v := 1) hx hb dL_law_301 (by decide) ?_
      refine lv_iadd hx hb dL_law_302 ?_
      refine top_eq (z := (nI (i + 1))) (by exact nI_add i 1) ?_
      refine ld_s hx hb hX hbl hbA hS (i + 1) rfl (by omega) (by omega) dL_law_303 ?_
      refine ro_V (As := [.int (xs (i + 1))]) (rest := []) ⟨hx, hb, hml, hown, hts⟩ hT hP (k_X3_each l D cI cZ aS aM aR aJ aF aG aI Q P M Wd (xs (i + 1)) hv) gL_law_X3_each rfl rfl nd_X3_each [0, 1] rfl (ci := 3) rfl rfl (q0 := 0) rfl hl.1 rfl rfl (Nat.le_of_ble_eq_true rfl) ⟨Nat.le_of_ble_eq_true rfl, Nat.le_of_ble_eq_true rfl⟩ ⟨rfl, rfl⟩ ⟨Nat.le_of_ble_eq_true rfl, Nat.le_of_ble_eq_true rfl⟩ dL_law_304 ?_
      refine lv_aload_n hx hb dL_law_307 rfl (lv_at hl 2 rfl) ?_
      refine lv_aload_n hx hb dL_law_308 rfl (lv_at hl 0 rfl) ?_
      refine lv_iload_n hx hb dL_law_309 rfl (lv_at hl 3 rfl) ?_
      refine lv_iconst (v := 1) hx hb dL_law_310 (by decide) ?_
      refine lv_iadd hx hb dL_law_311 ?_
      refine top_eq (z := (nI (i + 1))) (by exact nI_add i 1) ?_
      refine ld_s hx hb hX hbl hbA hS (i + 1) rfl (by omega) (by omega) dL_law_312 ?_
      refine ro_V (As := [.int (xs (i + 1))]) (rest := [.int (sEach Q P M (xs (i + 1)))]) ⟨hx, hb, hml, hown, hts⟩ hT hP (k_X4_each l D cI cZ aO Q P M Wd aOw aDg aWk aSm aFo aBk fo ba le sf aIm aKp (xs (i + 1)) hv) gL_law_X4_each rfl rfl nd_X4_each [10] rfl (ci := 4) rfl rfl (q0 := 10) rfl hl.1 rfl rfl (Nat.le_of_ble_eq_true rfl) ⟨Nat.le_of_ble_eq_true rfl, Nat.le_of_ble_eq_true rfl⟩ ⟨rfl, rfl⟩ ⟨Nat.le_of_ble_eq_true rfl, Nat.le_of_ble_eq_true rfl⟩ dL_law_313 ?_
      refine lv_icmp_eq (tgt := 634) hx hb dL_law_316 (by decide) (fun c_16 => ?_) (fun c_16 => absurd rfl c_16)
      refine lv_iinc (v := nI (i + 4)) (lv' := [(3, .int (nI (i + 4))), (0, .ref b), (1, .ref aS), (2, .ref aO)]) hx hb dL_law_634 hl (k := 3) rfl (nI_add i 4) (by decide) rfl (fun ls hl => ?_)
      refine lv_goto (tgt := 18) hx hb dL_law_637 (by decide) ?_
      exact ih (i + 4) _ _ _ _ _ _ _ _ _ _ _ _ _ _ _ _ _ _ _ _ _ _ _ _ _ (by omega) (by omega) (hv) (himg) _ _ hP hD hS ls (lv_sub hl [1, 2, 3, 0] rfl)
    by_cases w_17 : wt = 7
    · refine lv_tableIn (off := 289) (tgt := 321) hx hb dL_law_32 (by rw [w_17]; decide) (by rw [w_17]; decide) (by rw [w_17]; decide) (by decide) ?_
      refine lv_aload_n hx hb dL_law_321 rfl (lv_at hl 1 rfl) ?_
      refine lv_aload_n hx hb dL_law_322 rfl (lv_at hl 0 rfl) ?_
      refine lv_iload_n hx hb dL_law_323 rfl (lv_at hl 3 rfl) ?_
      refine lv_iconst (v := 1) hx hb dL_law_324 (by decide) ?_
      refine lv_iadd hx hb dL_law_325 ?_
      refine top_eq (z := (nI (i + 1))) (by exact nI_add i 1) ?_
      refine ld_s hx hb hX hbl hbA hS (i + 1) rfl (by omega) (by omega) dL_law_326 ?_
      refine ro_V (As := [.int (xs (i + 1))]) (rest := []) ⟨hx, hb, hml, hown, hts⟩ hT hP (k_X3_own l D cI cZ aS aM aR aJ aF aG aI Q P M Wd aN (xs (i + 1)) hv) gL_law_X3_own rfl rfl nd_X3_own [0, 2, 4] rfl (ci := 3) rfl rfl (q0 := 0) rfl hl.1 rfl rfl (Nat.le_of_ble_eq_true rfl) ⟨Nat.le_of_ble_eq_true rfl, Nat.le_of_ble_eq_true rfl⟩ ⟨rfl, rfl⟩ ⟨Nat.le_of_ble_eq_true rfl, Nat.le_of_ble_eq_true rfl⟩ dL_law_327 ?_
      refine lv_aload_n hx hb dL_law_330 rfl (lv_at hl 2 rfl) ?_
      refine lv_aload_n hx hb dL_law_331 rfl (lv_at hl 0 rfl) ?_
      refine lv_iload_n hx hb dL_law_332 rfl (lv_at hl 3 rfl) ?_
      refine lv_iconst (v := 1) hx hb dL_law_333 (by decide) ?_
      refine lv_iadd hx hb dL_law_334 ?_
      refine top_eq (z := (nI (i + 1))) (by exact nI_add i 1) ?_
      refine ld_s hx hb hX hbl hbA hS (i + 1) rfl (by omega) (by omega) dL_law_335 ?_
      refine me_V (As := [.int (xs (i + 1))]) (rest := [.int (sOwn (tN Q P) (xs (i + 1)))]) (st1 := [.int (sOwn (tN Q P) (xs (i + 1))), .int (sOwn (tN Q P) (xs (i + 1)))]) ⟨hx, hb, hml, hown, hts⟩ hT hP hD hS (k_X4_own l D cI cZ aO Q P M Wd aOw aDg aWk aSm aFo aBk fo ba le sf aIm aKp fOw fDg fWk (xs (i + 1)) hv) gL_law_X4_own rfl rfl nd_X4_own [10, 11, 12, 13] (by decide) rfl (by rintro u ⟨_, _, _, rfl⟩; rfl) rfl (ci := 4) rfl rfl (q0 := 10) rfl hl.1 rfl rfl (Nat.le_of_ble_eq_true rfl) ⟨Nat.le_of_ble_eq_true rfl, Nat.le_of_ble_eq_true rfl⟩ ⟨rfl, rfl⟩ ⟨Nat.le_of_ble_eq_true rfl, Nat.le_of_ble_eq_true rfl⟩ dL_law_336 (fun u H locs hB hP hD hS => ?_)
      obtain ⟨fOw2, fDg2, fWk2, rfl⟩ := hB
      have hP : va_P D cls5 [(aS, .inr (3, [.ref aM, .ref aR, .ref aJ, .ref aF, .ref aG, .ref aI])), (aM, .inr (1, [.int (nI Q), .int (nI P), .int (nI M), .int (nI Wd), .int (nI (tT Q P)), .int (nI (tN Q P))])), (aR, .inr (2, [.ref aN, .int (nI (dgN (tN Q P))), .int (nI (tN Q P))])), (aJ, .inr (0, [.int (nI fw), .int (nI sh), .int (nI wy), .int (nI bk), .ref aU, .ref aV])), (aN, .inl (cI, 49, .inl (cyR (tN Q P)))), (aF, .inl (cI, 48, .inl fF)), (aG, .inl (cI, 48, .inl fG)), (aI, .inl (cI, 8, .inl fI)), (aU, .inl (cI, 48, .inl fU)), (aV, .inl (cI, 48, .inl fV)), (aO, .inr (4, [.int (nI Q), .int (nI P), .int (nI M), .int (nI Wd), .ref aOw, .ref aDg, .ref aWk, .ref aSm, .ref aFo, .ref aBk, .int (nI fo), .int (nI ba), .int (nI le), .int (nI sf), .ref aIm, .ref aKp])), (aOw, .inl (cI, 2401, .inl fOw2)), (aDg, .inl (cI, 49, .inl fDg2)), (aWk, .inl (cI, 49, .inl fWk2)), (aSm, .inl (cI, 98, .inl sm)), (aFo, .inl (cI, 48, .inl fFo)), (aBk, .inl (cI, 48, .inl fBk)), (aIm, .inl (cI, 8, .inl fIm)), (aKp, .inl (cZ, 2, .inl fKp))] H := hP
      have hD : va_D (fun q : Nat => s.heap.size ≤ q) [(aS, .inr (3, [.ref aM, .ref aR, .ref aJ, .ref aF, .ref aG, .ref aI])), (aM, .inr (1, [.int (nI Q), .int (nI P), .int (nI M), .int (nI Wd), .int (nI (tT Q P)), .int (nI (tN Q P))])), (aR, .inr (2, [.ref aN, .int (nI (dgN (tN Q P))), .int (nI (tN Q P))])), (aJ, .inr (0, [.int (nI fw), .int (nI sh), .int (nI wy), .int (nI bk), .ref aU, .ref aV])), (aN, .inl (cI, 49, .inl (cyR (tN Q P)))), (aF, .inl (cI, 48, .inl fF)), (aG, .inl (cI, 48, .inl fG)), (aI, .inl (cI, 8, .inl fI)), (aU, .inl (cI, 48, .inl fU)), (aV, .inl (cI, 48, .inl fV)), (aO, .inr (4, [.int (nI Q), .int (nI P), .int (nI M), .int (nI Wd), .ref aOw, .ref aDg, .ref aWk, .ref aSm, .ref aFo, .ref aBk, .int (nI fo), .int (nI ba), .int (nI le), .int (nI sf), .ref aIm, .ref aKp])), (aOw, .inl (cI, 2401, .inl fOw2)), (aDg, .inl (cI, 49, .inl fDg2)), (aWk, .inl (cI, 49, .inl fWk2)), (aSm, .inl (cI, 98, .inl sm)), (aFo, .inl (cI, 48, .inl fFo)), (aBk, .inl (cI, 48, .inl fBk)), (aIm, .inl (cI, 8, .inl fIm)), (aKp, .inl (cZ, 2, .inl fKp))] := hD
      refine lv_icmp_eq (tgt := 634) hx hb dL_law_339 (by decide) (fun c_18 => ?_) (fun c_18 => absurd rfl c_18)
      refine lv_iinc (v := nI (i + 4)) (lv' := [(3, .int (nI (i + 4))), (0, .ref b), (1, .ref aS), (2, .ref aO)]) hx hb dL_law_634 hl (k := 3) rfl (nI_add i 4) (by decide) rfl (fun ls hl => ?_)
      refine lv_goto (tgt := 18) hx hb dL_law_637 (by decide) ?_
      exact ih (i + 4) _ _ _ _ _ _ _ _ _ _ _ _ _ _ _ _ _ _ _ _ _ _ _ _ _ (by omega) (by omega) (hv) (himg) _ _ hP hD hS ls (lv_sub hl [1, 2, 3, 0] rfl)
    by_cases w_19 : wt = 8
    · refine lv_tableIn (off := 312) (tgt := 344) hx hb dL_law_32 (by rw [w_19]; decide) (by rw [w_19]; decide) (by rw [w_19]; decide) (by decide) ?_
      refine lv_aload_n hx hb dL_law_344 rfl (lv_at hl 1 rfl) ?_
      refine lv_aload_n hx hb dL_law_345 rfl (lv_at hl 0 rfl) ?_
      refine lv_iload_n hx hb dL_law_346 rfl (lv_at hl 3 rfl) ?_
      refine lv_iconst (v := 1) hx hb dL_law_347 (by decide) ?_
      refine lv_iadd hx hb dL_law_348 ?_
      refine top_eq (z := (nI (i + 1))) (by exact nI_add i 1) ?_
      refine ld_s hx hb hX hbl hbA hS (i + 1) rfl (by omega) (by omega) dL_law_349 ?_
      refine lv_aload_n hx hb dL_law_350 rfl (lv_at hl 0 rfl) ?_
      refine lv_iload_n hx hb dL_law_351 rfl (lv_at hl 3 rfl) ?_
      refine lv_iconst (v := 2) hx hb dL_law_352 (by decide) ?_
      refine lv_iadd hx hb dL_law_353 ?_
      refine top_eq (z := (nI (i + 2))) (by exact nI_add i 2) ?_
      refine ld_s hx hb hX hbl hbA hS (i + 2) rfl (by omega) (by omega) dL_law_354 ?_
      refine lv_aload_n hx hb dL_law_355 rfl (lv_at hl 0 rfl) ?_
      refine lv_iload_n hx hb dL_law_356 rfl (lv_at hl 3 rfl) ?_
      refine lv_iconst (v := 3) hx hb dL_law_357 (by decide) ?_
      refine lv_iadd hx hb dL_law_358 ?_
      refine top_eq (z := (nI (i + 3))) (by exact nI_add i 3) ?_
      refine ld_s hx hb hX hbl hbA hS (i + 3) rfl (by omega) (by omega) dL_law_359 ?_
      refine mu_V (As := [.int (xs (i + 1)), .int (xs (i + 2)), .int (xs (i + 3))]) (rest := []) (W1 := [(aS, .inr (3, [.ref aM, .ref aR, .ref aJ, .ref aF, .ref aG, .ref aI])), (aM, .inr (1, [.int (nI Q), .int (nI P), .int (nI M), .int (nI Wd), .int (nI (tT Q P)), .int (nI (tN Q P))])), (aR, .inr (2, [.ref aN, .int (nI (dgN (tN Q P))), .int (nI (tN Q P))])), (aJ, .inr (0, [.int (nI fw), .int (nI sh), .int (nI wy), .int (nI bk), .ref aU, .ref aV])), (aN, .inl (cI, 49, .inl (cyR (tN Q P)))), (aF, .inl (cI, 48, .inl (fSum Q P M Wd (xs (i + 1)) (xs (i + 2)) (xs (i + 3)) fF))), (aG, .inl (cI, 48, .inl fG)), (aI, .inl (cI, 8, .inl fI)), (aU, .inl (cI, 48, .inl fU)), (aV, .inl (cI, 48, .inl fV)), (aO, .inr (4, [.int (nI Q), .int (nI P), .int (nI M), .int (nI Wd), .ref aOw, .ref aDg, .ref aWk, .ref aSm, .ref aFo, .ref aBk, .int (nI fo), .int (nI ba), .int (nI le), .int (nI sf), .ref aIm, .ref aKp])), (aOw, .inl (cI, 2401, .inl fOw)), (aDg, .inl (cI, 49, .inl fDg)), (aWk, .inl (cI, 49, .inl fWk)), (aSm, .inl (cI, 98, .inl sm)), (aFo, .inl (cI, 48, .inl fFo)), (aBk, .inl (cI, 48, .inl fBk)), (aIm, .inl (cI, 8, .inl fIm)), (aKp, .inl (cZ, 2, .inl fKp))]) (st1 := [.int (sSum Q P M Wd (xs (i + 1)) (xs (i + 2)) (xs (i + 3)))]) ⟨hx, hb, hml, hown, hts⟩ hT hP hD hS (k_X3_sum l D cI cZ aS aM aR aJ aF aG aI Q P M Wd aN fF (xs (i + 1)) (xs (i + 2)) (xs (i + 3)) hv) gL_law_X3_sum rfl rfl nd_X3_sum [0, 1, 2, 4, 5] (by decide) rfl rfl rfl rfl (ci := 3) rfl rfl (q0 := 0) rfl hl.1 rfl rfl (Nat.le_of_ble_eq_true rfl) ⟨Nat.le_of_ble_eq_true rfl, Nat.le_of_ble_eq_true rfl⟩ ⟨rfl, rfl⟩ ⟨Nat.le_of_ble_eq_true rfl, Nat.le_of_ble_eq_true rfl⟩ dL_law_360 (fun H locs hP hD hS => ?_)
      refine lv_aload_n hx hb dL_law_363 rfl (lv_at hl 2 rfl) ?_
      refine lv_aload_n hx hb dL_law_364 rfl (lv_at hl 0 rfl) ?_
      refine lv_iload_n hx hb dL_law_365 rfl (lv_at hl 3 rfl) ?_
      refine lv_iconst (v := 1) hx hb dL_law_366 (by decide) ?_
      refine lv_iadd hx hb dL_law_367 ?_
      refine top_eq (z := (nI (i + 1))) (by exact nI_add i 1) ?_
      refine ld_s hx hb hX hbl hbA hS (i + 1) rfl (by omega) (by omega) dL_law_368 ?_
      refine lv_aload_n hx hb dL_law_369 rfl (lv_at hl 0 rfl) ?_
      refine lv_iload_n hx hb dL_law_370 rfl (lv_at hl 3 rfl) ?_
      refine lv_iconst (v := 2) hx hb dL_law_371 (by decide) ?_
      refine lv_iadd hx hb dL_law_372 ?_
      refine top_eq (z := (nI (i + 2))) (by exact nI_add i 2) ?_
      refine ld_s hx hb hX hbl hbA hS (i + 2) rfl (by omega) (by omega) dL_law_373 ?_
      refine lv_aload_n hx hb dL_law_374 rfl (lv_at hl 0 rfl) ?_
      refine lv_iload_n hx hb dL_law_375 rfl (lv_at hl 3 rfl) ?_
      refine lv_iconst (v := 3) hx hb dL_law_376 (by decide) ?_
      refine lv_iadd hx hb dL_law_377 ?_
      refine top_eq (z := (nI (i + 3))) (by exact nI_add i 3) ?_
      refine ld_s hx hb hX hbl hbA hS (i + 3) rfl (by omega) (by omega) dL_law_378 ?_
      refine me_V (As := [.int (xs (i + 1)), .int (xs (i + 2)), .int (xs (i + 3))]) (rest := [.int (sSum Q P M Wd (xs (i + 1)) (xs (i + 2)) (xs (i + 3)))]) (st1 := [.int (sSum Q P M Wd (xs (i + 1)) (xs (i + 2)) (xs (i + 3))), .int (sSum Q P M Wd (xs (i + 1)) (xs (i + 2)) (xs (i + 3)))]) ⟨hx, hb, hml, hown, hts⟩ hT hP hD hS (k_X4_sum l D cI cZ aO Q P M Wd aOw aDg aWk aSm aFo aBk fo ba le sf aIm aKp fOw fDg fWk sm (xs (i + 1)) (xs (i + 2)) (xs (i + 3)) hv) gL_law_X4_sum rfl rfl nd_X4_sum [10, 11, 12, 13, 14] (by decide) rfl (by rintro u ⟨_, _, _, _, rfl⟩; rfl) rfl (ci := 4) rfl rfl (q0 := 10) rfl hl.1 rfl rfl (Nat.le_of_ble_eq_true rfl) ⟨Nat.le_of_ble_eq_true rfl, Nat.le_of_ble_eq_true rfl⟩ ⟨rfl, rfl⟩ ⟨Nat.le_of_ble_eq_true rfl, Nat.le_of_ble_eq_true rfl⟩ dL_law_379 (fun u H locs hB hP hD hS => ?_)
      obtain ⟨fOw2, fDg2, fWk2, sm2, rfl⟩ := hB
      have hP : va_P D cls5 [(aS, .inr (3, [.ref aM, .ref aR, .ref aJ, .ref aF, .ref aG, .ref aI])), (aM, .inr (1, [.int (nI Q), .int (nI P), .int (nI M), .int (nI Wd), .int (nI (tT Q P)), .int (nI (tN Q P))])), (aR, .inr (2, [.ref aN, .int (nI (dgN (tN Q P))), .int (nI (tN Q P))])), (aJ, .inr (0, [.int (nI fw), .int (nI sh), .int (nI wy), .int (nI bk), .ref aU, .ref aV])), (aN, .inl (cI, 49, .inl (cyR (tN Q P)))), (aF, .inl (cI, 48, .inl (fSum Q P M Wd (xs (i + 1)) (xs (i + 2)) (xs (i + 3)) fF))), (aG, .inl (cI, 48, .inl fG)), (aI, .inl (cI, 8, .inl fI)), (aU, .inl (cI, 48, .inl fU)), (aV, .inl (cI, 48, .inl fV)), (aO, .inr (4, [.int (nI Q), .int (nI P), .int (nI M), .int (nI Wd), .ref aOw, .ref aDg, .ref aWk, .ref aSm, .ref aFo, .ref aBk, .int (nI fo), .int (nI ba), .int (nI le), .int (nI sf), .ref aIm, .ref aKp])), (aOw, .inl (cI, 2401, .inl fOw2)), (aDg, .inl (cI, 49, .inl fDg2)), (aWk, .inl (cI, 49, .inl fWk2)), (aSm, .inl (cI, 98, .inl sm2)), (aFo, .inl (cI, 48, .inl fFo)), (aBk, .inl (cI, 48, .inl fBk)), (aIm, .inl (cI, 8, .inl fIm)), (aKp, .inl (cZ, 2, .inl fKp))] H := hP
      have hD : va_D (fun q : Nat => s.heap.size ≤ q) [(aS, .inr (3, [.ref aM, .ref aR, .ref aJ, .ref aF, .ref aG, .ref aI])), (aM, .inr (1, [.int (nI Q), .int (nI P), .int (nI M), .int (nI Wd), .int (nI (tT Q P)), .int (nI (tN Q P))])), (aR, .inr (2, [.ref aN, .int (nI (dgN (tN Q P))), .int (nI (tN Q P))])), (aJ, .inr (0, [.int (nI fw), .int (nI sh), .int (nI wy), .int (nI bk), .ref aU, .ref aV])), (aN, .inl (cI, 49, .inl (cyR (tN Q P)))), (aF, .inl (cI, 48, .inl (fSum Q P M Wd (xs (i + 1)) (xs (i + 2)) (xs (i + 3)) fF))), (aG, .inl (cI, 48, .inl fG)), (aI, .inl (cI, 8, .inl fI)), (aU, .inl (cI, 48, .inl fU)), (aV, .inl (cI, 48, .inl fV)), (aO, .inr (4, [.int (nI Q), .int (nI P), .int (nI M), .int (nI Wd), .ref aOw, .ref aDg, .ref aWk, .ref aSm, .ref aFo, .ref aBk, .int (nI fo), .int (nI ba), .int (nI le), .int (nI sf), .ref aIm, .ref aKp])), (aOw, .inl (cI, 2401, .inl fOw2)), (aDg, .inl (cI, 49, .inl fDg2)), (aWk, .inl (cI, 49, .inl fWk2)), (aSm, .inl (cI, 98, .inl sm2)), (aFo, .inl (cI, 48, .inl fFo)), (aBk, .inl (cI, 48, .inl fBk)), (aIm, .inl (cI, 8, .inl fIm)), (aKp, .inl (cZ, 2, .inl fKp))] := hD
      refine lv_icmp_eq (tgt := 634) hx hb dL_law_382 (by decide) (fun c_20 => ?_) (fun c_20 => absurd rfl c_20)
      refine lv_iinc (v := nI (i + 4)) (lv' := [(3, .int (nI (i + 4))), (0, .ref b), (1, .ref aS), (2, .ref aO)]) hx hb dL_law_634 hl (k := 3) rfl (nI_add i 4) (by decide) rfl (fun ls hl => ?_)
      refine lv_goto (tgt := 18) hx hb dL_law_637 (by decide) ?_
      exact ih (i + 4) _ _ _ _ _ _ _ _ _ _ _ _ _ _ _ _ _ _ _ _ _ _ _ _ _ (by omega) (by omega) (hv) (himg) _ _ hP hD hS ls (lv_sub hl [1, 2, 3, 0] rfl)
    by_cases w_21 : wt = 9
    · refine lv_tableIn (off := 355) (tgt := 387) hx hb dL_law_32 (by rw [w_21]; decide) (by rw [w_21]; decide) (by rw [w_21]; decide) (by decide) ?_
      refine lv_aload_n hx hb dL_law_387 rfl (lv_at hl 1 rfl) ?_
      refine lv_aload_n hx hb dL_law_388 rfl (lv_at hl 0 rfl) ?_
      refine lv_iload_n hx hb dL_law_389 rfl (lv_at hl 3 rfl) ?_
      refine lv_iconst (v := 1) hx hb dL_law_390 (by decide) ?_
      refine lv_iadd hx hb dL_law_391 ?_
      refine top_eq (z := (nI (i + 1))) (by exact nI_add i 1) ?_
      refine ld_s hx hb hX hbl hbA hS (i + 1) rfl (by omega) (by omega) dL_law_392 ?_
      refine mu_V (As := [.int (xs (i + 1))]) (rest := []) (W1 := [(aS, .inr (3, [.ref aM, .ref aR, .ref aJ, .ref aF, .ref aG, .ref aI])), (aM, .inr (1, [.int (nI Q), .int (nI P), .int (nI M), .int (nI Wd), .int (nI (tT Q P)), .int (nI (tN Q P))])), (aR, .inr (2, [.ref aN, .int (nI (dgN (tN Q P))), .int (nI (tN Q P))])), (aJ, .inr (0, [.int (nI fw), .int (nI sh), .int (nI wy), .int (nI bk), .ref aU, .ref aV])), (aN, .inl (cI, 49, .inl (cyR (tN Q P)))), (aF, .inl (cI, 48, .inl (fVan Q P M Wd (xs (i + 1)) fF))), (aG, .inl (cI, 48, .inl fG)), (aI, .inl (cI, 8, .inl fI)), (aU, .inl (cI, 48, .inl fU)), (aV, .inl (cI, 48, .inl fV)), (aO, .inr (4, [.int (nI Q), .int (nI P), .int (nI M), .int (nI Wd), .ref aOw, .ref aDg, .ref aWk, .ref aSm, .ref aFo, .ref aBk, .int (nI fo), .int (nI ba), .int (nI le), .int (nI sf), .ref aIm, .ref aKp])), (aOw, .inl (cI, 2401, .inl fOw)), (aDg, .inl (cI, 49, .inl fDg)), (aWk, .inl (cI, 49, .inl fWk)), (aSm, .inl (cI, 98, .inl sm)), (aFo, .inl (cI, 48, .inl fFo)), (aBk, .inl (cI, 48, .inl fBk)), (aIm, .inl (cI, 8, .inl fIm)), (aKp, .inl (cZ, 2, .inl fKp))]) (st1 := [.int (sVan Q P M Wd (xs (i + 1)))]) ⟨hx, hb, hml, hown, hts⟩ hT hP hD hS (k_X3_vanishes l D cI cZ aS aM aR aJ aF aG aI Q P M Wd aN fF (xs (i + 1)) hv) gL_law_X3_vanishes rfl rfl nd_X3_vanishes [0, 1, 2, 4, 5] (by decide) rfl rfl rfl rfl (ci := 3) rfl rfl (q0 := 0) rfl hl.1 rfl rfl (Nat.le_of_ble_eq_true rfl) ⟨Nat.le_of_ble_eq_true rfl, Nat.le_of_ble_eq_true rfl⟩ ⟨rfl, rfl⟩ ⟨Nat.le_of_ble_eq_true rfl, Nat.le_of_ble_eq_true rfl⟩ dL_law_393 (fun H locs hP hD hS => ?_)
      refine lv_aload_n hx hb dL_law_396 rfl (lv_at hl 2 rfl) ?_
      refine lv_aload_n hx hb dL_law_397 rfl (lv_at hl 0 rfl) ?_
      refine lv_iload_n hx hb dL_law_398 rfl (lv_at hl 3 rfl) ?_
      refine lv_iconst (v := 1) hx hb dL_law_399 (by decide) ?_
      refine lv_iadd hx hb dL_law_400 ?_
      refine top_eq (z := (nI (i + 1))) (by exact nI_add i 1) ?_
      refine ld_s hx hb hX hbl hbA hS (i + 1) rfl (by omega) (by omega) dL_law_401 ?_
      refine me_V (As := [.int (xs (i + 1))]) (rest := [.int (sVan Q P M Wd (xs (i + 1)))]) (st1 := [.int (sVan Q P M Wd (xs (i + 1))), .int (sVan Q P M Wd (xs (i + 1)))]) ⟨hx, hb, hml, hown, hts⟩ hT hP hD hS (k_X4_vanishes l D cI cZ aO Q P M Wd aOw aDg aWk aSm aFo aBk fo ba le sf aIm aKp fOw fDg fWk sm (xs (i + 1)) hv) gL_law_X4_vanishes rfl rfl nd_X4_vanishes [10, 11, 12, 13, 14] (by decide) rfl (by rintro u ⟨_, _, _, _, rfl⟩; rfl) rfl (ci := 4) rfl rfl (q0 := 10) rfl hl.1 rfl rfl (Nat.le_of_ble_eq_true rfl) ⟨Nat.le_of_ble_eq_true rfl, Nat.le_of_ble_eq_true rfl⟩ ⟨rfl, rfl⟩ ⟨Nat.le_of_ble_eq_true rfl, Nat.le_of_ble_eq_true rfl⟩ dL_law_402 (fun u H locs hB hP hD hS => ?_)
      obtain ⟨fOw2, fDg2, fWk2, sm2, rfl⟩ := hB
      have hP : va_P D cls5 [(aS, .inr (3, [.ref aM, .ref aR, .ref aJ, .ref aF, .ref aG, .ref aI])), (aM, .inr (1, [.int (nI Q), .int (nI P), .int (nI M), .int (nI Wd), .int (nI (tT Q P)), .int (nI (tN Q P))])), (aR, .inr (2, [.ref aN, .int (nI (dgN (tN Q P))), .int (nI (tN Q P))])), (aJ, .inr (0, [.int (nI fw), .int (nI sh), .int (nI wy), .int (nI bk), .ref aU, .ref aV])), (aN, .inl (cI, 49, .inl (cyR (tN Q P)))), (aF, .inl (cI, 48, .inl (fVan Q P M Wd (xs (i + 1)) fF))), (aG, .inl (cI, 48, .inl fG)), (aI, .inl (cI, 8, .inl fI)), (aU, .inl (cI, 48, .inl fU)), (aV, .inl (cI, 48, .inl fV)), (aO, .inr (4, [.int (nI Q), .int (nI P), .int (nI M), .int (nI Wd), .ref aOw, .ref aDg, .ref aWk, .ref aSm, .ref aFo, .ref aBk, .int (nI fo), .int (nI ba), .int (nI le), .int (nI sf), .ref aIm, .ref aKp])), (aOw, .inl (cI, 2401, .inl fOw2)), (aDg, .inl (cI, 49, .inl fDg2)), (aWk, .inl (cI, 49, .inl fWk2)), (aSm, .inl (cI, 98, .inl sm2)), (aFo, .inl (cI, 48, .inl fFo)), (aBk, .inl (cI, 48, .inl fBk)), (aIm, .inl (cI, 8, .inl fIm)), (aKp, .inl (cZ, 2, .inl fKp))] H := hP
      have hD : va_D (fun q : Nat => s.heap.size ≤ q) [(aS, .inr (3, [.ref aM, .ref aR, .ref aJ, .ref aF, .ref aG, .ref aI])), (aM, .inr (1, [.int (nI Q), .int (nI P), .int (nI M), .int (nI Wd), .int (nI (tT Q P)), .int (nI (tN Q P))])), (aR, .inr (2, [.ref aN, .int (nI (dgN (tN Q P))), .int (nI (tN Q P))])), (aJ, .inr (0, [.int (nI fw), .int (nI sh), .int (nI wy), .int (nI bk), .ref aU, .ref aV])), (aN, .inl (cI, 49, .inl (cyR (tN Q P)))), (aF, .inl (cI, 48, .inl (fVan Q P M Wd (xs (i + 1)) fF))), (aG, .inl (cI, 48, .inl fG)), (aI, .inl (cI, 8, .inl fI)), (aU, .inl (cI, 48, .inl fU)), (aV, .inl (cI, 48, .inl fV)), (aO, .inr (4, [.int (nI Q), .int (nI P), .int (nI M), .int (nI Wd), .ref aOw, .ref aDg, .ref aWk, .ref aSm, .ref aFo, .ref aBk, .int (nI fo), .int (nI ba), .int (nI le), .int (nI sf), .ref aIm, .ref aKp])), (aOw, .inl (cI, 2401, .inl fOw2)), (aDg, .inl (cI, 49, .inl fDg2)), (aWk, .inl (cI, 49, .inl fWk2)), (aSm, .inl (cI, 98, .inl sm2)), (aFo, .inl (cI, 48, .inl fFo)), (aBk, .inl (cI, 48, .inl fBk)), (aIm, .inl (cI, 8, .inl fIm)), (aKp, .inl (cZ, 2, .inl fKp))] := hD
      refine lv_icmp_eq (tgt := 634) hx hb dL_law_405 (by decide) (fun c_22 => ?_) (fun c_22 => absurd rfl c_22)
      refine lv_iinc (v := nI (i + 4)) (lv' := [(3, .int (nI (i + 4))), (0, .ref b), (1, .ref aS), (2, .ref aO)]) hx hb dL_law_634 hl (k := 3) rfl (nI_add i 4) (by decide) rfl (fun ls hl => ?_)
      refine lv_goto (tgt := 18) hx hb dL_law_637 (by decide) ?_
      exact ih (i + 4) _ _ _ _ _ _ _ _ _ _ _ _ _ _ _ _ _ _ _ _ _ _ _ _ _ (by omega) (by omega) (hv) (himg) _ _ hP hD hS ls (lv_sub hl [1, 2, 3, 0] rfl)
    by_cases w_23 : wt = 10
    · refine lv_tableIn (off := 378) (tgt := 410) hx hb dL_law_32 (by rw [w_23]; decide) (by rw [w_23]; decide) (by rw [w_23]; decide) (by decide) ?_
      refine lv_aload_n hx hb dL_law_410 rfl (lv_at hl 1 rfl) ?_
      refine lv_aload_n hx hb dL_law_411 rfl (lv_at hl 0 rfl) ?_
      refine lv_iload_n hx hb dL_law_412 rfl (lv_at hl 3 rfl) ?_
      refine lv_iconst (v := 1) hx hb dL_law_413 (by decide) ?_
      refine lv_iadd hx hb dL_law_414 ?_
      refine top_eq (z := (nI (i + 1))) (by exact nI_add i 1) ?_
      refine ld_s hx hb hX hbl hbA hS (i + 1) rfl (by omega) (by omega) dL_law_415 ?_
      refine mu_V (As := [.int (xs (i + 1))]) (rest := []) (W1 := [(aS, .inr (3, [.ref aM, .ref aR, .ref aJ, .ref aF, .ref aG, .ref aI])), (aM, .inr (1, [.int (nI Q), .int (nI P), .int (nI M), .int (nI Wd), .int (nI (tT Q P)), .int (nI (tN Q P))])), (aR, .inr (2, [.ref aN, .int (nI (dgN (tN Q P))), .int (nI (tN Q P))])), (aJ, .inr (0, [.int (nI fw), .int (nI sh), .int (nI wy), .int (nI bk), .ref aU, .ref aV])), (aN, .inl (cI, 49, .inl (cyR (tN Q P)))), (aF, .inl (cI, 48, .inl (fCho Q P M (xs (i + 1)) fF))), (aG, .inl (cI, 48, .inl fG)), (aI, .inl (cI, 8, .inl fI)), (aU, .inl (cI, 48, .inl fU)), (aV, .inl (cI, 48, .inl fV)), (aO, .inr (4, [.int (nI Q), .int (nI P), .int (nI M), .int (nI Wd), .ref aOw, .ref aDg, .ref aWk, .ref aSm, .ref aFo, .ref aBk, .int (nI fo), .int (nI ba), .int (nI le), .int (nI sf), .ref aIm, .ref aKp])), (aOw, .inl (cI, 2401, .inl fOw)), (aDg, .inl (cI, 49, .inl fDg)), (aWk, .inl (cI, 49, .inl fWk)), (aSm, .inl (cI, 98, .inl sm)), (aFo, .inl (cI, 48, .inl fFo)), (aBk, .inl (cI, 48, .inl fBk)), (aIm, .inl (cI, 8, .inl fIm)), (aKp, .inl (cZ, 2, .inl fKp))]) (st1 := [.int (sCho Q P M (xs (i + 1)))]) ⟨hx, hb, hml, hown, hts⟩ hT hP hD hS (k_X3_choose l D cI cZ aS aM aR aJ aF aG aI Q P M Wd aN fF (xs (i + 1)) hv) gL_law_X3_choose rfl rfl nd_X3_choose [0, 1, 2, 4, 5] (by decide) rfl rfl rfl rfl (ci := 3) rfl rfl (q0 := 0) rfl hl.1 rfl rfl (Nat.le_of_ble_eq_true rfl) ⟨Nat.le_of_ble_eq_true rfl, Nat.le_of_ble_eq_true rfl⟩ ⟨rfl, rfl⟩ ⟨Nat.le_of_ble_eq_true rfl, Nat.le_of_ble_eq_true rfl⟩ dL_law_416 (fun H locs hP hD hS => ?_)
      refine lv_aload_n hx hb dL_law_419 rfl (lv_at hl 2 rfl) ?_
      refine lv_aload_n hx hb dL_law_420 rfl (lv_at hl 0 rfl) ?_
      refine lv_iload_n hx hb dL_law_421 rfl (lv_at hl 3 rfl) ?_
      refine lv_iconst (v := 1) hx hb dL_law_422 (by decide) ?_
      refine lv_iadd hx hb dL_law_423 ?_
      refine top_eq (z := (nI (i + 1))) (by exact nI_add i 1) ?_
      refine ld_s hx hb hX hbl hbA hS (i + 1) rfl (by omega) (by omega) dL_law_424 ?_
      refine me_V (As := [.int (xs (i + 1))]) (rest := [.int (sCho Q P M (xs (i + 1)))]) (st1 := [.int (sCho Q P M (xs (i + 1))), .int (sCho Q P M (xs (i + 1)))]) ⟨hx, hb, hml, hown, hts⟩ hT hP hD hS (k_X4_choose l D cI cZ aO Q P M Wd aOw aDg aWk aSm aFo aBk fo ba le sf aIm aKp fOw fDg fWk sm (xs (i + 1)) hv) gL_law_X4_choose rfl rfl nd_X4_choose [10, 11, 12, 13, 14] (by decide) rfl (by rintro u ⟨_, _, _, _, rfl⟩; rfl) rfl (ci := 4) rfl rfl (q0 := 10) rfl hl.1 rfl rfl (Nat.le_of_ble_eq_true rfl) ⟨Nat.le_of_ble_eq_true rfl, Nat.le_of_ble_eq_true rfl⟩ ⟨rfl, rfl⟩ ⟨Nat.le_of_ble_eq_true rfl, Nat.le_of_ble_eq_true rfl⟩ dL_law_425 (fun u H locs hB hP hD hS => ?_)
      obtain ⟨fOw2, fDg2, fWk2, sm2, rfl⟩ := hB
      have hP : va_P D cls5 [(aS, .inr (3, [.ref aM, .ref aR, .ref aJ, .ref aF, .ref aG, .ref aI])), (aM, .inr (1, [.int (nI Q), .int (nI P), .int (nI M), .int (nI Wd), .int (nI (tT Q P)), .int (nI (tN Q P))])), (aR, .inr (2, [.ref aN, .int (nI (dgN (tN Q P))), .int (nI (tN Q P))])), (aJ, .inr (0, [.int (nI fw), .int (nI sh), .int (nI wy), .int (nI bk), .ref aU, .ref aV])), (aN, .inl (cI, 49, .inl (cyR (tN Q P)))), (aF, .inl (cI, 48, .inl (fCho Q P M (xs (i + 1)) fF))), (aG, .inl (cI, 48, .inl fG)), (aI, .inl (cI, 8, .inl fI)), (aU, .inl (cI, 48, .inl fU)), (aV, .inl (cI, 48, .inl fV)), (aO, .inr (4, [.int (nI Q), .int (nI P), .int (nI M), .int (nI Wd), .ref aOw, .ref aDg, .ref aWk, .ref aSm, .ref aFo, .ref aBk, .int (nI fo), .int (nI ba), .int (nI le), .int (nI sf), .ref aIm, .ref aKp])), (aOw, .inl (cI, 2401, .inl fOw2)), (aDg, .inl (cI, 49, .inl fDg2)), (aWk, .inl (cI, 49, .inl fWk2)), (aSm, .inl (cI, 98, .inl sm2)), (aFo, .inl (cI, 48, .inl fFo)), (aBk, .inl (cI, 48, .inl fBk)), (aIm, .inl (cI, 8, .inl fIm)), (aKp, .inl (cZ, 2, .inl fKp))] H := hP
      have hD : va_D (fun q : Nat => s.heap.size ≤ q) [(aS, .inr (3, [.ref aM, .ref aR, .ref aJ, .ref aF, .ref aG, .ref aI])), (aM, .inr (1, [.int (nI Q), .int (nI P), .int (nI M), .int (nI Wd), .int (nI (tT Q P)), .int (nI (tN Q P))])), (aR, .inr (2, [.ref aN, .int (nI (dgN (tN Q P))), .int (nI (tN Q P))])), (aJ, .inr (0, [.int (nI fw), .int (nI sh), .int (nI wy), .int (nI bk), .ref aU, .ref aV])), (aN, .inl (cI, 49, .inl (cyR (tN Q P)))), (aF, .inl (cI, 48, .inl (fCho Q P M (xs (i + 1)) fF))), (aG, .inl (cI, 48, .inl fG)), (aI, .inl (cI, 8, .inl fI)), (aU, .inl (cI, 48, .inl fU)), (aV, .inl (cI, 48, .inl fV)), (aO, .inr (4, [.int (nI Q), .int (nI P), .int (nI M), .int (nI Wd), .ref aOw, .ref aDg, .ref aWk, .ref aSm, .ref aFo, .ref aBk, .int (nI fo), .int (nI ba), .int (nI le), .int (nI sf), .ref aIm, .ref aKp])), (aOw, .inl (cI, 2401, .inl fOw2)), (aDg, .inl (cI, 49, .inl fDg2)), (aWk, .inl (cI, 49, .inl fWk2)), (aSm, .inl (cI, 98, .inl sm2)), (aFo, .inl (cI, 48, .inl fFo)), (aBk, .inl (cI, 48, .inl fBk)), (aIm, .inl (cI, 8, .inl fIm)), (aKp, .inl (cZ, 2, .inl fKp))] := hD
      refine lv_icmp_eq (tgt := 634) hx hb dL_law_428 (by decide) (fun c_24 => ?_) (fun c_24 => absurd rfl c_24)
      refine lv_iinc (v := nI (i + 4)) (lv' := [(3, .int (nI (i + 4))), (0, .ref b), (1, .ref aS), (2, .ref aO)]) hx hb dL_law_634 hl (k := 3) rfl (nI_add i 4) (by decide) rfl (fun ls hl => ?_)
      refine lv_goto (tgt := 18) hx hb dL_law_637 (by decide) ?_
      exact ih (i + 4) _ _ _ _ _ _ _ _ _ _ _ _ _ _ _ _ _ _ _ _ _ _ _ _ _ (by omega) (by omega) (hv) (himg) _ _ hP hD hS ls (lv_sub hl [1, 2, 3, 0] rfl)
    by_cases w_25 : wt = 11
    · refine lv_tableIn (off := 401) (tgt := 433) hx hb dL_law_32 (by rw [w_25]; decide) (by rw [w_25]; decide) (by rw [w_25]; decide) (by decide) ?_
      refine lv_aload_n hx hb dL_law_433 rfl (lv_at hl 1 rfl) ?_
      refine lv_aload_n hx hb dL_law_434 rfl (lv_at hl 0 rfl) ?_
      refine lv_iload_n hx hb dL_law_435 rfl (lv_at hl 3 rfl) ?_
      refine lv_iconst (v := 1) hx hb dL_law_436 (by decide) ?_
      refine lv_iadd hx hb dL_law_437 ?_
      refine top_eq (z := (nI (i + 1))) (by exact nI_add i 1) ?_
      refine ld_s hx hb hX hbl hbA hS (i + 1) rfl (by omega) (by omega) dL_law_438 ?_
      refine lv_aload_n hx hb dL_law_439 rfl (lv_at hl 0 rfl) ?_
      refine lv_iload_n hx hb dL_law_440 rfl (lv_at hl 3 rfl) ?_
      refine lv_iconst (v := 2) hx hb dL_law_441 (by decide) ?_
      refine lv_iadd hx hb dL_law_442 ?_
      refine top_eq (z := (nI (i + 2))) (by exact nI_add i 2) ?_
      refine ld_s hx hb hX hbl hbA hS (i + 2) rfl (by omega) (by omega) dL_law_443 ?_
      refine lv_aload_n hx hb dL_law_444 rfl (lv_at hl 0 rfl) ?_
      refine lv_iload_n hx hb dL_law_445 rfl (lv_at hl 3 rfl) ?_
      refine lv_iconst (v := 3) hx hb dL_law_446 (by decide) ?_
      refine lv_iadd hx hb dL_law_447 ?_
      refine top_eq (z := (nI (i + 3))) (by exact nI_add i 3) ?_
      refine ld_s hx hb hX hbl hbA hS (i + 3) rfl (by omega) (by omega) dL_law_448 ?_
      refine mu_V (As := [.int (xs (i + 1)), .int (xs (i + 2)), .int (xs (i + 3))]) (rest := []) (W1 := [(aS, .inr (3, [.ref aM, .ref aR, .ref aJ, .ref aF, .ref aG, .ref aI])), (aM, .inr (1, [.int (nI Q), .int (nI P), .int (nI M), .int (nI Wd), .int (nI (tT Q P)), .int (nI (tN Q P))])), (aR, .inr (2, [.ref aN, .int (nI (dgN (tN Q P))), .int (nI (tN Q P))])), (aJ, .inr (0, [.int (nI fw), .int (nI sh), .int (nI wy), .int (nI bk), .ref aU, .ref aV])), (aN, .inl (cI, 49, .inl (cyR (tN Q P)))), (aF, .inl (cI, 48, .inl (fTur Q P M Wd (xs (i + 1)) (xs (i + 2)) (xs (i + 3)) fF))), (aG, .inl (cI, 48, .inl (gTur Q P M Wd (xs (i + 1)) (xs (i + 2)) (xs (i + 3)) fG))), (aI, .inl (cI, 8, .inl fI)), (aU, .inl (cI, 48, .inl fU)), (aV, .inl (cI, 48, .inl fV)), (aO, .inr (4, [.int (nI Q), .int (nI P), .int (nI M), .int (nI Wd), .ref aOw, .ref aDg, .ref aWk, .ref aSm, .ref aFo, .ref aBk, .int (nI fo), .int (nI ba), .int (nI le), .int (nI sf), .ref aIm, .ref aKp])), (aOw, .inl (cI, 2401, .inl fOw)), (aDg, .inl (cI, 49, .inl fDg)), (aWk, .inl (cI, 49, .inl fWk)), (aSm, .inl (cI, 98, .inl sm)), (aFo, .inl (cI, 48, .inl fFo)), (aBk, .inl (cI, 48, .inl fBk)), (aIm, .inl (cI, 8, .inl fIm)), (aKp, .inl (cZ, 2, .inl fKp))]) (st1 := [.int (sTur Q P M Wd (xs (i + 1)) (xs (i + 2)) (xs (i + 3)))]) ⟨hx, hb, hml, hown, hts⟩ hT hP hD hS (k_X3_turned l D cI cZ aS aM aR aJ aF aG aI Q P M Wd aN fF fG (xs (i + 1)) (xs (i + 2)) (xs (i + 3)) hv) gL_law_X3_turned rfl rfl nd_X3_turned [0, 1, 2, 4, 5, 6] (by decide) rfl rfl rfl rfl (ci := 3) rfl rfl (q0 := 0) rfl hl.1 rfl rfl (Nat.le_of_ble_eq_true rfl) ⟨Nat.le_of_ble_eq_true rfl, Nat.le_of_ble_eq_true rfl⟩ ⟨rfl, rfl⟩ ⟨Nat.le_of_ble_eq_true rfl, Nat.le_of_ble_eq_true rfl⟩ dL_law_449 (fun H locs hP hD hS => ?_)
      refine lv_aload_n hx hb dL_law_452 rfl (lv_at hl 2 rfl) ?_
      refine lv_aload_n hx hb dL_law_453 rfl (lv_at hl 0 rfl) ?_
      refine lv_iload_n hx hb dL_law_454 rfl (lv_at hl 3 rfl) ?_
      refine lv_iconst (v := 1) hx hb dL_law_455 (by decide) ?_
      refine lv_iadd hx hb dL_law_456 ?_
      refine top_eq (z := (nI (i + 1))) (by exact nI_add i 1) ?_
      refine ld_s hx hb hX hbl hbA hS (i + 1) rfl (by omega) (by omega) dL_law_457 ?_
      refine lv_aload_n hx hb dL_law_458 rfl (lv_at hl 0 rfl) ?_
      refine lv_iload_n hx hb dL_law_459 rfl (lv_at hl 3 rfl) ?_
      refine lv_iconst (v := 2) hx hb dL_law_460 (by decide) ?_
      refine lv_iadd hx hb dL_law_461 ?_
      refine top_eq (z := (nI (i + 2))) (by exact nI_add i 2) ?_
      refine ld_s hx hb hX hbl hbA hS (i + 2) rfl (by omega) (by omega) dL_law_462 ?_
      refine lv_aload_n hx hb dL_law_463 rfl (lv_at hl 0 rfl) ?_
      refine lv_iload_n hx hb dL_law_464 rfl (lv_at hl 3 rfl) ?_
      refine lv_iconst (v := 3) hx hb dL_law_465 (by decide) ?_
      refine lv_iadd hx hb dL_law_466 ?_
      refine top_eq (z := (nI (i + 3))) (by exact nI_add i 3) ?_
      refine ld_s hx hb hX hbl hbA hS (i + 3) rfl (by omega) (by omega) dL_law_467 ?_
      refine me_V (As := [.int (xs (i + 1)), .int (xs (i + 2)), .int (xs (i + 3))]) (rest := [.int (sTur Q P M Wd (xs (i + 1)) (xs (i + 2)) (xs (i + 3)))]) (st1 := [.int (sTur Q P M Wd (xs (i + 1)) (xs (i + 2)) (xs (i + 3))), .int (sTur Q P M Wd (xs (i + 1)) (xs (i + 2)) (xs (i + 3)))]) ⟨hx, hb, hml, hown, hts⟩ hT hP hD hS (k_X4_turned l D cI cZ aO Q P M Wd aOw aDg aWk aSm aFo aBk fo ba le sf aIm aKp fOw fDg fWk sm (xs (i + 1)) (xs (i + 2)) (xs (i + 3)) hv) gL_law_X4_turned rfl rfl nd_X4_turned [10, 11, 12, 13, 14] (by decide) rfl (by rintro u ⟨_, _, _, _, rfl⟩; rfl) rfl (ci := 4) rfl rfl (q0 := 10) rfl hl.1 rfl rfl (Nat.le_of_ble_eq_true rfl) ⟨Nat.le_of_ble_eq_true rfl, Nat.le_of_ble_eq_true rfl⟩ ⟨rfl, rfl⟩ ⟨Nat.le_of_ble_eq_true rfl, Nat.le_of_ble_eq_true rfl⟩ dL_law_468 (fun u H locs hB hP hD hS => ?_)
      obtain ⟨fOw2, fDg2, fWk2, sm2, rfl⟩ := hB
      have hP : va_P D cls5 [(aS, .inr (3, [.ref aM, .ref aR, .ref aJ, .ref aF, .ref aG, .ref aI])), (aM, .inr (1, [.int (nI Q), .int (nI P), .int (nI M), .int (nI Wd), .int (nI (tT Q P)), .int (nI (tN Q P))])), (aR, .inr (2, [.ref aN, .int (nI (dgN (tN Q P))), .int (nI (tN Q P))])), (aJ, .inr (0, [.int (nI fw), .int (nI sh), .int (nI wy), .int (nI bk), .ref aU, .ref aV])), (aN, .inl (cI, 49, .inl (cyR (tN Q P)))), (aF, .inl (cI, 48, .inl (fTur Q P M Wd (xs (i + 1)) (xs (i + 2)) (xs (i + 3)) fF))), (aG, .inl (cI, 48, .inl (gTur Q P M Wd (xs (i + 1)) (xs (i + 2)) (xs (i + 3)) fG))), (aI, .inl (cI, 8, .inl fI)), (aU, .inl (cI, 48, .inl fU)), (aV, .inl (cI, 48, .inl fV)), (aO, .inr (4, [.int (nI Q), .int (nI P), .int (nI M), .int (nI Wd), .ref aOw, .ref aDg, .ref aWk, .ref aSm, .ref aFo, .ref aBk, .int (nI fo), .int (nI ba), .int (nI le), .int (nI sf), .ref aIm, .ref aKp])), (aOw, .inl (cI, 2401, .inl fOw2)), (aDg, .inl (cI, 49, .inl fDg2)), (aWk, .inl (cI, 49, .inl fWk2)), (aSm, .inl (cI, 98, .inl sm2)), (aFo, .inl (cI, 48, .inl fFo)), (aBk, .inl (cI, 48, .inl fBk)), (aIm, .inl (cI, 8, .inl fIm)), (aKp, .inl (cZ, 2, .inl fKp))] H := hP
      have hD : va_D (fun q : Nat => s.heap.size ≤ q) [(aS, .inr (3, [.ref aM, .ref aR, .ref aJ, .ref aF, .ref aG, .ref aI])), (aM, .inr (1, [.int (nI Q), .int (nI P), .int (nI M), .int (nI Wd), .int (nI (tT Q P)), .int (nI (tN Q P))])), (aR, .inr (2, [.ref aN, .int (nI (dgN (tN Q P))), .int (nI (tN Q P))])), (aJ, .inr (0, [.int (nI fw), .int (nI sh), .int (nI wy), .int (nI bk), .ref aU, .ref aV])), (aN, .inl (cI, 49, .inl (cyR (tN Q P)))), (aF, .inl (cI, 48, .inl (fTur Q P M Wd (xs (i + 1)) (xs (i + 2)) (xs (i + 3)) fF))), (aG, .inl (cI, 48, .inl (gTur Q P M Wd (xs (i + 1)) (xs (i + 2)) (xs (i + 3)) fG))), (aI, .inl (cI, 8, .inl fI)), (aU, .inl (cI, 48, .inl fU)), (aV, .inl (cI, 48, .inl fV)), (aO, .inr (4, [.int (nI Q), .int (nI P), .int (nI M), .int (nI Wd), .ref aOw, .ref aDg, .ref aWk, .ref aSm, .ref aFo, .ref aBk, .int (nI fo), .int (nI ba), .int (nI le), .int (nI sf), .ref aIm, .ref aKp])), (aOw, .inl (cI, 2401, .inl fOw2)), (aDg, .inl (cI, 49, .inl fDg2)), (aWk, .inl (cI, 49, .inl fWk2)), (aSm, .inl (cI, 98, .inl sm2)), (aFo, .inl (cI, 48, .inl fFo)), (aBk, .inl (cI, 48, .inl fBk)), (aIm, .inl (cI, 8, .inl fIm)), (aKp, .inl (cZ, 2, .inl fKp))] := hD
      refine lv_icmp_eq (tgt := 634) hx hb dL_law_471 (by decide) (fun c_26 => ?_) (fun c_26 => absurd rfl c_26)
      refine lv_iinc (v := nI (i + 4)) (lv' := [(3, .int (nI (i + 4))), (0, .ref b), (1, .ref aS), (2, .ref aO)]) hx hb dL_law_634 hl (k := 3) rfl (nI_add i 4) (by decide) rfl (fun ls hl => ?_)
      refine lv_goto (tgt := 18) hx hb dL_law_637 (by decide) ?_
      exact ih (i + 4) _ _ _ _ _ _ _ _ _ _ _ _ _ _ _ _ _ _ _ _ _ _ _ _ _ (by omega) (by omega) (hv) (himg) _ _ hP hD hS ls (lv_sub hl [1, 2, 3, 0] rfl)
    by_cases w_27 : wt = 12
    · refine lv_tableIn (off := 444) (tgt := 476) hx hb dL_law_32 (by rw [w_27]; decide) (by rw [w_27]; decide) (by rw [w_27]; decide) (by decide) ?_
      refine lv_aload_n hx hb dL_law_476 rfl (lv_at hl 1 rfl) ?_
      refine lv_aload_n hx hb dL_law_477 rfl (lv_at hl 0 rfl) ?_
      refine lv_iload_n hx hb dL_law_478 rfl (lv_at hl 3 rfl) ?_
      refine lv_iconst (v := 1) hx hb dL_law_479 (by decide) ?_
      refine lv_iadd hx hb dL_law_480 ?_
      refine top_eq (z := (nI (i + 1))) (by exact nI_add i 1) ?_
      refine ld_s hx hb hX hbl hbA hS (i + 1) rfl (by omega) (by omega) dL_law_481 ?_
      refine lv_aload_n hx hb dL_law_482 rfl (lv_at hl 0 rfl) ?_
      refine lv_iload_n hx hb dL_law_483 rfl (lv_at hl 3 rfl) ?_
      refine lv_iconst (v := 2) hx hb dL_law_484 (by decide) ?_
      refine lv_iadd hx hb dL_law_485 ?_
      refine top_eq (z := (nI (i + 2))) (by exact nI_add i 2) ?_
      refine ld_s hx hb hX hbl hbA hS (i + 2) rfl (by omega) (by omega) dL_law_486 ?_
      refine mu_V (As := [.int (xs (i + 1)), .int (xs (i + 2))]) (rest := []) (W1 := [(aS, .inr (3, [.ref aM, .ref aR, .ref aJ, .ref aF, .ref aG, .ref aI])), (aM, .inr (1, [.int (nI Q), .int (nI P), .int (nI M), .int (nI Wd), .int (nI (tT Q P)), .int (nI (tN Q P))])), (aR, .inr (2, [.ref aN, .int (nI (dgN (tN Q P))), .int (nI (tN Q P))])), (aJ, .inr (0, [.int (nI (jF Q P M (xs (i + 1)) (xs (i + 2)) (fwN Q P M (xs (i + 1))) fw)), .int (nI (jF Q P M (xs (i + 1)) (xs (i + 2)) (if fwN Q P M (xs (i + 1)) = bkN Q P M (xs (i + 1)) then (joS Q P M (xs (i + 1))).1 else sh) sh)), .int (nI (jF Q P M (xs (i + 1)) (xs (i + 2)) (if fwN Q P M (xs (i + 1)) = bkN Q P M (xs (i + 1)) then (joS Q P M (xs (i + 1))).2 else wy) wy)), .int (nI (jF Q P M (xs (i + 1)) (xs (i + 2)) (bkN Q P M (xs (i + 1))) bk)), .ref aU, .ref aV])), (aN, .inl (cI, 49, .inl (cyR (tN Q P)))), (aF, .inl (cI, 48, .inl fF)), (aG, .inl (cI, 48, .inl fG)), (aI, .inl (cI, 8, .inl fI)), (aU, .inl (cI, 48, .inl (jG Q P M (xs (i + 1)) (xs (i + 2)) (clS Q P M (xs (i + 1)) fU fV).2.2.1 fU))), (aV, .inl (cI, 48, .inl (jG Q P M (xs (i + 1)) (xs (i + 2)) (clS Q P M (xs (i + 1)) fU fV).2.2.2 fV))), (aO, .inr (4, [.int (nI Q), .int (nI P), .int (nI M), .int (nI Wd), .ref aOw, .ref aDg, .ref aWk, .ref aSm, .ref aFo, .ref aBk, .int (nI fo), .int (nI ba), .int (nI le), .int (nI sf), .ref aIm, .ref aKp])), (aOw, .inl (cI, 2401, .inl fOw)), (aDg, .inl (cI, 49, .inl fDg)), (aWk, .inl (cI, 49, .inl fWk)), (aSm, .inl (cI, 98, .inl sm)), (aFo, .inl (cI, 48, .inl fFo)), (aBk, .inl (cI, 48, .inl fBk)), (aIm, .inl (cI, 8, .inl fIm)), (aKp, .inl (cZ, 2, .inl fKp))]) (st1 := [.int (sJoi Q P M (xs (i + 1)) (xs (i + 2)))]) ⟨hx, hb, hml, hown, hts⟩ hT hP hD hS (k_X3_joined l D cI cZ aS aM aR aJ aF aG aI Q P M Wd aU aV fw sh wy bk fU fV (xs (i + 1)) (xs (i + 2)) hv) gL_law_X3_joined rfl rfl nd_X3_joined [0, 1, 3, 8, 9] (by decide) rfl rfl rfl rfl (ci := 3) rfl rfl (q0 := 0) rfl hl.1 rfl rfl (Nat.le_of_ble_eq_true rfl) ⟨Nat.le_of_ble_eq_true rfl, Nat.le_of_ble_eq_true rfl⟩ ⟨rfl, rfl⟩ ⟨Nat.le_of_ble_eq_true rfl, Nat.le_of_ble_eq_true rfl⟩ dL_law_487 (fun H locs hP hD hS => ?_)
      refine lv_aload_n hx hb dL_law_490 rfl (lv_at hl 2 rfl) ?_
      refine lv_aload_n hx hb dL_law_491 rfl (lv_at hl 0 rfl) ?_
      refine lv_iload_n hx hb dL_law_492 rfl (lv_at hl 3 rfl) ?_
      refine lv_iconst (v := 1) hx hb dL_law_493 (by decide) ?_
      refine lv_iadd hx hb dL_law_494 ?_
      refine top_eq (z := (nI (i + 1))) (by exact nI_add i 1) ?_
      refine ld_s hx hb hX hbl hbA hS (i + 1) rfl (by omega) (by omega) dL_law_495 ?_
      refine lv_aload_n hx hb dL_law_496 rfl (lv_at hl 0 rfl) ?_
      refine lv_iload_n hx hb dL_law_497 rfl (lv_at hl 3 rfl) ?_
      refine lv_iconst (v := 2) hx hb dL_law_498 (by decide) ?_
      refine lv_iadd hx hb dL_law_499 ?_
      refine top_eq (z := (nI (i + 2))) (by exact nI_add i 2) ?_
      refine ld_s hx hb hX hbl hbA hS (i + 2) rfl (by omega) (by omega) dL_law_500 ?_
      refine me_V (As := [.int (xs (i + 1)), .int (xs (i + 2))]) (rest := [.int (sJoi Q P M (xs (i + 1)) (xs (i + 2)))]) (st1 := [.int (sJoi Q P M (xs (i + 1)) (xs (i + 2))), .int (sJoi Q P M (xs (i + 1)) (xs (i + 2)))]) ⟨hx, hb, hml, hown, hts⟩ hT hP hD hS (k_X4_joined l D cI cZ aO Q P M Wd aOw aDg aWk aSm aFo aBk fo ba le sf aIm aKp fFo fBk (xs (i + 1)) (xs (i + 2)) hv) gL_law_X4_joined rfl rfl nd_X4_joined [10, 15, 16] (by decide) rfl (by rintro u ⟨_, _, _, _, _, _, rfl⟩; rfl) rfl (ci := 4) rfl rfl (q0 := 10) rfl hl.1 rfl rfl (Nat.le_of_ble_eq_true rfl) ⟨Nat.le_of_ble_eq_true rfl, Nat.le_of_ble_eq_true rfl⟩ ⟨rfl, rfl⟩ ⟨Nat.le_of_ble_eq_true rfl, Nat.le_of_ble_eq_true rfl⟩ dL_law_501 (fun u H locs hB hP hD hS => ?_)
      obtain ⟨fo2, ba2, le2, sf2, fFo2, fBk2, rfl⟩ := hB
      have hP : va_P D cls5 [(aS, .inr (3, [.ref aM, .ref aR, .ref aJ, .ref aF, .ref aG, .ref aI])), (aM, .inr (1, [.int (nI Q), .int (nI P), .int (nI M), .int (nI Wd), .int (nI (tT Q P)), .int (nI (tN Q P))])), (aR, .inr (2, [.ref aN, .int (nI (dgN (tN Q P))), .int (nI (tN Q P))])), (aJ, .inr (0, [.int (nI (jF Q P M (xs (i + 1)) (xs (i + 2)) (fwN Q P M (xs (i + 1))) fw)), .int (nI (jF Q P M (xs (i + 1)) (xs (i + 2)) (if fwN Q P M (xs (i + 1)) = bkN Q P M (xs (i + 1)) then (joS Q P M (xs (i + 1))).1 else sh) sh)), .int (nI (jF Q P M (xs (i + 1)) (xs (i + 2)) (if fwN Q P M (xs (i + 1)) = bkN Q P M (xs (i + 1)) then (joS Q P M (xs (i + 1))).2 else wy) wy)), .int (nI (jF Q P M (xs (i + 1)) (xs (i + 2)) (bkN Q P M (xs (i + 1))) bk)), .ref aU, .ref aV])), (aN, .inl (cI, 49, .inl (cyR (tN Q P)))), (aF, .inl (cI, 48, .inl fF)), (aG, .inl (cI, 48, .inl fG)), (aI, .inl (cI, 8, .inl fI)), (aU, .inl (cI, 48, .inl (jG Q P M (xs (i + 1)) (xs (i + 2)) (clS Q P M (xs (i + 1)) fU fV).2.2.1 fU))), (aV, .inl (cI, 48, .inl (jG Q P M (xs (i + 1)) (xs (i + 2)) (clS Q P M (xs (i + 1)) fU fV).2.2.2 fV))), (aO, .inr (4, [.int (nI Q), .int (nI P), .int (nI M), .int (nI Wd), .ref aOw, .ref aDg, .ref aWk, .ref aSm, .ref aFo, .ref aBk, .int (nI fo2), .int (nI ba2), .int (nI le2), .int (nI sf2), .ref aIm, .ref aKp])), (aOw, .inl (cI, 2401, .inl fOw)), (aDg, .inl (cI, 49, .inl fDg)), (aWk, .inl (cI, 49, .inl fWk)), (aSm, .inl (cI, 98, .inl sm)), (aFo, .inl (cI, 48, .inl fFo2)), (aBk, .inl (cI, 48, .inl fBk2)), (aIm, .inl (cI, 8, .inl fIm)), (aKp, .inl (cZ, 2, .inl fKp))] H := hP
      have hD : va_D (fun q : Nat => s.heap.size ≤ q) [(aS, .inr (3, [.ref aM, .ref aR, .ref aJ, .ref aF, .ref aG, .ref aI])), (aM, .inr (1, [.int (nI Q), .int (nI P), .int (nI M), .int (nI Wd), .int (nI (tT Q P)), .int (nI (tN Q P))])), (aR, .inr (2, [.ref aN, .int (nI (dgN (tN Q P))), .int (nI (tN Q P))])), (aJ, .inr (0, [.int (nI (jF Q P M (xs (i + 1)) (xs (i + 2)) (fwN Q P M (xs (i + 1))) fw)), .int (nI (jF Q P M (xs (i + 1)) (xs (i + 2)) (if fwN Q P M (xs (i + 1)) = bkN Q P M (xs (i + 1)) then (joS Q P M (xs (i + 1))).1 else sh) sh)), .int (nI (jF Q P M (xs (i + 1)) (xs (i + 2)) (if fwN Q P M (xs (i + 1)) = bkN Q P M (xs (i + 1)) then (joS Q P M (xs (i + 1))).2 else wy) wy)), .int (nI (jF Q P M (xs (i + 1)) (xs (i + 2)) (bkN Q P M (xs (i + 1))) bk)), .ref aU, .ref aV])), (aN, .inl (cI, 49, .inl (cyR (tN Q P)))), (aF, .inl (cI, 48, .inl fF)), (aG, .inl (cI, 48, .inl fG)), (aI, .inl (cI, 8, .inl fI)), (aU, .inl (cI, 48, .inl (jG Q P M (xs (i + 1)) (xs (i + 2)) (clS Q P M (xs (i + 1)) fU fV).2.2.1 fU))), (aV, .inl (cI, 48, .inl (jG Q P M (xs (i + 1)) (xs (i + 2)) (clS Q P M (xs (i + 1)) fU fV).2.2.2 fV))), (aO, .inr (4, [.int (nI Q), .int (nI P), .int (nI M), .int (nI Wd), .ref aOw, .ref aDg, .ref aWk, .ref aSm, .ref aFo, .ref aBk, .int (nI fo2), .int (nI ba2), .int (nI le2), .int (nI sf2), .ref aIm, .ref aKp])), (aOw, .inl (cI, 2401, .inl fOw)), (aDg, .inl (cI, 49, .inl fDg)), (aWk, .inl (cI, 49, .inl fWk)), (aSm, .inl (cI, 98, .inl sm)), (aFo, .inl (cI, 48, .inl fFo2)), (aBk, .inl (cI, 48, .inl fBk2)), (aIm, .inl (cI, 8, .inl fIm)), (aKp, .inl (cZ, 2, .inl fKp))] := hD
      refine lv_icmp_eq (tgt := 634) hx hb dL_law_504 (by decide) (fun c_28 => ?_) (fun c_28 => absurd rfl c_28)
      refine lv_iinc (v := nI (i + 4)) (lv' := [(3, .int (nI (i + 4))), (0, .ref b), (1, .ref aS), (2, .ref aO)]) hx hb dL_law_634 hl (k := 3) rfl (nI_add i 4) (by decide) rfl (fun ls hl => ?_)
      refine lv_goto (tgt := 18) hx hb dL_law_637 (by decide) ?_
      exact ih (i + 4) _ _ _ _ _ _ _ _ _ _ _ _ _ _ _ _ _ _ _ _ _ _ _ _ _ (by omega) (by omega) (hv) (himg) _ _ hP hD hS ls (lv_sub hl [1, 2, 3, 0] rfl)
    by_cases w_29 : wt = 13
    · refine lv_tableIn (off := 477) (tgt := 509) hx hb dL_law_32 (by rw [w_29]; decide) (by rw [w_29]; decide) (by rw [w_29]; decide) (by decide) ?_
      refine lv_aload_n hx hb dL_law_509 rfl (lv_at hl 1 rfl) ?_
      refine lv_aload_n hx hb dL_law_510 rfl (lv_at hl 0 rfl) ?_
      refine lv_iload_n hx hb dL_law_511 rfl (lv_at hl 3 rfl) ?_
      refine lv_iconst (v := 1) hx hb dL_law_512 (by decide) ?_
      refine lv_iadd hx hb dL_law_513 ?_
      refine top_eq (z := (nI (i + 1))) (by exact nI_add i 1) ?_
      refine ld_s hx hb hX hbl hbA hS (i + 1) rfl (by omega) (by omega) dL_law_514 ?_
      refine mu_V (As := [.int (xs (i + 1))]) (rest := []) (W1 := [(aS, .inr (3, [.ref aM, .ref aR, .ref aJ, .ref aF, .ref aG, .ref aI])), (aM, .inr (1, [.int (nI Q), .int (nI P), .int (nI M), .int (nI Wd), .int (nI (tT Q P)), .int (nI (tN Q P))])), (aR, .inr (2, [.ref aN, .int (nI (dgN (tN Q P))), .int (nI (tN Q P))])), (aJ, .inr (0, [.int (nI (pF Q P M (xs (i + 1)) (fwN Q P M (pA Q P M (xs (i + 1)))) fw)), .int (nI (pF Q P M (xs (i + 1)) (if fwN Q P M (pA Q P M (xs (i + 1))) = bkN Q P M (pA Q P M (xs (i + 1))) then (joS Q P M (pA Q P M (xs (i + 1)))).1 else sh) sh)), .int (nI (pF Q P M (xs (i + 1)) (if fwN Q P M (pA Q P M (xs (i + 1))) = bkN Q P M (pA Q P M (xs (i + 1))) then (joS Q P M (pA Q P M (xs (i + 1)))).2 else wy) wy)), .int (nI (pF Q P M (xs (i + 1)) (bkN Q P M (pA Q P M (xs (i + 1)))) bk)), .ref aU, .ref aV])), (aN, .inl (cI, 49, .inl (cyR (tN Q P)))), (aF, .inl (cI, 48, .inl fF)), (aG, .inl (cI, 48, .inl fG)), (aI, .inl (cI, 8, .inl fI)), (aU, .inl (cI, 48, .inl (pG Q P M (xs (i + 1)) (clS Q P M (pA Q P M (xs (i + 1))) fU fV).2.2.1 fU))), (aV, .inl (cI, 48, .inl (pG Q P M (xs (i + 1)) (clS Q P M (pA Q P M (xs (i + 1))) fU fV).2.2.2 fV))), (aO, .inr (4, [.int (nI Q), .int (nI P), .int (nI M), .int (nI Wd), .ref aOw, .ref aDg, .ref aWk, .ref aSm, .ref aFo, .ref aBk, .int (nI fo), .int (nI ba), .int (nI le), .int (nI sf), .ref aIm, .ref aKp])), (aOw, .inl (cI, 2401, .inl fOw)), (aDg, .inl (cI, 49, .inl fDg)), (aWk, .inl (cI, 49, .inl fWk)), (aSm, .inl (cI, 98, .inl sm)), (aFo, .inl (cI, 48, .inl fFo)), (aBk, .inl (cI, 48, .inl fBk)), (aIm, .inl (cI, 8, .inl fIm)), (aKp, .inl (cZ, 2, .inl fKp))]) (st1 := [.int (sPar Q P M (xs (i + 1)))]) ⟨hx, hb, hml, hown, hts⟩ hT hP hD hS (k_X3_partner l D cI cZ aS aM aR aJ aF aG aI Q P M Wd aU aV fw sh wy bk fU fV (xs (i + 1)) hv) gL_law_X3_partner rfl rfl nd_X3_partner [0, 1, 3, 8, 9] (by decide) rfl rfl rfl rfl (ci := 3) rfl rfl (q0 := 0) rfl hl.1 rfl rfl (Nat.le_of_ble_eq_true rfl) ⟨Nat.le_of_ble_eq_true rfl, Nat.le_of_ble_eq_true rfl⟩ ⟨rfl, rfl⟩ ⟨Nat.le_of_ble_eq_true rfl, Nat.le_of_ble_eq_true rfl⟩ dL_law_515 (fun H locs hP hD hS => ?_)
      refine lv_aload_n hx hb dL_law_518 rfl (lv_at hl 2 rfl) ?_
      refine lv_aload_n hx hb dL_law_519 rfl (lv_at hl 0 rfl) ?_
      refine lv_iload_n hx hb dL_law_520 rfl (lv_at hl 3 rfl) ?_
      refine lv_iconst (v := 1) hx hb dL_law_521 (by decide) ?_
      refine lv_iadd hx hb dL_law_522 ?_
      refine top_eq (z := (nI (i + 1))) (by exact nI_add i 1) ?_
      refine ld_s hx hb hX hbl hbA hS (i + 1) rfl (by omega) (by omega) dL_law_523 ?_
      refine me_V (As := [.int (xs (i + 1))]) (rest := [.int (sPar Q P M (xs (i + 1)))]) (st1 := [.int (sPar Q P M (xs (i + 1))), .int (sPar Q P M (xs (i + 1)))]) ⟨hx, hb, hml, hown, hts⟩ hT hP hD hS (k_X4_partner l D cI cZ aO Q P M Wd aOw aDg aWk aSm aFo aBk fo ba le sf aIm aKp fFo fBk (xs (i + 1)) hv) gL_law_X4_partner rfl rfl nd_X4_partner [10, 15, 16] (by decide) rfl (by rintro u ⟨_, _, _, _, _, _, rfl⟩; rfl) rfl (ci := 4) rfl rfl (q0 := 10) rfl hl.1 rfl rfl (Nat.le_of_ble_eq_true rfl) ⟨Nat.le_of_ble_eq_true rfl, Nat.le_of_ble_eq_true rfl⟩ ⟨rfl, rfl⟩ ⟨Nat.le_of_ble_eq_true rfl, Nat.le_of_ble_eq_true rfl⟩ dL_law_524 (fun u H locs hB hP hD hS => ?_)
      obtain ⟨fo2, ba2, le2, sf2, fFo2, fBk2, rfl⟩ := hB
      have hP : va_P D cls5 [(aS, .inr (3, [.ref aM, .ref aR, .ref aJ, .ref aF, .ref aG, .ref aI])), (aM, .inr (1, [.int (nI Q), .int (nI P), .int (nI M), .int (nI Wd), .int (nI (tT Q P)), .int (nI (tN Q P))])), (aR, .inr (2, [.ref aN, .int (nI (dgN (tN Q P))), .int (nI (tN Q P))])), (aJ, .inr (0, [.int (nI (pF Q P M (xs (i + 1)) (fwN Q P M (pA Q P M (xs (i + 1)))) fw)), .int (nI (pF Q P M (xs (i + 1)) (if fwN Q P M (pA Q P M (xs (i + 1))) = bkN Q P M (pA Q P M (xs (i + 1))) then (joS Q P M (pA Q P M (xs (i + 1)))).1 else sh) sh)), .int (nI (pF Q P M (xs (i + 1)) (if fwN Q P M (pA Q P M (xs (i + 1))) = bkN Q P M (pA Q P M (xs (i + 1))) then (joS Q P M (pA Q P M (xs (i + 1)))).2 else wy) wy)), .int (nI (pF Q P M (xs (i + 1)) (bkN Q P M (pA Q P M (xs (i + 1)))) bk)), .ref aU, .ref aV])), (aN, .inl (cI, 49, .inl (cyR (tN Q P)))), (aF, .inl (cI, 48, .inl fF)), (aG, .inl (cI, 48, .inl fG)), (aI, .inl (cI, 8, .inl fI)), (aU, .inl (cI, 48, .inl (pG Q P M (xs (i + 1)) (clS Q P M (pA Q P M (xs (i + 1))) fU fV).2.2.1 fU))), (aV, .inl (cI, 48, .inl (pG Q P M (xs (i + 1)) (clS Q P M (pA Q P M (xs (i + 1))) fU fV).2.2.2 fV))), (aO, .inr (4, [.int (nI Q), .int (nI P), .int (nI M), .int (nI Wd), .ref aOw, .ref aDg, .ref aWk, .ref aSm, .ref aFo, .ref aBk, .int (nI fo2), .int (nI ba2), .int (nI le2), .int (nI sf2), .ref aIm, .ref aKp])), (aOw, .inl (cI, 2401, .inl fOw)), (aDg, .inl (cI, 49, .inl fDg)), (aWk, .inl (cI, 49, .inl fWk)), (aSm, .inl (cI, 98, .inl sm)), (aFo, .inl (cI, 48, .inl fFo2)), (aBk, .inl (cI, 48, .inl fBk2)), (aIm, .inl (cI, 8, .inl fIm)), (aKp, .inl (cZ, 2, .inl fKp))] H := hP
      have hD : va_D (fun q : Nat => s.heap.size ≤ q) [(aS, .inr (3, [.ref aM, .ref aR, .ref aJ, .ref aF, .ref aG, .ref aI])), (aM, .inr (1, [.int (nI Q), .int (nI P), .int (nI M), .int (nI Wd), .int (nI (tT Q P)), .int (nI (tN Q P))])), (aR, .inr (2, [.ref aN, .int (nI (dgN (tN Q P))), .int (nI (tN Q P))])), (aJ, .inr (0, [.int (nI (pF Q P M (xs (i + 1)) (fwN Q P M (pA Q P M (xs (i + 1)))) fw)), .int (nI (pF Q P M (xs (i + 1)) (if fwN Q P M (pA Q P M (xs (i + 1))) = bkN Q P M (pA Q P M (xs (i + 1))) then (joS Q P M (pA Q P M (xs (i + 1)))).1 else sh) sh)), .int (nI (pF Q P M (xs (i + 1)) (if fwN Q P M (pA Q P M (xs (i + 1))) = bkN Q P M (pA Q P M (xs (i + 1))) then (joS Q P M (pA Q P M (xs (i + 1)))).2 else wy) wy)), .int (nI (pF Q P M (xs (i + 1)) (bkN Q P M (pA Q P M (xs (i + 1)))) bk)), .ref aU, .ref aV])), (aN, .inl (cI, 49, .inl (cyR (tN Q P)))), (aF, .inl (cI, 48, .inl fF)), (aG, .inl (cI, 48, .inl fG)), (aI, .inl (cI, 8, .inl fI)), (aU, .inl (cI, 48, .inl (pG Q P M (xs (i + 1)) (clS Q P M (pA Q P M (xs (i + 1))) fU fV).2.2.1 fU))), (aV, .inl (cI, 48, .inl (pG Q P M (xs (i + 1)) (clS Q P M (pA Q P M (xs (i + 1))) fU fV).2.2.2 fV))), (aO, .inr (4, [.int (nI Q), .int (nI P), .int (nI M), .int (nI Wd), .ref aOw, .ref aDg, .ref aWk, .ref aSm, .ref aFo, .ref aBk, .int (nI fo2), .int (nI ba2), .int (nI le2), .int (nI sf2), .ref aIm, .ref aKp])), (aOw, .inl (cI, 2401, .inl fOw)), (aDg, .inl (cI, 49, .inl fDg)), (aWk, .inl (cI, 49, .inl fWk)), (aSm, .inl (cI, 98, .inl sm)), (aFo, .inl (cI, 48, .inl fFo2)), (aBk, .inl (cI, 48, .inl fBk2)), (aIm, .inl (cI, 8, .inl fIm)), (aKp, .inl (cZ, 2, .inl fKp))] := hD
      refine lv_icmp_eq (tgt := 634) hx hb dL_law_527 (by decide) (fun c_30 => ?_) (fun c_30 => absurd rfl c_30)
      refine lv_iinc (v := nI (i + 4)) (lv' := [(3, .int (nI (i + 4))), (0, .ref b), (1, .ref aS), (2, .ref aO)]) hx hb dL_law_634 hl (k := 3) rfl (nI_add i 4) (by decide) rfl (fun ls hl => ?_)
      refine lv_goto (tgt := 18) hx hb dL_law_637 (by decide) ?_
      exact ih (i + 4) _ _ _ _ _ _ _ _ _ _ _ _ _ _ _ _ _ _ _ _ _ _ _ _ _ (by omega) (by omega) (hv) (himg) _ _ hP hD hS ls (lv_sub hl [1, 2, 3, 0] rfl)
    by_cases w_31 : wt = 14
    · refine lv_tableIn (off := 500) (tgt := 532) hx hb dL_law_32 (by rw [w_31]; decide) (by rw [w_31]; decide) (by rw [w_31]; decide) (by decide) ?_
      refine lv_aload_n hx hb dL_law_532 rfl (lv_at hl 1 rfl) ?_
      refine lv_aload_n hx hb dL_law_533 rfl (lv_at hl 0 rfl) ?_
      refine lv_iload_n hx hb dL_law_534 rfl (lv_at hl 3 rfl) ?_
      refine lv_iconst (v := 1) hx hb dL_law_535 (by decide) ?_
      refine lv_iadd hx hb dL_law_536 ?_
      refine top_eq (z := (nI (i + 1))) (by exact nI_add i 1) ?_
      refine ld_s hx hb hX hbl hbA hS (i + 1) rfl (by omega) (by omega) dL_law_537 ?_
      refine lv_aload_n hx hb dL_law_538 rfl (lv_at hl 0 rfl) ?_
      refine lv_iload_n hx hb dL_law_539 rfl (lv_at hl 3 rfl) ?_
      refine lv_iconst (v := 2) hx hb dL_law_540 (by decide) ?_
      refine lv_iadd hx hb dL_law_541 ?_
      refine top_eq (z := (nI (i + 2))) (by exact nI_add i 2) ?_
      refine ld_s hx hb hX hbl hbA hS (i + 2) rfl (by omega) (by omega) dL_law_542 ?_
      refine ro_V (As := [.int (xs (i + 1)), .int (xs (i + 2))]) (rest := []) ⟨hx, hb, hml, hown, hts⟩ hT hP (k_X3_path l D cI cZ aS aM aR aJ aF aG aI Q P M Wd (xs (i + 1)) (xs (i + 2)) hv) gL_law_X3_path rfl rfl nd_X3_path [0, 1] rfl (ci := 3) rfl rfl (q0 := 0) rfl hl.1 rfl rfl (Nat.le_of_ble_eq_true rfl) ⟨Nat.le_of_ble_eq_true rfl, Nat.le_of_ble_eq_true rfl⟩ ⟨rfl, rfl⟩ ⟨Nat.le_of_ble_eq_true rfl, Nat.le_of_ble_eq_true rfl⟩ dL_law_543 ?_
      refine lv_aload_n hx hb dL_law_546 rfl (lv_at hl 2 rfl) ?_
      refine lv_aload_n hx hb dL_law_547 rfl (lv_at hl 0 rfl) ?_
      refine lv_iload_n hx hb dL_law_548 rfl (lv_at hl 3 rfl) ?_
      refine lv_iconst (v := 1) hx hb dL_law_549 (by decide) ?_
      refine lv_iadd hx hb dL_law_550 ?_
      refine top_eq (z := (nI (i + 1))) (by exact nI_add i 1) ?_
      refine ld_s hx hb hX hbl hbA hS (i + 1) rfl (by omega) (by omega) dL_law_551 ?_
      refine lv_aload_n hx hb dL_law_552 rfl (lv_at hl 0 rfl) ?_
      refine lv_iload_n hx hb dL_law_553 rfl (lv_at hl 3 rfl) ?_
      refine lv_iconst (v := 2) hx hb dL_law_554 (by decide) ?_
      refine lv_iadd hx hb dL_law_555 ?_
      refine top_eq (z := (nI (i + 2))) (by exact nI_add i 2) ?_
      refine ld_s hx hb hX hbl hbA hS (i + 2) rfl (by omega) (by omega) dL_law_556 ?_
      refine ro_V (As := [.int (xs (i + 1)), .int (xs (i + 2))]) (rest := [.int (sPath Q P (xs (i + 1)) (xs (i + 2)))]) ⟨hx, hb, hml, hown, hts⟩ hT hP (k_X4_path l D cI cZ aO Q P M Wd aOw aDg aWk aSm aFo aBk fo ba le sf aIm aKp (xs (i + 1)) (xs (i + 2)) hv) gL_law_X4_path rfl rfl nd_X4_path [10] rfl (ci := 4) rfl rfl (q0 := 10) rfl hl.1 rfl rfl (Nat.le_of_ble_eq_true rfl) ⟨Nat.le_of_ble_eq_true rfl, Nat.le_of_ble_eq_true rfl⟩ ⟨rfl, rfl⟩ ⟨Nat.le_of_ble_eq_true rfl, Nat.le_of_ble_eq_true rfl⟩ dL_law_557 ?_
      refine lv_icmp_eq (tgt := 634) hx hb dL_law_560 (by decide) (fun c_32 => ?_) (fun c_32 => absurd rfl c_32)
      refine lv_iinc (v := nI (i + 4)) (lv' := [(3, .int (nI (i + 4))), (0, .ref b), (1, .ref aS), (2, .ref aO)]) hx hb dL_law_634 hl (k := 3) rfl (nI_add i 4) (by decide) rfl (fun ls hl => ?_)
      refine lv_goto (tgt := 18) hx hb dL_law_637 (by decide) ?_
      exact ih (i + 4) _ _ _ _ _ _ _ _ _ _ _ _ _ _ _ _ _ _ _ _ _ _ _ _ _ (by omega) (by omega) (hv) (himg) _ _ hP hD hS ls (lv_sub hl [1, 2, 3, 0] rfl)
    by_cases w_33 : wt = 15
    · refine lv_tableIn (off := 533) (tgt := 565) hx hb dL_law_32 (by rw [w_33]; decide) (by rw [w_33]; decide) (by rw [w_33]; decide) (by decide) ?_
      refine lv_aload_n hx hb dL_law_565 rfl (lv_at hl 1 rfl) ?_
      refine lv_aload_n hx hb dL_law_566 rfl (lv_at hl 0 rfl) ?_
      refine lv_iload_n hx hb dL_law_567 rfl (lv_at hl 3 rfl) ?_
      refine lv_iconst (v := 1) hx hb dL_law_568 (by decide) ?_
      refine lv_iadd hx hb dL_law_569 ?_
      refine top_eq (z := (nI (i + 1))) (by exact nI_add i 1) ?_
      refine ld_s hx hb hX hbl hbA hS (i + 1) rfl (by omega) (by omega) dL_law_570 ?_
      refine mu_V (As := [.int (xs (i + 1))]) (rest := []) (W1 := [(aS, .inr (3, [.ref aM, .ref aR, .ref aJ, .ref aF, .ref aG, .ref aI])), (aM, .inr (1, [.int (nI Q), .int (nI P), .int (nI M), .int (nI Wd), .int (nI (tT Q P)), .int (nI (tN Q P))])), (aR, .inr (2, [.ref aN, .int (nI (dgN (tN Q P))), .int (nI (tN Q P))])), (aJ, .inr (0, [.int (nI fw), .int (nI sh), .int (nI wy), .int (nI bk), .ref aU, .ref aV])), (aN, .inl (cI, 49, .inl (cyR (tN Q P)))), (aF, .inl (cI, 48, .inl fF)), (aG, .inl (cI, 48, .inl fG)), (aI, .inl (cI, 8, .inl (imT (xs (i + 1)) fI Q P M Wd))), (aU, .inl (cI, 48, .inl fU)), (aV, .inl (cI, 48, .inl fV)), (aO, .inr (4, [.int (nI Q), .int (nI P), .int (nI M), .int (nI Wd), .ref aOw, .ref aDg, .ref aWk, .ref aSm, .ref aFo, .ref aBk, .int (nI fo), .int (nI ba), .int (nI le), .int (nI sf), .ref aIm, .ref aKp])), (aOw, .inl (cI, 2401, .inl fOw)), (aDg, .inl (cI, 49, .inl fDg)), (aWk, .inl (cI, 49, .inl fWk)), (aSm, .inl (cI, 98, .inl sm)), (aFo, .inl (cI, 48, .inl fFo)), (aBk, .inl (cI, 48, .inl fBk)), (aIm, .inl (cI, 8, .inl fIm)), (aKp, .inl (cZ, 2, .inl fKp))]) (st1 := [.int (sIma (xs (i + 1)))]) ⟨hx, hb, hml, hown, hts⟩ hT hP hD hS (k_X3_image l D cI cZ aS aM aR aJ aF aG aI Q P M Wd fI (xs (i + 1))) gL_law_X3_image rfl rfl nd_X3_image [0, 1, 7] (by decide) rfl rfl rfl rfl (ci := 3) rfl rfl (q0 := 0) rfl hl.1 rfl rfl (Nat.le_of_ble_eq_true rfl) ⟨Nat.le_of_ble_eq_true rfl, Nat.le_of_ble_eq_true rfl⟩ ⟨rfl, rfl⟩ ⟨Nat.le_of_ble_eq_true rfl, Nat.le_of_ble_eq_true rfl⟩ dL_law_571 (fun H locs hP hD hS => ?_)
      refine lv_aload_n hx hb dL_law_574 rfl (lv_at hl 2 rfl) ?_
      refine lv_aload_n hx hb dL_law_575 rfl (lv_at hl 0 rfl) ?_
      refine lv_iload_n hx hb dL_law_576 rfl (lv_at hl 3 rfl) ?_
      refine lv_iconst (v := 1) hx hb dL_law_577 (by decide) ?_
      refine lv_iadd hx hb dL_law_578 ?_
      refine top_eq (z := (nI (i + 1))) (by exact nI_add i 1) ?_
      refine ld_s hx hb hX hbl hbA hS (i + 1) rfl (by omega) (by omega) dL_law_579 ?_
      refine mu_V (As := [.int (xs (i + 1))]) (rest := [.int (sIma (xs (i + 1)))]) (W1 := [(aS, .inr (3, [.ref aM, .ref aR, .ref aJ, .ref aF, .ref aG, .ref aI])), (aM, .inr (1, [.int (nI Q), .int (nI P), .int (nI M), .int (nI Wd), .int (nI (tT Q P)), .int (nI (tN Q P))])), (aR, .inr (2, [.ref aN, .int (nI (dgN (tN Q P))), .int (nI (tN Q P))])), (aJ, .inr (0, [.int (nI fw), .int (nI sh), .int (nI wy), .int (nI bk), .ref aU, .ref aV])), (aN, .inl (cI, 49, .inl (cyR (tN Q P)))), (aF, .inl (cI, 48, .inl fF)), (aG, .inl (cI, 48, .inl fG)), (aI, .inl (cI, 8, .inl (imT (xs (i + 1)) fI Q P M Wd))), (aU, .inl (cI, 48, .inl fU)), (aV, .inl (cI, 48, .inl fV)), (aO, .inr (4, [.int (nI Q), .int (nI P), .int (nI M), .int (nI Wd), .ref aOw, .ref aDg, .ref aWk, .ref aSm, .ref aFo, .ref aBk, .int (nI fo), .int (nI ba), .int (nI le), .int (nI sf), .ref aIm, .ref aKp])), (aOw, .inl (cI, 2401, .inl fOw)), (aDg, .inl (cI, 49, .inl fDg)), (aWk, .inl (cI, 49, .inl fWk)), (aSm, .inl (cI, 98, .inl sm)), (aFo, .inl (cI, 48, .inl fFo)), (aBk, .inl (cI, 48, .inl fBk)), (aIm, .inl (cI, 8, .inl (imT (xs (i + 1)) fIm Q P M Wd))), (aKp, .inl (cZ, 2, .inl (kpT (xs (i + 1)) fKp)))]) (st1 := [.int (sIma (xs (i + 1))), .int (sIma (xs (i + 1)))]) ⟨hx, hb, hml, hown, hts⟩ hT hP hD hS (k_X4_image l D cI cZ aO Q P M Wd aOw aDg aWk aSm aFo aBk fo ba le sf aIm aKp fIm fKp (xs (i + 1))) gL_law_X4_image rfl rfl nd_X4_image [10, 17, 18] (by decide) rfl rfl rfl rfl (ci := 4) rfl rfl (q0 := 10) rfl hl.1 rfl rfl (Nat.le_of_ble_eq_true rfl) ⟨Nat.le_of_ble_eq_true rfl, Nat.le_of_ble_eq_true rfl⟩ ⟨rfl, rfl⟩ ⟨Nat.le_of_ble_eq_true rfl, Nat.le_of_ble_eq_true rfl⟩ dL_law_580 (fun H locs hP hD hS => ?_)
      refine lv_icmp_eq (tgt := 634) hx hb dL_law_583 (by decide) (fun c_34 => ?_) (fun c_34 => absurd rfl c_34)
      refine lv_iinc (v := nI (i + 4)) (lv' := [(3, .int (nI (i + 4))), (0, .ref b), (1, .ref aS), (2, .ref aO)]) hx hb dL_law_634 hl (k := 3) rfl (nI_add i 4) (by decide) rfl (fun ls hl => ?_)
      refine lv_goto (tgt := 18) hx hb dL_law_637 (by decide) ?_
      exact ih (i + 4) _ _ _ _ _ _ _ _ _ _ _ _ _ _ _ _ _ _ _ _ _ _ _ _ _ (by omega) (by omega) (hv) (img_im hv himg _) _ _ hP hD hS ls (lv_sub hl [1, 2, 3, 0] rfl)
    by_cases w_35 : wt = 16
    · refine lv_tableIn (off := 556) (tgt := 588) hx hb dL_law_32 (by rw [w_35]; decide) (by rw [w_35]; decide) (by rw [w_35]; decide) (by decide) ?_
      refine lv_aload_n hx hb dL_law_588 rfl (lv_at hl 1 rfl) ?_
      refine lv_aload_n hx hb dL_law_589 rfl (lv_at hl 0 rfl) ?_
      refine lv_iload_n hx hb dL_law_590 rfl (lv_at hl 3 rfl) ?_
      refine lv_iconst (v := 1) hx hb dL_law_591 (by decide) ?_
      refine lv_iadd hx hb dL_law_592 ?_
      refine top_eq (z := (nI (i + 1))) (by exact nI_add i 1) ?_
      refine ld_s hx hb hX hbl hbA hS (i + 1) rfl (by omega) (by omega) dL_law_593 ?_
      refine mu_V (As := [.int (xs (i + 1))]) (rest := []) (W1 := [(aS, .inr (3, [.ref aM, .ref aR, .ref aJ, .ref aF, .ref aG, .ref aI])), (aM, .inr (1, [.int (nI ((rsT (xs (i + 1)) fI (Q, P, M, Wd)).1)), .int (nI ((rsT (xs (i + 1)) fI (Q, P, M, Wd)).2.1)), .int (nI ((rsT (xs (i + 1)) fI (Q, P, M, Wd)).2.2.1)), .int (nI ((rsT (xs (i + 1)) fI (Q, P, M, Wd)).2.2.2)), .int (nI (tT ((rsT (xs (i + 1)) fI (Q, P, M, Wd)).1) ((rsT (xs (i + 1)) fI (Q, P, M, Wd)).2.1))), .int (nI (tN ((rsT (xs (i + 1)) fI (Q, P, M, Wd)).1) ((rsT (xs (i + 1)) fI (Q, P, M, Wd)).2.1)))])), (aR, .inr (2, [.ref aN, .int (nI (dgN (tN ((rsT (xs (i + 1)) fI (Q, P, M, Wd)).1) ((rsT (xs (i + 1)) fI (Q, P, M, Wd)).2.1)))), .int (nI (tN ((rsT (xs (i + 1)) fI (Q, P, M, Wd)).1) ((rsT (xs (i + 1)) fI (Q, P, M, Wd)).2.1)))])), (aJ, .inr (0, [.int (nI fw), .int (nI sh), .int (nI wy), .int (nI bk), .ref aU, .ref aV])), (aN, .inl (cI, 49, .inl (cyR (tN ((rsT (xs (i + 1)) fI (Q, P, M, Wd)).1) ((rsT (xs (i + 1)) fI (Q, P, M, Wd)).2.1))))), (aF, .inl (cI, 48, .inl fF)), (aG, .inl (cI, 48, .inl fG)), (aI, .inl (cI, 8, .inl fI)), (aU, .inl (cI, 48, .inl fU)), (aV, .inl (cI, 48, .inl fV)), (aO, .inr (4, [.int (nI Q), .int (nI P), .int (nI M), .int (nI Wd), .ref aOw, .ref aDg, .ref aWk, .ref aSm, .ref aFo, .ref aBk, .int (nI fo), .int (nI ba), .int (nI le), .int (nI sf), .ref aIm, .ref aKp])), (aOw, .inl (cI, 2401, .inl fOw)), (aDg, .inl (cI, 49, .inl fDg)), (aWk, .inl (cI, 49, .inl fWk)), (aSm, .inl (cI, 98, .inl sm)), (aFo, .inl (cI, 48, .inl fFo)), (aBk, .inl (cI, 48, .inl fBk)), (aIm, .inl (cI, 8, .inl fIm)), (aKp, .inl (cZ, 2, .inl fKp))]) (st1 := [.int (sRes (xs (i + 1)) fI)]) ⟨hx, hb, hml, hown, hts⟩ hT hP hD hS (k_X3_restore l D cI cZ aS aM aR aJ aF aG aI Q P M Wd aN fI (xs (i + 1)) (img_ok himg)) gL_law_X3_restore rfl rfl nd_X3_restore [0, 1, 2, 4, 7] (by decide) rfl rfl rfl rfl (ci := 3) rfl rfl (q0 := 0) rfl hl.1 rfl rfl (Nat.le_of_ble_eq_true rfl) ⟨Nat.le_of_ble_eq_true rfl, Nat.le_of_ble_eq_true rfl⟩ ⟨rfl, rfl⟩ ⟨Nat.le_of_ble_eq_true rfl, Nat.le_of_ble_eq_true rfl⟩ dL_law_594 (fun H locs hP hD hS => ?_)
      refine lv_aload_n hx hb dL_law_597 rfl (lv_at hl 2 rfl) ?_
      refine lv_aload_n hx hb dL_law_598 rfl (lv_at hl 0 rfl) ?_
      refine lv_iload_n hx hb dL_law_599 rfl (lv_at hl 3 rfl) ?_
      refine lv_iconst (v := 1) hx hb dL_law_600 (by decide) ?_
      refine lv_iadd hx hb dL_law_601 ?_
      refine top_eq (z := (nI (i + 1))) (by exact nI_add i 1) ?_
      refine ld_s hx hb hX hbl hbA hS (i + 1) rfl (by omega) (by omega) dL_law_602 ?_
      refine mu_V (As := [.int (xs (i + 1))]) (rest := [.int (sRes (xs (i + 1)) fI)]) (W1 := [(aS, .inr (3, [.ref aM, .ref aR, .ref aJ, .ref aF, .ref aG, .ref aI])), (aM, .inr (1, [.int (nI ((rsT (xs (i + 1)) fI (Q, P, M, Wd)).1)), .int (nI ((rsT (xs (i + 1)) fI (Q, P, M, Wd)).2.1)), .int (nI ((rsT (xs (i + 1)) fI (Q, P, M, Wd)).2.2.1)), .int (nI ((rsT (xs (i + 1)) fI (Q, P, M, Wd)).2.2.2)), .int (nI (tT ((rsT (xs (i + 1)) fI (Q, P, M, Wd)).1) ((rsT (xs (i + 1)) fI (Q, P, M, Wd)).2.1))), .int (nI (tN ((rsT (xs (i + 1)) fI (Q, P, M, Wd)).1) ((rsT (xs (i + 1)) fI (Q, P, M, Wd)).2.1)))])), (aR, .inr (2, [.ref aN, .int (nI (dgN (tN ((rsT (xs (i + 1)) fI (Q, P, M, Wd)).1) ((rsT (xs (i + 1)) fI (Q, P, M, Wd)).2.1)))), .int (nI (tN ((rsT (xs (i + 1)) fI (Q, P, M, Wd)).1) ((rsT (xs (i + 1)) fI (Q, P, M, Wd)).2.1)))])), (aJ, .inr (0, [.int (nI fw), .int (nI sh), .int (nI wy), .int (nI bk), .ref aU, .ref aV])), (aN, .inl (cI, 49, .inl (cyR (tN ((rsT (xs (i + 1)) fI (Q, P, M, Wd)).1) ((rsT (xs (i + 1)) fI (Q, P, M, Wd)).2.1))))), (aF, .inl (cI, 48, .inl fF)), (aG, .inl (cI, 48, .inl fG)), (aI, .inl (cI, 8, .inl fI)), (aU, .inl (cI, 48, .inl fU)), (aV, .inl (cI, 48, .inl fV)), (aO, .inr (4, [.int (nI ((mrT (xs (i + 1)) fIm fKp (Q, P, M, Wd)).1)), .int (nI ((mrT (xs (i + 1)) fIm fKp (Q, P, M, Wd)).2.1)), .int (nI ((mrT (xs (i + 1)) fIm fKp (Q, P, M, Wd)).2.2.1)), .int (nI ((mrT (xs (i + 1)) fIm fKp (Q, P, M, Wd)).2.2.2)), .ref aOw, .ref aDg, .ref aWk, .ref aSm, .ref aFo, .ref aBk, .int (nI fo), .int (nI ba), .int (nI le), .int (nI sf), .ref aIm, .ref aKp])), (aOw, .inl (cI, 2401, .inl fOw)), (aDg, .inl (cI, 49, .inl fDg)), (aWk, .inl (cI, 49, .inl fWk)), (aSm, .inl (cI, 98, .inl sm)), (aFo, .inl (cI, 48, .inl fFo)), (aBk, .inl (cI, 48, .inl fBk)), (aIm, .inl (cI, 8, .inl fIm)), (aKp, .inl (cZ, 2, .inl fKp))]) (st1 := [.int (smRes (xs (i + 1)) fKp), .int (sRes (xs (i + 1)) fI)]) ⟨hx, hb, hml, hown, hts⟩ hT hP hD hS (k_X4_restore l D cI cZ aO Q P M Wd aOw aDg aWk aSm aFo aBk fo ba le sf aIm aKp fIm fKp (xs (i + 1)) (img_n himg)) gL_law_X4_restore rfl rfl nd_X4_restore [10, 17, 18] (by decide) rfl rfl rfl rfl (ci := 4) rfl rfl (q0 := 10) rfl hl.1 rfl rfl (Nat.le_of_ble_eq_true rfl) ⟨Nat.le_of_ble_eq_true rfl, Nat.le_of_ble_eq_true rfl⟩ ⟨rfl, rfl⟩ ⟨Nat.le_of_ble_eq_true rfl, Nat.le_of_ble_eq_true rfl⟩ dL_law_603 (fun H locs hP hD hS => ?_)
      rw [img_rs himg] at hP hD
      refine lv_icmp_eq (tgt := 634) hx hb dL_law_606 (by decide) (fun c_36 => ?_) (fun c_36 => absurd (img_res himg _) c_36)
      refine lv_iinc (v := nI (i + 4)) (lv' := [(3, .int (nI (i + 4))), (0, .ref b), (1, .ref aS), (2, .ref aO)]) hx hb dL_law_634 hl (k := 3) rfl (nI_add i 4) (by decide) rfl (fun ls hl => ?_)
      refine lv_goto (tgt := 18) hx hb dL_law_637 (by decide) ?_
      exact ih (i + 4) _ _ _ _ _ _ _ _ _ _ _ _ _ _ _ _ _ _ _ _ _ _ _ _ _ (by omega) (by omega) (mv_rs hv (img_ok himg) _) (himg) _ _ hP hD hS ls (lv_sub hl [1, 2, 3, 0] rfl)
    by_cases w_37 : wt = 17
    · refine lv_tableIn (off := 579) (tgt := 611) hx hb dL_law_32 (by rw [w_37]; decide) (by rw [w_37]; decide) (by rw [w_37]; decide) (by decide) ?_
      refine lv_aload_n hx hb dL_law_611 rfl (lv_at hl 1 rfl) ?_
      refine lv_aload_n hx hb dL_law_612 rfl (lv_at hl 0 rfl) ?_
      refine lv_iload_n hx hb dL_law_613 rfl (lv_at hl 3 rfl) ?_
      refine lv_iconst (v := 1) hx hb dL_law_614 (by decide) ?_
      refine lv_iadd hx hb dL_law_615 ?_
      refine top_eq (z := (nI (i + 1))) (by exact nI_add i 1) ?_
      refine ld_s hx hb hX hbl hbA hS (i + 1) rfl (by omega) (by omega) dL_law_616 ?_
      refine ro_V (As := [.int (xs (i + 1))]) (rest := []) ⟨hx, hb, hml, hown, hts⟩ hT hP (k_X3_told l D cI cZ aS aM aR aJ aF aG aI Q P M Wd (xs (i + 1)) hv) gL_law_X3_told rfl rfl nd_X3_told [0, 1] rfl (ci := 3) rfl rfl (q0 := 0) rfl hl.1 rfl rfl (Nat.le_of_ble_eq_true rfl) ⟨Nat.le_of_ble_eq_true rfl, Nat.le_of_ble_eq_true rfl⟩ ⟨rfl, rfl⟩ ⟨Nat.le_of_ble_eq_true rfl, Nat.le_of_ble_eq_true rfl⟩ dL_law_617 ?_
      refine lv_aload_n hx hb dL_law_620 rfl (lv_at hl 2 rfl) ?_
      refine lv_aload_n hx hb dL_law_621 rfl (lv_at hl 0 rfl) ?_
      refine lv_iload_n hx hb dL_law_622 rfl (lv_at hl 3 rfl) ?_
      refine lv_iconst (v := 1) hx hb dL_law_623 (by decide) ?_
      refine lv_iadd hx hb dL_law_624 ?_
      refine top_eq (z := (nI (i + 1))) (by exact nI_add i 1) ?_
      refine ld_s hx hb hX hbl hbA hS (i + 1) rfl (by omega) (by omega) dL_law_625 ?_
      refine ro_V (As := [.int (xs (i + 1))]) (rest := [.int (sTold Q P M Wd (xs (i + 1)))]) ⟨hx, hb, hml, hown, hts⟩ hT hP (k_X4_told l D cI cZ aO Q P M Wd aOw aDg aWk aSm aFo aBk fo ba le sf aIm aKp (xs (i + 1)) hv) gL_law_X4_told rfl rfl nd_X4_told [10] rfl (ci := 4) rfl rfl (q0 := 10) rfl hl.1 rfl rfl (Nat.le_of_ble_eq_true rfl) ⟨Nat.le_of_ble_eq_true rfl, Nat.le_of_ble_eq_true rfl⟩ ⟨rfl, rfl⟩ ⟨Nat.le_of_ble_eq_true rfl, Nat.le_of_ble_eq_true rfl⟩ dL_law_626 ?_
      refine lv_icmp_eq (tgt := 634) hx hb dL_law_629 (by decide) (fun c_38 => ?_) (fun c_38 => absurd rfl c_38)
      refine lv_iinc (v := nI (i + 4)) (lv' := [(3, .int (nI (i + 4))), (0, .ref b), (1, .ref aS), (2, .ref aO)]) hx hb dL_law_634 hl (k := 3) rfl (nI_add i 4) (by decide) rfl (fun ls hl => ?_)
      refine lv_goto (tgt := 18) hx hb dL_law_637 (by decide) ?_
      exact ih (i + 4) _ _ _ _ _ _ _ _ _ _ _ _ _ _ _ _ _ _ _ _ _ _ _ _ _ (by omega) (by omega) (hv) (himg) _ _ hP hD hS ls (lv_sub hl [1, 2, 3, 0] rfl)
    refine lv_tableOut (tgt := 634) hx hb dL_law_32 (sw_out18 w_3 w_5 w_7 w_9 w_11 w_13 w_15 w_17 w_19 w_21 w_23 w_25 w_27 w_29 w_31 w_33 w_35 w_37) (by decide) ?_
    refine lv_iinc (v := nI (i + 4)) (lv' := [(3, .int (nI (i + 4))), (0, .ref b), (1, .ref aS), (2, .ref aO)]) hx hb dL_law_634 hl (k := 3) rfl (nI_add i 4) (by decide) rfl (fun ls hl => ?_)
    refine lv_goto (tgt := 18) hx hb dL_law_637 (by decide) ?_
    exact ih (i + 4) _ _ _ _ _ _ _ _ _ _ _ _ _ _ _ _ _ _ _ _ _ _ _ _ _ (by omega) (by omega) (hv) (himg) _ _ hP hD hS ls (lv_sub hl [1, 2, 3, 0] rfl)
