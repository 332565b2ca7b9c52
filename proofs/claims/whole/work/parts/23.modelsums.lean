set_option maxRecDepth 20000 in
theorem hi_X4_divide_X4 : ∀ w ∈ wsX40, w ∈ wsX4_divide := by
  intro w h
  unfold wsX4_divide
  simp only [List.mem_cons, List.mem_append, h, or_true, true_or]
theorem nd_X4_divide : okName yX4_divide 2 := by decide +kernel
set_option maxHeartbeats 4000000 in
set_option maxRecDepth 100000 in
theorem k_X4_divide (l : Launch) (D : va_G) (cI cZ : ClassId) (aO : Nat) (Q : Nat) (P : Nat) (M : Nat) (Wd : Nat) (aOw : Nat) (aDg : Nat) (aWk : Nat) (aSm : Nat) (aFo : Nat) (aBk : Nat) (fo : Nat) (ba : Nat) (le : Nat) (sf : Nat) (aIm : Nat) (aKp : Nat) (fOw : Nat → Int32) (fDg : Nat → Int32) (fWk : Nat → Int32) (hg2 : Nat) (d : Nat) (bb : Nat) (g : Nat → Int32) (hd : 1 ≤ d ∧ d ≤ 48) (hby : fDg d = nI bb) (hb1 : 1 ≤ bb) (hbh : bb ≤ hg2) (hh : hg2 ≤ 48) (hgr : ∀ k, k < bb → fOw (49 * d + k) = g k) : MU l yX4_divide wsX4_divide ({ frames := 0, cells := 0, slots := 0, locals := 0 } : Room) D cI cZ [(aO, .inr (4, [.int (nI Q), .int (nI P), .int (nI M), .int (nI Wd), .ref aOw, .ref aDg, .ref aWk, .ref aSm, .ref aFo, .ref aBk, .int (nI fo), .int (nI ba), .int (nI le), .int (nI sf), .ref aIm, .ref aKp])), (aOw, .inl (cI, 2401, .inl fOw)), (aDg, .inl (cI, 49, .inl fDg)), (aWk, .inl (cI, 49, .inl fWk))] [.ref aO, .int (nI hg2), .int (nI d)] (some (.int (nI (hg2 - bb)))) [(aO, .inr (4, [.int (nI Q), .int (nI P), .int (nI M), .int (nI Wd), .ref aOw, .ref aDg, .ref aWk, .ref aSm, .ref aFo, .ref aBk, .int (nI fo), .int (nI ba), .int (nI le), .int (nI sf), .ref aIm, .ref aKp])), (aOw, .inl (cI, 2401, .inl fOw)), (aDg, .inl (cI, 49, .inl fDg)), (aWk, .inl (cI, 49, .inl (dvW g bb hg2 fWk)))] := by
  refine mu_start (by decide) rfl (Nat.le_of_ble_eq_true rfl) ?_
  intro p e s m args below meth c hx hb hr hml hlocks hts hown hT hP hD hS ls hl
  have hown : s.vm.findClass RX4 = some m.cls := hown
  have hl : lv_has ls 7 [(0, .ref aO), (1, .int (nI hg2)), (2, .int (nI d))] := hl
  refine lv_aload_n hx hb dX4_divide_0 rfl (lv_at hl 0 rfl) ?_
  refine va_get (D := D) (ci := 4) (v := .ref aDg) (C := RX4) (T := TX4) (N := 16) hx hb hts hi_X4_divide_X4 hown hT.1 hP 0 rfl rfl 5 (by decide) (hts (.fieldLink RX4 26 "SlotStarModel" "degree" "[I") (List.mem_of_getElem? (i := 1) rfl)) (fun _ h9 => h9) rfl dX4_divide_1 ?_
  refine lv_iload_n hx hb dX4_divide_4 rfl (lv_at hl 2 rfl) ?_
  refine ld_i hx hb hT hP 2 rfl dX4_divide_5 (k := d) rfl (by omega) (by decide) ?_
  refine top_eq (z := (nI bb)) (by exact hby) ?_
  refine lv_istore_n (lv' := [(3, .int (nI bb)), (0, .ref aO), (1, .int (nI hg2)), (2, .int (nI d))]) hx hb dX4_divide_6 rfl hl (by decide) rfl (fun ls hl => ?_)
  refine lv_iload_n hx hb dX4_divide_7 rfl (lv_at hl 2 rfl) ?_
  refine lv_istore (lv' := [(4, .int (nI hg2)), (3, .int (nI bb)), (0, .ref aO), (1, .int (nI hg2)), (2, .int (nI d))]) hx hb dX4_divide_8 hl (by decide) rfl (fun ls hl => ?_)
  have L_10 : ∀ (f : Nat) (i : Nat) (w : Nat → Int32), i + 1 = bb + f → i ≤ hg2 → dvO g bb (hg2 + 1 - bb) hg2 fWk = dvO g bb f i w → ∀ (H : Heap) (locs : List Loc), va_P D cls5 [(aO, .inr (4, [.int (nI Q), .int (nI P), .int (nI M), .int (nI Wd), .ref aOw, .ref aDg, .ref aWk, .ref aSm, .ref aFo, .ref aBk, .int (nI fo), .int (nI ba), .int (nI le), .int (nI sf), .ref aIm, .ref aKp])), (aOw, .inl (cI, 2401, .inl fOw)), (aDg, .inl (cI, 49, .inl fDg)), (aWk, .inl (cI, 49, .inl w))] H → va_D (va_M [(aO, .inr (4, [.int (nI Q), .int (nI P), .int (nI M), .int (nI Wd), .ref aOw, .ref aDg, .ref aWk, .ref aSm, .ref aFo, .ref aBk, .int (nI fo), .int (nI ba), .int (nI le), .int (nI sf), .ref aIm, .ref aKp])), (aOw, .inl (cI, 2401, .inl fOw)), (aDg, .inl (cI, 49, .inl fDg)), (aWk, .inl (cI, 49, .inl fWk))]) [(aO, .inr (4, [.int (nI Q), .int (nI P), .int (nI M), .int (nI Wd), .ref aOw, .ref aDg, .ref aWk, .ref aSm, .ref aFo, .ref aBk, .int (nI fo), .int (nI ba), .int (nI le), .int (nI sf), .ref aIm, .ref aKp])), (aOw, .inl (cI, 2401, .inl fOw)), (aDg, .inl (cI, 49, .inl fDg)), (aWk, .inl (cI, 49, .inl w))] → va_S (va_M [(aO, .inr (4, [.int (nI Q), .int (nI P), .int (nI M), .int (nI Wd), .ref aOw, .ref aDg, .ref aWk, .ref aSm, .ref aFo, .ref aBk, .int (nI fo), .int (nI ba), .int (nI le), .int (nI sf), .ref aIm, .ref aKp])), (aOw, .inl (cI, 2401, .inl fOw)), (aDg, .inl (cI, 49, .inl fDg)), (aWk, .inl (cI, 49, .inl fWk))]) s.heap H locs → ∀ ls : Array Slot, lv_has ls 7 [(0, .ref aO), (1, .int (nI hg2)), (2, .int (nI d)), (3, .int (nI bb)), (4, .int (nI i))] → W p l e (headSpec wsX4_divide ({ frames := 0, cells := 0, slots := 0, locals := 0 } : Room)).room s m args below meth c H locs 0 0 (MQ below (QcM D [(aO, .inr (4, [.int (nI Q), .int (nI P), .int (nI M), .int (nI Wd), .ref aOw, .ref aDg, .ref aWk, .ref aSm, .ref aFo, .ref aBk, .int (nI fo), .int (nI ba), .int (nI le), .int (nI sf), .ref aIm, .ref aKp])), (aOw, .inl (cI, 2401, .inl fOw)), (aDg, .inl (cI, 49, .inl fDg)), (aWk, .inl (cI, 49, .inl fWk))] [(aO, .inr (4, [.int (nI Q), .int (nI P), .int (nI M), .int (nI Wd), .ref aOw, .ref aDg, .ref aWk, .ref aSm, .ref aFo, .ref aBk, .int (nI fo), .int (nI ba), .int (nI le), .int (nI sf), .ref aIm, .ref aKp])), (aOw, .inl (cI, 2401, .inl fOw)), (aDg, .inl (cI, 49, .inl fDg)), (aWk, .inl (cI, 49, .inl (dvW g bb hg2 fWk)))] (some (.int (nI (hg2 - bb))))) args s 0 0 (va_M [(aO, .inr (4, [.int (nI Q), .int (nI P), .int (nI M), .int (nI Wd), .ref aOw, .ref aDg, .ref aWk, .ref aSm, .ref aFo, .ref aBk, .int (nI fo), .int (nI ba), .int (nI le), .int (nI sf), .ref aIm, .ref aKp])), (aOw, .inl (cI, 2401, .inl fOw)), (aDg, .inl (cI, 49, .inl fDg)), (aWk, .inl (cI, 49, .inl fWk))])) (F0 m 10 ls []) := by
    intro f
    induction f with
    | zero =>
      intro i w h1 h3 h2 H locs hP hD hS ls hl
      refine lv_iload hx hb dX4_divide_10 (lv_at hl 4 rfl) ?_
      refine lv_iload_n hx hb dX4_divide_12 rfl (lv_at hl 3 rfl) ?_
      refine lv_icmp_lt (tgt := 76) hx hb dX4_divide_13 (by decide) (fun c_1 => ?_) (fun c_1 => ?_)
      · skip
        refine lv_iconst (v := 0) hx hb dX4_divide_76 (by decide) ?_
        refine lv_istore (lv' := [(4, .int 0), (0, .ref aO), (1, .int (nI hg2)), (2, .int (nI d)), (3, .int (nI bb))]) hx hb dX4_divide_77 hl (by decide) rfl (fun ls hl => ?_)
        have L_79 : ∀ (f3 : Nat) (j : Nat) (u : Nat → Int32), j + f3 = 49 → shL (hg2 - bb) bb 49 0 w = shL (hg2 - bb) bb f3 j u → ∀ (H : Heap) (locs : List Loc), va_P D cls5 [(aO, .inr (4, [.int (nI Q), .int (nI P), .int (nI M), .int (nI Wd), .ref aOw, .ref aDg, .ref aWk, .ref aSm, .ref aFo, .ref aBk, .int (nI fo), .int (nI ba), .int (nI le), .int (nI sf), .ref aIm, .ref aKp])), (aOw, .inl (cI, 2401, .inl fOw)), (aDg, .inl (cI, 49, .inl fDg)), (aWk, .inl (cI, 49, .inl u))] H → va_D (va_M [(aO, .inr (4, [.int (nI Q), .int (nI P), .int (nI M), .int (nI Wd), .ref aOw, .ref aDg, .ref aWk, .ref aSm, .ref aFo, .ref aBk, .int (nI fo), .int (nI ba), .int (nI le), .int (nI sf), .ref aIm, .ref aKp])), (aOw, .inl (cI, 2401, .inl fOw)), (aDg, .inl (cI, 49, .inl fDg)), (aWk, .inl (cI, 49, .inl fWk))]) [(aO, .inr (4, [.int (nI Q), .int (nI P), .int (nI M), .int (nI Wd), .ref aOw, .ref aDg, .ref aWk, .ref aSm, .ref aFo, .ref aBk, .int (nI fo), .int (nI ba), .int (nI le), .int (nI sf), .ref aIm, .ref aKp])), (aOw, .inl (cI, 2401, .inl fOw)), (aDg, .inl (cI, 49, .inl fDg)), (aWk, .inl (cI, 49, .inl u))] → va_S (va_M [(aO, .inr (4, [.int (nI Q), .int (nI P), .int (nI M), .int (nI Wd), .ref aOw, .ref aDg, .ref aWk, .ref aSm, .ref aFo, .ref aBk, .int (nI fo), .int (nI ba), .int (nI le), .int (nI sf), .ref aIm, .ref aKp])), (aOw, .inl (cI, 2401, .inl fOw)), (aDg, .inl (cI, 49, .inl fDg)), (aWk, .inl (cI, 49, .inl fWk))]) s.heap H locs → ∀ ls : Array Slot, lv_has ls 7 [(0, .ref aO), (1, .int (nI hg2)), (2, .int (nI d)), (3, .int (nI bb)), (4, .int (nI j))] → W p l e (headSpec wsX4_divide ({ frames := 0, cells := 0, slots := 0, locals := 0 } : Room)).room s m args below meth c H locs 0 0 (MQ below (QcM D [(aO, .inr (4, [.int (nI Q), .int (nI P), .int (nI M), .int (nI Wd), .ref aOw, .ref aDg, .ref aWk, .ref aSm, .ref aFo, .ref aBk, .int (nI fo), .int (nI ba), .int (nI le), .int (nI sf), .ref aIm, .ref aKp])), (aOw, .inl (cI, 2401, .inl fOw)), (aDg, .inl (cI, 49, .inl fDg)), (aWk, .inl (cI, 49, .inl fWk))] [(aO, .inr (4, [.int (nI Q), .int (nI P), .int (nI M), .int (nI Wd), .ref aOw, .ref aDg, .ref aWk, .ref aSm, .ref aFo, .ref aBk, .int (nI fo), .int (nI ba), .int (nI le), .int (nI sf), .ref aIm, .ref aKp])), (aOw, .inl (cI, 2401, .inl fOw)), (aDg, .inl (cI, 49, .inl fDg)), (aWk, .inl (cI, 49, .inl (dvW g bb hg2 fWk)))] (some (.int (nI (hg2 - bb))))) args s 0 0 (va_M [(aO, .inr (4, [.int (nI Q), .int (nI P), .int (nI M), .int (nI Wd), .ref aOw, .ref aDg, .ref aWk, .ref aSm, .ref aFo, .ref aBk, .int (nI fo), .int (nI ba), .int (nI le), .int (nI sf), .ref aIm, .ref aKp])), (aOw, .inl (cI, 2401, .inl fOw)), (aDg, .inl (cI, 49, .inl fDg)), (aWk, .inl (cI, 49, .inl fWk))])) (F0 m 79 ls []) := by
          intro f3
          induction f3 with
          | zero =>
            intro j u h7 h6 H locs hP hD hS ls hl
            refine lv_iload hx hb dX4_divide_79 (lv_at hl 4 rfl) ?_
            refine lv_bipush (v := 49) hx hb dX4_divide_81 (by decide) ?_
            refine lv_icmp_ge (tgt := 120) hx hb dX4_divide_83 (by decide) (fun c_2 => ?_) (fun c_2 => ?_)
            · skip
              refine lv_iload_n hx hb dX4_divide_120 rfl (lv_at hl 1 rfl) ?_
              refine lv_iload_n hx hb dX4_divide_121 rfl (lv_at hl 3 rfl) ?_
              refine lv_isub hx hb dX4_divide_122 ?_
              refine top_eq (z := (nI (hg2 - bb))) (by exact pk_sub (by omega)) ?_
              exact mu_ret hx hb hr hlocks dX4_divide_123 (by unfold dvW; rw [h2]; simp only [dvO]; rw [h6]; exact hP) hS (by rfl)
            · exfalso; exact c_2 (by rw [show j = 49 by omega]; decide)
          | succ f3 ih_79 =>
            intro j u h7 h6 H locs hP hD hS ls hl
            refine lv_iload hx hb dX4_divide_79 (lv_at hl 4 rfl) ?_
            refine lv_bipush (v := 49) hx hb dX4_divide_81 (by decide) ?_
            refine lv_icmp_ge (tgt := 120) hx hb dX4_divide_83 (by decide) (fun c_3 => ?_) (fun c_3 => ?_)
            · exfalso; exact nI_ge (b := 49) (show j < 49 by omega) (by decide) c_3
            · skip
              refine lv_aload_n hx hb dX4_divide_86 rfl (lv_at hl 0 rfl) ?_
              refine va_get (D := D) (ci := 4) (v := .ref aWk) (C := RX4) (T := TX4) (N := 16) hx hb hts hi_X4_divide_X4 hown hT.1 hP 0 rfl rfl 6 (by decide) (hts (.fieldLink RX4 29 "SlotStarModel" "work" "[I") (List.mem_of_getElem? (i := 2) rfl)) (fun _ h9 => h9) rfl dX4_divide_87 ?_
              refine lv_iload hx hb dX4_divide_90 (lv_at hl 4 rfl) ?_
              refine lv_iload hx hb dX4_divide_92 (lv_at hl 4 rfl) ?_
              refine lv_iload_n hx hb dX4_divide_94 rfl (lv_at hl 1 rfl) ?_
              refine lv_iload_n hx hb dX4_divide_95 rfl (lv_at hl 3 rfl) ?_
              refine lv_isub hx hb dX4_divide_96 ?_
              refine top_eq (z := (nI (hg2 - bb))) (by exact pk_sub (by omega)) ?_
              refine lv_icmp_gt (tgt := 112) hx hb dX4_divide_97 (by decide) (fun c_4 => ?_) (fun c_4 => ?_)
              · skip
                have hjh : ¬ j ≤ hg2 - bb := fun q => absurd c_4 (nI_nlt q (by omega))
                refine lv_iconst (v := 0) hx hb dX4_divide_112 (by decide) ?_
                refine st_i hx hb hT hP hD hS 3 rfl dX4_divide_113 (k := j) (W1 := [(aO, .inr (4, [.int (nI Q), .int (nI P), .int (nI M), .int (nI Wd), .ref aOw, .ref aDg, .ref aWk, .ref aSm, .ref aFo, .ref aBk, .int (nI fo), .int (nI ba), .int (nI le), .int (nI sf), .ref aIm, .ref aKp])), (aOw, .inl (cI, 2401, .inl fOw)), (aDg, .inl (cI, 49, .inl fDg)), (aWk, .inl (cI, 49, .inl (upd u j 0)))]) rfl (by omega) (by decide) rfl (fun H locs hP hD hS => ?_)
                refine lv_iinc (v := nI (j + 1)) (lv' := [(4, .int (nI (j + 1))), (0, .ref aO), (1, .int (nI hg2)), (2, .int (nI d)), (3, .int (nI bb))]) hx hb dX4_divide_114 hl (k := 4) rfl ((nI_succ j).symm) (by decide) rfl (fun ls hl => ?_)
                refine lv_goto (tgt := 79) hx hb dX4_divide_117 (by decide) ?_
                exact ih_79 (j + 1) _ (by omega) (by rw [h6]; simp [shL, hjh]) _ _ hP hD hS ls (lv_sub hl [1, 2, 3, 4, 0] rfl)
              · skip
                have hjh : j ≤ hg2 - bb := Nat.not_lt.mp fun q => c_4 (nI_lt q (by omega))
                refine lv_aload_n hx hb dX4_divide_100 rfl (lv_at hl 0 rfl) ?_
                refine va_get (D := D) (ci := 4) (v := .ref aWk) (C := RX4) (T := TX4) (N := 16) hx hb hts hi_X4_divide_X4 hown hT.1 hP 0 rfl rfl 6 (by decide) (hts (.fieldLink RX4 29 "SlotStarModel" "work" "[I") (List.mem_of_getElem? (i := 2) rfl)) (fun _ h9 => h9) rfl dX4_divide_101 ?_
                refine lv_iload hx hb dX4_divide_104 (lv_at hl 4 rfl) ?_
                refine lv_iload_n hx hb dX4_divide_106 rfl (lv_at hl 3 rfl) ?_
                refine lv_iadd hx hb dX4_divide_107 ?_
                refine top_eq (z := (nI (j + bb))) (by exact nI_add _ _) ?_
                refine ld_i hx hb hT hP 3 rfl dX4_divide_108 (k := (j + bb)) rfl (by omega) (by decide) ?_
                refine lv_goto (tgt := 113) hx hb dX4_divide_109 (by decide) ?_
                refine st_i hx hb hT hP hD hS 3 rfl dX4_divide_113 (k := j) (W1 := [(aO, .inr (4, [.int (nI Q), .int (nI P), .int (nI M), .int (nI Wd), .ref aOw, .ref aDg, .ref aWk, .ref aSm, .ref aFo, .ref aBk, .int (nI fo), .int (nI ba), .int (nI le), .int (nI sf), .ref aIm, .ref aKp])), (aOw, .inl (cI, 2401, .inl fOw)), (aDg, .inl (cI, 49, .inl fDg)), (aWk, .inl (cI, 49, .inl (upd u j (u (j + bb)))))]) rfl (by omega) (by decide) rfl (fun H locs hP hD hS => ?_)
                refine lv_iinc (v := nI (j + 1)) (lv' := [(4, .int (nI (j + 1))), (0, .ref aO), (1, .int (nI hg2)), (2, .int (nI d)), (3, .int (nI bb))]) hx hb dX4_divide_114 hl (k := 4) rfl ((nI_succ j).symm) (by decide) rfl (fun ls hl => ?_)
                refine lv_goto (tgt := 79) hx hb dX4_divide_117 (by decide) ?_
                exact ih_79 (j + 1) _ (by omega) (by rw [h6]; simp [shL, hjh]) _ _ hP hD hS ls (lv_sub hl [1, 2, 3, 4, 0] rfl)
        exact L_79 49 0 w rfl rfl _ _ hP hD hS ls (lv_sub hl [1, 2, 3, 4, 0] rfl)
      · exfalso; exact c_1 (nI_lt (by omega) (by omega))
    | succ f ih_10 =>
      intro i w h1 h3 h2 H locs hP hD hS ls hl
      refine lv_iload hx hb dX4_divide_10 (lv_at hl 4 rfl) ?_
      refine lv_iload_n hx hb dX4_divide_12 rfl (lv_at hl 3 rfl) ?_
      refine lv_icmp_lt (tgt := 76) hx hb dX4_divide_13 (by decide) (fun c_5 => ?_) (fun c_5 => ?_)
      · exfalso; exact nI_nlt (show bb ≤ i by omega) (by omega) c_5
      · skip
        refine lv_aload_n hx hb dX4_divide_16 rfl (lv_at hl 0 rfl) ?_
        refine va_get (D := D) (ci := 4) (v := .ref aWk) (C := RX4) (T := TX4) (N := 16) hx hb hts hi_X4_divide_X4 hown hT.1 hP 0 rfl rfl 6 (by decide) (hts (.fieldLink RX4 29 "SlotStarModel" "work" "[I") (List.mem_of_getElem? (i := 2) rfl)) (fun _ h9 => h9) rfl dX4_divide_17 ?_
        refine lv_iload hx hb dX4_divide_20 (lv_at hl 4 rfl) ?_
        refine ld_i hx hb hT hP 3 rfl dX4_divide_22 (k := i) rfl (by omega) (by decide) ?_
        refine lv_istore (lv' := [(5, .int (w i)), (0, .ref aO), (1, .int (nI hg2)), (2, .int (nI d)), (3, .int (nI bb)), (4, .int (nI i))]) hx hb dX4_divide_23 hl (by decide) rfl (fun ls hl => ?_)
        refine lv_iconst (v := 0) hx hb dX4_divide_25 (by decide) ?_
        refine lv_istore (lv' := [(6, .int 0), (5, .int (w i)), (0, .ref aO), (1, .int (nI hg2)), (2, .int (nI d)), (3, .int (nI bb)), (4, .int (nI i))]) hx hb dX4_divide_26 hl (by decide) rfl (fun ls hl => ?_)
        have L_28 : ∀ (f2 : Nat) (k : Nat) (v : Nat → Int32), k + f2 = bb → rdI g (i - bb) (w i) bb 0 w = rdI g (i - bb) (w i) f2 k v → ∀ (H : Heap) (locs : List Loc), va_P D cls5 [(aO, .inr (4, [.int (nI Q), .int (nI P), .int (nI M), .int (nI Wd), .ref aOw, .ref aDg, .ref aWk, .ref aSm, .ref aFo, .ref aBk, .int (nI fo), .int (nI ba), .int (nI le), .int (nI sf), .ref aIm, .ref aKp])), (aOw, .inl (cI, 2401, .inl fOw)), (aDg, .inl (cI, 49, .inl fDg)), (aWk, .inl (cI, 49, .inl v))] H → va_D (va_M [(aO, .inr (4, [.int (nI Q), .int (nI P), .int (nI M), .int (nI Wd), .ref aOw, .ref aDg, .ref aWk, .ref aSm, .ref aFo, .ref aBk, .int (nI fo), .int (nI ba), .int (nI le), .int (nI sf), .ref aIm, .ref aKp])), (aOw, .inl (cI, 2401, .inl fOw)), (aDg, .inl (cI, 49, .inl fDg)), (aWk, .inl (cI, 49, .inl fWk))]) [(aO, .inr (4, [.int (nI Q), .int (nI P), .int (nI M), .int (nI Wd), .ref aOw, .ref aDg, .ref aWk, .ref aSm, .ref aFo, .ref aBk, .int (nI fo), .int (nI ba), .int (nI le), .int (nI sf), .ref aIm, .ref aKp])), (aOw, .inl (cI, 2401, .inl fOw)), (aDg, .inl (cI, 49, .inl fDg)), (aWk, .inl (cI, 49, .inl v))] → va_S (va_M [(aO, .inr (4, [.int (nI Q), .int (nI P), .int (nI M), .int (nI Wd), .ref aOw, .ref aDg, .ref aWk, .ref aSm, .ref aFo, .ref aBk, .int (nI fo), .int (nI ba), .int (nI le), .int (nI sf), .ref aIm, .ref aKp])), (aOw, .inl (cI, 2401, .inl fOw)), (aDg, .inl (cI, 49, .inl fDg)), (aWk, .inl (cI, 49, .inl fWk))]) s.heap H locs → ∀ ls : Array Slot, lv_has ls 7 [(0, .ref aO), (1, .int (nI hg2)), (2, .int (nI d)), (3, .int (nI bb)), (4, .int (nI i)), (5, .int (w i)), (6, .int (nI k))] → W p l e (headSpec wsX4_divide ({ frames := 0, cells := 0, slots := 0, locals := 0 } : Room)).room s m args below meth c H locs 0 0 (MQ below (QcM D [(aO, .inr (4, [.int (nI Q), .int (nI P), .int (nI M), .int (nI Wd), .ref aOw, .ref aDg, .ref aWk, .ref aSm, .ref aFo, .ref aBk, .int (nI fo), .int (nI ba), .int (nI le), .int (nI sf), .ref aIm, .ref aKp])), (aOw, .inl (cI, 2401, .inl fOw)), (aDg, .inl (cI, 49, .inl fDg)), (aWk, .inl (cI, 49, .inl fWk))] [(aO, .inr (4, [.int (nI Q), .int (nI P), .int (nI M), .int (nI Wd), .ref aOw, .ref aDg, .ref aWk, .ref aSm, .ref aFo, .ref aBk, .int (nI fo), .int (nI ba), .int (nI le), .int (nI sf), .ref aIm, .ref aKp])), (aOw, .inl (cI, 2401, .inl fOw)), (aDg, .inl (cI, 49, .inl fDg)), (aWk, .inl (cI, 49, .inl (dvW g bb hg2 fWk)))] (some (.int (nI (hg2 - bb))))) args s 0 0 (va_M [(aO, .inr (4, [.int (nI Q), .int (nI P), .int (nI M), .int (nI Wd), .ref aOw, .ref aDg, .ref aWk, .ref aSm, .ref aFo, .ref aBk, .int (nI fo), .int (nI ba), .int (nI le), .int (nI sf), .ref aIm, .ref aKp])), (aOw, .inl (cI, 2401, .inl fOw)), (aDg, .inl (cI, 49, .inl fDg)), (aWk, .inl (cI, 49, .inl fWk))])) (F0 m 28 ls []) := by
          intro f2
          induction f2 with
          | zero =>
            intro k v h5 h4 H locs hP hD hS ls hl
            refine lv_iload hx hb dX4_divide_28 (lv_at hl 6 rfl) ?_
            refine lv_iload_n hx hb dX4_divide_30 rfl (lv_at hl 3 rfl) ?_
            refine lv_icmp_ge (tgt := 70) hx hb dX4_divide_31 (by decide) (fun c_6 => ?_) (fun c_6 => ?_)
            · skip
              refine lv_iinc (v := nI (i - 1)) (lv' := [(4, .int (nI (i - 1))), (0, .ref aO), (1, .int (nI hg2)), (2, .int (nI d)), (3, .int (nI bb)), (5, .int (w i)), (6, .int (nI k))]) hx hb dX4_divide_70 hl (k := 4) rfl (sb_m1 (by omega)) (by decide) rfl (fun ls hl => ?_)
              refine lv_goto (tgt := 10) hx hb dX4_divide_73 (by decide) ?_
              exact ih_10 (i - 1) _ (by omega) (by omega) (by rw [h2]; simp only [dvO]; rw [h4]; rfl) _ _ hP hD hS ls (lv_sub hl [1, 2, 3, 4, 0] rfl)
            · exfalso; exact c_6 (nI_le (by omega) (by omega))
          | succ f2 ih_28 =>
            intro k v h5 h4 H locs hP hD hS ls hl
            refine lv_iload hx hb dX4_divide_28 (lv_at hl 6 rfl) ?_
            refine lv_iload_n hx hb dX4_divide_30 rfl (lv_at hl 3 rfl) ?_
            refine lv_icmp_ge (tgt := 70) hx hb dX4_divide_31 (by decide) (fun c_7 => ?_) (fun c_7 => ?_)
            · exfalso; exact nI_ge (show k < bb by omega) (by omega) c_7
            · skip
              refine lv_aload_n hx hb dX4_divide_34 rfl (lv_at hl 0 rfl) ?_
              refine va_get (D := D) (ci := 4) (v := .ref aWk) (C := RX4) (T := TX4) (N := 16) hx hb hts hi_X4_divide_X4 hown hT.1 hP 0 rfl rfl 6 (by decide) (hts (.fieldLink RX4 29 "SlotStarModel" "work" "[I") (List.mem_of_getElem? (i := 2) rfl)) (fun _ h9 => h9) rfl dX4_divide_35 ?_
              refine lv_iload hx hb dX4_divide_38 (lv_at hl 4 rfl) ?_
              refine lv_iload_n hx hb dX4_divide_40 rfl (lv_at hl 3 rfl) ?_
              refine lv_isub hx hb dX4_divide_41 ?_
              refine top_eq (z := (nI (i - bb))) (by exact pk_sub (by omega)) ?_
              refine lv_iload hx hb dX4_divide_42 (lv_at hl 6 rfl) ?_
              refine lv_iadd hx hb dX4_divide_44 ?_
              refine top_eq (z := (nI (i - bb + k))) (by exact nI_add _ _) ?_
              refine lv_dup2_11 hx hb dX4_divide_45 rfl rfl ?_
              refine ld_i hx hb hT hP 3 rfl dX4_divide_46 (k := (i - bb + k)) rfl (by omega) (by decide) ?_
              refine lv_iload hx hb dX4_divide_47 (lv_at hl 5 rfl) ?_
              refine lv_aload_n hx hb dX4_divide_49 rfl (lv_at hl 0 rfl) ?_
              refine va_get (D := D) (ci := 4) (v := .ref aOw) (C := RX4) (T := TX4) (N := 16) hx hb hts hi_X4_divide_X4 hown hT.1 hP 0 rfl rfl 4 (by decide) (hts (.fieldLink RX4 22 "SlotStarModel" "own" "[I") (List.mem_of_getElem? (i := 3) rfl)) (fun _ h9 => h9) rfl dX4_divide_50 ?_
              refine lv_bipush (v := 49) hx hb dX4_divide_53 (by decide) ?_
              refine lv_iload_n hx hb dX4_divide_55 rfl (lv_at hl 2 rfl) ?_
              refine lv_imul hx hb dX4_divide_56 ?_
              refine top_eq (z := (nI (49 * d))) (by exact pk_mul 49 d) ?_
              refine lv_iload hx hb dX4_divide_57 (lv_at hl 6 rfl) ?_
              refine lv_iadd hx hb dX4_divide_59 ?_
              refine top_eq (z := (nI (49 * d + k))) (by exact nI_add _ _) ?_
              refine ld_i hx hb hT hP 1 rfl dX4_divide_60 (k := (49 * d + k)) rfl (by omega) (by decide) ?_
              refine top_eq (z := (g k)) (by exact hgr k (by omega)) ?_
              refine lv_imul hx hb dX4_divide_61 ?_
              refine lv_isub hx hb dX4_divide_62 ?_
              refine st_i hx hb hT hP hD hS 3 rfl dX4_divide_63 (k := (i - bb + k)) (W1 := [(aO, .inr (4, [.int (nI Q), .int (nI P), .int (nI M), .int (nI Wd), .ref aOw, .ref aDg, .ref aWk, .ref aSm, .ref aFo, .ref aBk, .int (nI fo), .int (nI ba), .int (nI le), .int (nI sf), .ref aIm, .ref aKp])), (aOw, .inl (cI, 2401, .inl fOw)), (aDg, .inl (cI, 49, .inl fDg)), (aWk, .inl (cI, 49, .inl (upd v (i - bb + k) ((v (i - bb + k)) - ((w i) * (g k))))))]) rfl (by omega) (by decide) rfl (fun H locs hP hD hS => ?_)
              refine lv_iinc (v := nI (k + 1)) (lv' := [(6, .int (nI (k + 1))), (0, .ref aO), (1, .int (nI hg2)), (2, .int (nI d)), (3, .int (nI bb)), (4, .int (nI i)), (5, .int (w i))]) hx hb dX4_divide_64 hl (k := 6) rfl ((nI_succ k).symm) (by decide) rfl (fun ls hl => ?_)
              refine lv_goto (tgt := 28) hx hb dX4_divide_67 (by decide) ?_
              exact ih_28 (k + 1) _ (by omega) (by rw [h4]; rfl) _ _ hP hD hS ls (lv_sub hl [1, 2, 3, 4, 5, 6, 0] rfl)
        exact L_28 bb 0 w (by omega) rfl _ _ hP hD hS ls (lv_sub hl [2, 3, 4, 5, 6, 1, 0] rfl)
  exact L_10 (hg2 + 1 - bb) hg2 fWk (by omega) (by omega) rfl _ _ hP hD hS ls (lv_sub hl [2, 3, 4, 1, 0] rfl)

set_option maxRecDepth 20000 in
theorem hi_X4_layDivisor_X4 : ∀ w ∈ wsX40, w ∈ wsX4_layDivisor := by
  intro w h
  unfold wsX4_layDivisor
  simp only [List.mem_cons, List.mem_append, h, or_true, true_or]
theorem nd_X4_layDivisor : okName yX4_layDivisor 1 := by decide +kernel
set_option maxHeartbeats 4000000 in
set_option maxRecDepth 100000 in
theorem k_X4_layDivisor (l : Launch) (D : va_G) (cI cZ : ClassId) (aO : Nat) (Q : Nat) (P : Nat) (M : Nat) (Wd : Nat) (aOw : Nat) (aDg : Nat) (aWk : Nat) (aSm : Nat) (aFo : Nat) (aBk : Nat) (fo : Nat) (ba : Nat) (le : Nat) (sf : Nat) (aIm : Nat) (aKp : Nat) (fOw : Nat → Int32) (fDg : Nat → Int32) (fWk : Nat → Int32) (n : Nat) (hn : 1 ≤ n ∧ n ≤ 48) (hrw : ∀ e, 1 ≤ e → e < n → n % e = 0 → rowOk fOw fDg e) : MU l yX4_layDivisor wsX4_layDivisor ({ frames := 1, cells := 0, slots := 0, locals := 26 } : Room) D cI cZ [(aO, .inr (4, [.int (nI Q), .int (nI P), .int (nI M), .int (nI Wd), .ref aOw, .ref aDg, .ref aWk, .ref aSm, .ref aFo, .ref aBk, .int (nI fo), .int (nI ba), .int (nI le), .int (nI sf), .ref aIm, .ref aKp])), (aOw, .inl (cI, 2401, .inl fOw)), (aDg, .inl (cI, 49, .inl fDg)), (aWk, .inl (cI, 49, .inl fWk))] [.ref aO, .int (nI n)] none [(aO, .inr (4, [.int (nI Q), .int (nI P), .int (nI M), .int (nI Wd), .ref aOw, .ref aDg, .ref aWk, .ref aSm, .ref aFo, .ref aBk, .int (nI fo), .int (nI ba), .int (nI le), .int (nI sf), .ref aIm, .ref aKp])), (aOw, .inl (cI, 2401, .inl (layO n fOw))), (aDg, .inl (cI, 49, .inl (upd fDg n (nI (dgN n))))), (aWk, .inl (cI, 49, .inl (ldF n)))] := by
  refine mu_start (by decide) rfl (Nat.le_of_ble_eq_true rfl) ?_
  intro p e s m args below meth c hx hb hr hml hlocks hts hown hT hP hD hS ls hl
  have hown : s.vm.findClass RX4 = some m.cls := hown
  have hl : lv_has ls 4 [(0, .ref aO), (1, .int (nI n))] := hl
  refine lv_iconst (v := 0) hx hb dX4_layDivisor_0 (by decide) ?_
  refine lv_istore_n (lv' := [(2, .int 0), (0, .ref aO), (1, .int (nI n))]) hx hb dX4_layDivisor_1 rfl hl (by decide) rfl (fun ls hl => ?_)
  have L_2 : ∀ (f : Nat) (i : Nat) (w : Nat → Int32), i + f = 49 → xnL n 49 0 fWk = xnL n f i w → ∀ (H : Heap) (locs : List Loc), va_P D cls5 [(aO, .inr (4, [.int (nI Q), .int (nI P), .int (nI M), .int (nI Wd), .ref aOw, .ref aDg, .ref aWk, .ref aSm, .ref aFo, .ref aBk, .int (nI fo), .int (nI ba), .int (nI le), .int (nI sf), .ref aIm, .ref aKp])), (aOw, .inl (cI, 2401, .inl fOw)), (aDg, .inl (cI, 49, .inl fDg)), (aWk, .inl (cI, 49, .inl w))] H → va_D (va_M [(aO, .inr (4, [.int (nI Q), .int (nI P), .int (nI M), .int (nI Wd), .ref aOw, .ref aDg, .ref aWk, .ref aSm, .ref aFo, .ref aBk, .int (nI fo), .int (nI ba), .int (nI le), .int (nI sf), .ref aIm, .ref aKp])), (aOw, .inl (cI, 2401, .inl fOw)), (aDg, .inl (cI, 49, .inl fDg)), (aWk, .inl (cI, 49, .inl fWk))]) [(aO, .inr (4, [.int (nI Q), .int (nI P), .int (nI M), .int (nI Wd), .ref aOw, .ref aDg, .ref aWk, .ref aSm, .ref aFo, .ref aBk, .int (nI fo), .int (nI ba), .int (nI le), .int (nI sf), .ref aIm, .ref aKp])), (aOw, .inl (cI, 2401, .inl fOw)), (aDg, .inl (cI, 49, .inl fDg)), (aWk, .inl (cI, 49, .inl w))] → va_S (va_M [(aO, .inr (4, [.int (nI Q), .int (nI P), .int (nI M), .int (nI Wd), .ref aOw, .ref aDg, .ref aWk, .ref aSm, .ref aFo, .ref aBk, .int (nI fo), .int (nI ba), .int (nI le), .int (nI sf), .ref aIm, .ref aKp])), (aOw, .inl (cI, 2401, .inl fOw)), (aDg, .inl (cI, 49, .inl fDg)), (aWk, .inl (cI, 49, .inl fWk))]) s.heap H locs → ∀ ls : Array Slot, lv_has ls 4 [(0, .ref aO), (1, .int (nI n)), (2, .int (nI i))] → W p l e (headSpec wsX4_layDivisor ({ frames := 1, cells := 0, slots := 0, locals := 26 } : Room)).room s m args below meth c H locs 0 0 (MQ below (QcM D [(aO, .inr (4, [.int (nI Q), .int (nI P), .int (nI M), .int (nI Wd), .ref aOw, .ref aDg, .ref aWk, .ref aSm, .ref aFo, .ref aBk, .int (nI fo), .int (nI ba), .int (nI le), .int (nI sf), .ref aIm, .ref aKp])), (aOw, .inl (cI, 2401, .inl fOw)), (aDg, .inl (cI, 49, .inl fDg)), (aWk, .inl (cI, 49, .inl fWk))] [(aO, .inr (4, [.int (nI Q), .int (nI P), .int (nI M), .int (nI Wd), .ref aOw, .ref aDg, .ref aWk, .ref aSm, .ref aFo, .ref aBk, .int (nI fo), .int (nI ba), .int (nI le), .int (nI sf), .ref aIm, .ref aKp])), (aOw, .inl (cI, 2401, .inl (layO n fOw))), (aDg, .inl (cI, 49, .inl (upd fDg n (nI (dgN n))))), (aWk, .inl (cI, 49, .inl (ldF n)))] none) args s 0 0 (va_M [(aO, .inr (4, [.int (nI Q), .int (nI P), .int (nI M), .int (nI Wd), .ref aOw, .ref aDg, .ref aWk, .ref aSm, .ref aFo, .ref aBk, .int (nI fo), .int (nI ba), .int (nI le), .int (nI sf), .ref aIm, .ref aKp])), (aOw, .inl (cI, 2401, .inl fOw)), (aDg, .inl (cI, 49, .inl fDg)), (aWk, .inl (cI, 49, .inl fWk))])) (F0 m 2 ls []) := by
    intro f
    induction f with
    | zero =>
      intro i w h1 h2 H locs hP hD hS ls hl
      refine lv_iload_n hx hb dX4_layDivisor_2 rfl (lv_at hl 2 rfl) ?_
      refine lv_bipush (v := 49) hx hb dX4_layDivisor_3 (by decide) ?_
      refine lv_icmp_ge (tgt := 38) hx hb dX4_layDivisor_5 (by decide) (fun c_1 => ?_) (fun c_1 => ?_)
      · skip
        refine lv_iload_n hx hb dX4_layDivisor_38 rfl (lv_at hl 1 rfl) ?_
        refine lv_istore_n (lv' := [(2, .int (nI n)), (0, .ref aO), (1, .int (nI n))]) hx hb dX4_layDivisor_39 rfl hl (by decide) rfl (fun ls hl => ?_)
        refine lv_iconst (v := 1) hx hb dX4_layDivisor_40 (by decide) ?_
        refine lv_istore_n (lv' := [(3, .int 1), (2, .int (nI n)), (0, .ref aO), (1, .int (nI n))]) hx hb dX4_layDivisor_41 rfl hl (by decide) rfl (fun ls hl => ?_)
        have hP : va_P D cls5 [(aO, .inr (4, [.int (nI Q), .int (nI P), .int (nI M), .int (nI Wd), .ref aOw, .ref aDg, .ref aWk, .ref aSm, .ref aFo, .ref aBk, .int (nI fo), .int (nI ba), .int (nI le), .int (nI sf), .ref aIm, .ref aKp])), (aOw, .inl (cI, 2401, .inl fOw)), (aDg, .inl (cI, 49, .inl fDg)), (aWk, .inl (cI, 49, .inl (xn n)))] _ := arr_eq hP 3 rfl (fun j hj => by have h7 := xnL_at n 49 0 fWk j; rw [h2] at h7; exact h7.1 (by omega)) rfl
        have hD : va_D (va_M [(aO, .inr (4, [.int (nI Q), .int (nI P), .int (nI M), .int (nI Wd), .ref aOw, .ref aDg, .ref aWk, .ref aSm, .ref aFo, .ref aBk, .int (nI fo), .int (nI ba), .int (nI le), .int (nI sf), .ref aIm, .ref aKp])), (aOw, .inl (cI, 2401, .inl fOw)), (aDg, .inl (cI, 49, .inl fDg)), (aWk, .inl (cI, 49, .inl fWk))]) [(aO, .inr (4, [.int (nI Q), .int (nI P), .int (nI M), .int (nI Wd), .ref aOw, .ref aDg, .ref aWk, .ref aSm, .ref aFo, .ref aBk, .int (nI fo), .int (nI ba), .int (nI le), .int (nI sf), .ref aIm, .ref aKp])), (aOw, .inl (cI, 2401, .inl fOw)), (aDg, .inl (cI, 49, .inl fDg)), (aWk, .inl (cI, 49, .inl (xn n)))] := hD.set (p := 3) rfl
        have L_42 : ∀ (f : Nat) (d : Nat) (hh : Nat) (w : Nat → Int32), d + f = n → 1 ≤ d ∧ hh ≤ n → ldOk n f d hh w → ldR n (n - 1) 1 n (xn n) = ldR n f d hh w → ∀ (H : Heap) (locs : List Loc), va_P D cls5 [(aO, .inr (4, [.int (nI Q), .int (nI P), .int (nI M), .int (nI Wd), .ref aOw, .ref aDg, .ref aWk, .ref aSm, .ref aFo, .ref aBk, .int (nI fo), .int (nI ba), .int (nI le), .int (nI sf), .ref aIm, .ref aKp])), (aOw, .inl (cI, 2401, .inl fOw)), (aDg, .inl (cI, 49, .inl fDg)), (aWk, .inl (cI, 49, .inl w))] H → va_D (va_M [(aO, .inr (4, [.int (nI Q), .int (nI P), .int (nI M), .int (nI Wd), .ref aOw, .ref aDg, .ref aWk, .ref aSm, .ref aFo, .ref aBk, .int (nI fo), .int (nI ba), .int (nI le), .int (nI sf), .ref aIm, .ref aKp])), (aOw, .inl (cI, 2401, .inl fOw)), (aDg, .inl (cI, 49, .inl fDg)), (aWk, .inl (cI, 49, .inl fWk))]) [(aO, .inr (4, [.int (nI Q), .int (nI P), .int (nI M), .int (nI Wd), .ref aOw, .ref aDg, .ref aWk, .ref aSm, .ref aFo, .ref aBk, .int (nI fo), .int (nI ba), .int (nI le), .int (nI sf), .ref aIm, .ref aKp])), (aOw, .inl (cI, 2401, .inl fOw)), (aDg, .inl (cI, 49, .inl fDg)), (aWk, .inl (cI, 49, .inl w))] → va_S (va_M [(aO, .inr (4, [.int (nI Q), .int (nI P), .int (nI M), .int (nI Wd), .ref aOw, .ref aDg, .ref aWk, .ref aSm, .ref aFo, .ref aBk, .int (nI fo), .int (nI ba), .int (nI le), .int (nI sf), .ref aIm, .ref aKp])), (aOw, .inl (cI, 2401, .inl fOw)), (aDg, .inl (cI, 49, .inl fDg)), (aWk, .inl (cI, 49, .inl fWk))]) s.heap H locs → ∀ ls : Array Slot, lv_has ls 4 [(0, .ref aO), (1, .int (nI n)), (2, .int (nI hh)), (3, .int (nI d))] → W p l e (headSpec wsX4_layDivisor ({ frames := 1, cells := 0, slots := 0, locals := 26 } : Room)).room s m args below meth c H locs 0 0 (MQ below (QcM D [(aO, .inr (4, [.int (nI Q), .int (nI P), .int (nI M), .int (nI Wd), .ref aOw, .ref aDg, .ref aWk, .ref aSm, .ref aFo, .ref aBk, .int (nI fo), .int (nI ba), .int (nI le), .int (nI sf), .ref aIm, .ref aKp])), (aOw, .inl (cI, 2401, .inl fOw)), (aDg, .inl (cI, 49, .inl fDg)), (aWk, .inl (cI, 49, .inl fWk))] [(aO, .inr (4, [.int (nI Q), .int (nI P), .int (nI M), .int (nI Wd), .ref aOw, .ref aDg, .ref aWk, .ref aSm, .ref aFo, .ref aBk, .int (nI fo), .int (nI ba), .int (nI le), .int (nI sf), .ref aIm, .ref aKp])), (aOw, .inl (cI, 2401, .inl (layO n fOw))), (aDg, .inl (cI, 49, .inl (upd fDg n (nI (dgN n))))), (aWk, .inl (cI, 49, .inl (ldF n)))] none) args s 0 0 (va_M [(aO, .inr (4, [.int (nI Q), .int (nI P), .int (nI M), .int (nI Wd), .ref aOw, .ref aDg, .ref aWk, .ref aSm, .ref aFo, .ref aBk, .int (nI fo), .int (nI ba), .int (nI le), .int (nI sf), .ref aIm, .ref aKp])), (aOw, .inl (cI, 2401, .inl fOw)), (aDg, .inl (cI, 49, .inl fDg)), (aWk, .inl (cI, 49, .inl fWk))])) (F0 m 42 ls []) := by
          intro f
          induction f with
          | zero =>
            intro d hh w h1 h3 hB hR H locs hP hD hS ls hl
            refine lv_iload_n hx hb dX4_layDivisor_42 rfl (lv_at hl 3 rfl) ?_
            refine lv_iload_n hx hb dX4_layDivisor_43 rfl (lv_at hl 1 rfl) ?_
            refine lv_icmp_ge (tgt := 66) hx hb dX4_layDivisor_44 (by decide) (fun c_2 => ?_) (fun c_2 => ?_)
            · skip
              refine lv_iconst (v := 0) hx hb dX4_layDivisor_66 (by decide) ?_
              refine lv_istore_n (lv' := [(3, .int 0), (0, .ref aO), (1, .int (nI n)), (2, .int (nI hh))]) hx hb dX4_layDivisor_67 rfl hl (by decide) rfl (fun ls hl => ?_)
              have L_68 : ∀ (f3 : Nat) (j : Nat) (o : Nat → Int32), j + f3 = 49 → owL n hh w 49 0 fOw = owL n hh w f3 j o → ∀ (H : Heap) (locs : List Loc), va_P D cls5 [(aO, .inr (4, [.int (nI Q), .int (nI P), .int (nI M), .int (nI Wd), .ref aOw, .ref aDg, .ref aWk, .ref aSm, .ref aFo, .ref aBk, .int (nI fo), .int (nI ba), .int (nI le), .int (nI sf), .ref aIm, .ref aKp])), (aOw, .inl (cI, 2401, .inl o)), (aDg, .inl (cI, 49, .inl fDg)), (aWk, .inl (cI, 49, .inl w))] H → va_D (va_M [(aO, .inr (4, [.int (nI Q), .int (nI P), .int (nI M), .int (nI Wd), .ref aOw, .ref aDg, .ref aWk, .ref aSm, .ref aFo, .ref aBk, .int (nI fo), .int (nI ba), .int (nI le), .int (nI sf), .ref aIm, .ref aKp])), (aOw, .inl (cI, 2401, .inl fOw)), (aDg, .inl (cI, 49, .inl fDg)), (aWk, .inl (cI, 49, .inl fWk))]) [(aO, .inr (4, [.int (nI Q), .int (nI P), .int (nI M), .int (nI Wd), .ref aOw, .ref aDg, .ref aWk, .ref aSm, .ref aFo, .ref aBk, .int (nI fo), .int (nI ba), .int (nI le), .int (nI sf), .ref aIm, .ref aKp])), (aOw, .inl (cI, 2401, .inl o)), (aDg, .inl (cI, 49, .inl fDg)), (aWk, .inl (cI, 49, .inl w))] → va_S (va_M [(aO, .inr (4, [.int (nI Q), .int (nI P), .int (nI M), .int (nI Wd), .ref aOw, .ref aDg, .ref aWk, .ref aSm, .ref aFo, .ref aBk, .int (nI fo), .int (nI ba), .int (nI le), .int (nI sf), .ref aIm, .ref aKp])), (aOw, .inl (cI, 2401, .inl fOw)), (aDg, .inl (cI, 49, .inl fDg)), (aWk, .inl (cI, 49, .inl fWk))]) s.heap H locs → ∀ ls : Array Slot, lv_has ls 4 [(0, .ref aO), (1, .int (nI n)), (2, .int (nI hh)), (3, .int (nI j))] → W p l e (headSpec wsX4_layDivisor ({ frames := 1, cells := 0, slots := 0, locals := 26 } : Room)).room s m args below meth c H locs 0 0 (MQ below (QcM D [(aO, .inr (4, [.int (nI Q), .int (nI P), .int (nI M), .int (nI Wd), .ref aOw, .ref aDg, .ref aWk, .ref aSm, .ref aFo, .ref aBk, .int (nI fo), .int (nI ba), .int (nI le), .int (nI sf), .ref aIm, .ref aKp])), (aOw, .inl (cI, 2401, .inl fOw)), (aDg, .inl (cI, 49, .inl fDg)), (aWk, .inl (cI, 49, .inl fWk))] [(aO, .inr (4, [.int (nI Q), .int (nI P), .int (nI M), .int (nI Wd), .ref aOw, .ref aDg, .ref aWk, .ref aSm, .ref aFo, .ref aBk, .int (nI fo), .int (nI ba), .int (nI le), .int (nI sf), .ref aIm, .ref aKp])), (aOw, .inl (cI, 2401, .inl (layO n fOw))), (aDg, .inl (cI, 49, .inl (upd fDg n (nI (dgN n))))), (aWk, .inl (cI, 49, .inl (ldF n)))] none) args s 0 0 (va_M [(aO, .inr (4, [.int (nI Q), .int (nI P), .int (nI M), .int (nI Wd), .ref aOw, .ref aDg, .ref aWk, .ref aSm, .ref aFo, .ref aBk, .int (nI fo), .int (nI ba), .int (nI le), .int (nI sf), .ref aIm, .ref aKp])), (aOw, .inl (cI, 2401, .inl fOw)), (aDg, .inl (cI, 49, .inl fDg)), (aWk, .inl (cI, 49, .inl fWk))])) (F0 m 68 ls []) := by
                intro f3
                induction f3 with
                | zero =>
                  intro j o h7 h6 H locs hP hD hS ls hl
                  refine lv_iload_n hx hb dX4_layDivisor_68 rfl (lv_at hl 3 rfl) ?_
                  refine lv_bipush (v := 49) hx hb dX4_layDivisor_69 (by decide) ?_
                  refine lv_icmp_ge (tgt := 106) hx hb dX4_layDivisor_71 (by decide) (fun c_3 => ?_) (fun c_3 => ?_)
                  · skip
                    refine lv_aload_n hx hb dX4_layDivisor_106 rfl (lv_at hl 0 rfl) ?_
                    refine va_get (D := D) (ci := 4) (v := .ref aDg) (C := RX4) (T := TX4) (N := 16) hx hb hts hi_X4_layDivisor_X4 hown hT.1 hP 0 rfl rfl 5 (by decide) (hts (.fieldLink RX4 26 "SlotStarModel" "degree" "[I") (List.mem_of_getElem? (i := 3) rfl)) (fun _ h9 => h9) rfl dX4_layDivisor_107 ?_
                    refine lv_iload_n hx hb dX4_layDivisor_110 rfl (lv_at hl 1 rfl) ?_
                    refine lv_iload_n hx hb dX4_layDivisor_111 rfl (lv_at hl 2 rfl) ?_
                    refine st_i hx hb hT hP hD hS 2 rfl dX4_layDivisor_112 (k := n) (W1 := [(aO, .inr (4, [.int (nI Q), .int (nI P), .int (nI M), .int (nI Wd), .ref aOw, .ref aDg, .ref aWk, .ref aSm, .ref aFo, .ref aBk, .int (nI fo), .int (nI ba), .int (nI le), .int (nI sf), .ref aIm, .ref aKp])), (aOw, .inl (cI, 2401, .inl o)), (aDg, .inl (cI, 49, .inl (upd fDg n (nI hh)))), (aWk, .inl (cI, 49, .inl w))]) rfl (by omega) (by decide) rfl (fun H locs hP hD hS => ?_)
                    exact mu_retv hx hb hr hlocks dX4_layDivisor_113 (by have e3 : ldF n = w := (by unfold ldF; rw [hR]; rfl); have e4 : dgN n = hh := hB.1.symm; have e5 := hB.2; rw [e3, e4]; exact arr_eq hP 1 rfl (fun x hx9 => by have h8 := owL_lay fOw e5 x; rw [h6] at h8; exact h8) rfl) hS
                  · exfalso; exact c_3 (by rw [show j = 49 by omega]; decide)
                | succ f3 ih_68 =>
                  intro j o h7 h6 H locs hP hD hS ls hl
                  refine lv_iload_n hx hb dX4_layDivisor_68 rfl (lv_at hl 3 rfl) ?_
                  refine lv_bipush (v := 49) hx hb dX4_layDivisor_69 (by decide) ?_
                  refine lv_icmp_ge (tgt := 106) hx hb dX4_layDivisor_71 (by decide) (fun c_4 => ?_) (fun c_4 => ?_)
                  · exfalso; exact nI_ge (b := 49) (show j < 49 by omega) (by decide) c_4
                  · skip
                    refine lv_aload_n hx hb dX4_layDivisor_74 rfl (lv_at hl 0 rfl) ?_
                    refine va_get (D := D) (ci := 4) (v := .ref aOw) (C := RX4) (T := TX4) (N := 16) hx hb hts hi_X4_layDivisor_X4 hown hT.1 hP 0 rfl rfl 4 (by decide) (hts (.fieldLink RX4 22 "SlotStarModel" "own" "[I") (List.mem_of_getElem? (i := 2) rfl)) (fun _ h9 => h9) rfl dX4_layDivisor_75 ?_
                    refine lv_bipush (v := 49) hx hb dX4_layDivisor_78 (by decide) ?_
                    refine lv_iload_n hx hb dX4_layDivisor_80 rfl (lv_at hl 1 rfl) ?_
                    refine lv_imul hx hb dX4_layDivisor_81 ?_
                    refine top_eq (z := (nI (49 * n))) (by exact pk_mul 49 n) ?_
                    refine lv_iload_n hx hb dX4_layDivisor_82 rfl (lv_at hl 3 rfl) ?_
                    refine lv_iadd hx hb dX4_layDivisor_83 ?_
                    refine top_eq (z := (nI (49 * n + j))) (by exact nI_add _ _) ?_
                    refine lv_iload_n hx hb dX4_layDivisor_84 rfl (lv_at hl 3 rfl) ?_
                    refine lv_iload_n hx hb dX4_layDivisor_85 rfl (lv_at hl 2 rfl) ?_
                    refine lv_icmp_gt (tgt := 98) hx hb dX4_layDivisor_86 (by decide) (fun c_5 => ?_) (fun c_5 => ?_)
                    · skip
                      have hjh : ¬ j ≤ hh := fun q => absurd c_5 (nI_nlt q (by omega))
                      refine lv_iconst (v := 0) hx hb dX4_layDivisor_98 (by decide) ?_
                      refine st_i hx hb hT hP hD hS 1 rfl dX4_layDivisor_99 (k := (49 * n + j)) (W1 := [(aO, .inr (4, [.int (nI Q), .int (nI P), .int (nI M), .int (nI Wd), .ref aOw, .ref aDg, .ref aWk, .ref aSm, .ref aFo, .ref aBk, .int (nI fo), .int (nI ba), .int (nI le), .int (nI sf), .ref aIm, .ref aKp])), (aOw, .inl (cI, 2401, .inl (upd o (49 * n + j) 0))), (aDg, .inl (cI, 49, .inl fDg)), (aWk, .inl (cI, 49, .inl w))]) rfl (by omega) (by decide) rfl (fun H locs hP hD hS => ?_)
                      refine lv_iinc (v := nI (j + 1)) (lv' := [(3, .int (nI (j + 1))), (0, .ref aO), (1, .int (nI n)), (2, .int (nI hh))]) hx hb dX4_layDivisor_100 hl (k := 3) rfl ((nI_succ j).symm) (by decide) rfl (fun ls hl => ?_)
                      refine lv_goto (tgt := 68) hx hb dX4_layDivisor_103 (by decide) ?_
                      exact ih_68 (j + 1) _ (by omega) (by rw [h6]; simp [owL, hjh]) _ _ hP hD hS ls (lv_sub hl [1, 2, 3, 0] rfl)
                    · skip
                      have hjh : j ≤ hh := Nat.not_lt.mp fun q => c_5 (nI_lt q (by omega))
                      refine lv_aload_n hx hb dX4_layDivisor_89 rfl (lv_at hl 0 rfl) ?_
                      refine va_get (D := D) (ci := 4) (v := .ref aWk) (C := RX4) (T := TX4) (N := 16) hx hb hts hi_X4_layDivisor_X4 hown hT.1 hP 0 rfl rfl 6 (by decide) (hts (.fieldLink RX4 29 "SlotStarModel" "work" "[I") (List.mem_of_getElem? (i := 1) rfl)) (fun _ h9 => h9) rfl dX4_layDivisor_90 ?_
                      refine lv_iload_n hx hb dX4_layDivisor_93 rfl (lv_at hl 3 rfl) ?_
                      refine ld_i hx hb hT hP 3 rfl dX4_layDivisor_94 (k := j) rfl (by omega) (by decide) ?_
                      refine lv_goto (tgt := 99) hx hb dX4_layDivisor_95 (by decide) ?_
                      refine st_i hx hb hT hP hD hS 1 rfl dX4_layDivisor_99 (k := (49 * n + j)) (W1 := [(aO, .inr (4, [.int (nI Q), .int (nI P), .int (nI M), .int (nI Wd), .ref aOw, .ref aDg, .ref aWk, .ref aSm, .ref aFo, .ref aBk, .int (nI fo), .int (nI ba), .int (nI le), .int (nI sf), .ref aIm, .ref aKp])), (aOw, .inl (cI, 2401, .inl (upd o (49 * n + j) (w j)))), (aDg, .inl (cI, 49, .inl fDg)), (aWk, .inl (cI, 49, .inl w))]) rfl (by omega) (by decide) rfl (fun H locs hP hD hS => ?_)
                      refine lv_iinc (v := nI (j + 1)) (lv' := [(3, .int (nI (j + 1))), (0, .ref aO), (1, .int (nI n)), (2, .int (nI hh))]) hx hb dX4_layDivisor_100 hl (k := 3) rfl ((nI_succ j).symm) (by decide) rfl (fun ls hl => ?_)
                      refine lv_goto (tgt := 68) hx hb dX4_layDivisor_103 (by decide) ?_
                      exact ih_68 (j + 1) _ (by omega) (by rw [h6]; simp [owL, hjh]) _ _ hP hD hS ls (lv_sub hl [1, 2, 3, 0] rfl)
              exact L_68 49 0 fOw rfl rfl _ _ hP hD hS ls (lv_sub hl [1, 2, 3, 0] rfl)
            · exfalso; exact c_2 (nI_le (by omega) (by omega))
          | succ f ih_42 =>
            intro d hh w h1 h3 hB hR H locs hP hD hS ls hl
            refine lv_iload_n hx hb dX4_layDivisor_42 rfl (lv_at hl 3 rfl) ?_
            refine lv_iload_n hx hb dX4_layDivisor_43 rfl (lv_at hl 1 rfl) ?_
            refine lv_icmp_ge (tgt := 66) hx hb dX4_layDivisor_44 (by decide) (fun c_6 => ?_) (fun c_6 => ?_)
            · exfalso; exact nI_ge (show d < n by omega) (by omega) c_6
            · skip
              refine lv_iload_n hx hb dX4_layDivisor_47 rfl (lv_at hl 1 rfl) ?_
              refine lv_iload_n hx hb dX4_layDivisor_48 rfl (lv_at hl 3 rfl) ?_
              refine lv_irem hx hb dX4_layDivisor_49 (nI_ne0 (by omega) (by omega)) ?_
              refine lv_if_ne (tgt := 60) hx hb dX4_layDivisor_50 (by decide) (fun c_7 => ?_) (fun c_7 => ?_)
              · skip
                have hm1 : ¬ n % d = 0 := fun q => c_7 ((nIm0 (by omega) (by omega) (by omega)).mpr q)
                have hB2 := ldOk_no hm1 hB
                refine lv_iinc (v := nI (d + 1)) (lv' := [(3, .int (nI (d + 1))), (0, .ref aO), (1, .int (nI n)), (2, .int (nI hh))]) hx hb dX4_layDivisor_60 hl (k := 3) rfl ((nI_succ d).symm) (by decide) rfl (fun ls hl => ?_)
                refine lv_goto (tgt := 42) hx hb dX4_layDivisor_63 (by decide) ?_
                exact ih_42 (d + 1) hh _ (by omega) (by omega) (by first | exact hB2.2 | exact hB2) (by rw [hR]; simp [ldR, hm1]) _ _ hP hD hS ls (lv_sub hl [1, 2, 3, 0] rfl)
              · skip
                have hm1 : n % d = 0 := (nIm0 (by omega) (by omega) (by omega)).mp c_7
                have hB2 := ldOk_yes hm1 hB
                have hrd := hrw d (by omega) (by omega) hm1
                have hdp := dg_pos d (by omega) (by omega)
                have hdl := dg_le d
                refine lv_aload_n hx hb dX4_layDivisor_53 rfl (lv_at hl 0 rfl) ?_
                refine lv_iload_n hx hb dX4_layDivisor_54 rfl (lv_at hl 2 rfl) ?_
                refine lv_iload_n hx hb dX4_layDivisor_55 rfl (lv_at hl 3 rfl) ?_
                refine mu_V (As := [.int (nI hh), .int (nI d)]) (rest := []) (W1 := [(aO, .inr (4, [.int (nI Q), .int (nI P), .int (nI M), .int (nI Wd), .ref aOw, .ref aDg, .ref aWk, .ref aSm, .ref aFo, .ref aBk, .int (nI fo), .int (nI ba), .int (nI le), .int (nI sf), .ref aIm, .ref aKp])), (aOw, .inl (cI, 2401, .inl fOw)), (aDg, .inl (cI, 49, .inl fDg)), (aWk, .inl (cI, 49, .inl (dvW (cyR d) (dgN d) hh w)))]) (st1 := [.int (nI (hh - (dgN d)))]) ⟨hx, hb, hml, hown, hts⟩ hT hP hD hS (k_X4_divide l D cI cZ aO Q P M Wd aOw aDg aWk aSm aFo aBk fo ba le sf aIm aKp fOw fDg w hh d (dgN d) (cyR d) (by omega) (hrd.1) hdp (hB2.1) (by omega) (fun k hk => hrd.2 k (by omega))) gX4_layDivisor_X4_divide rfl rfl nd_X4_divide [0, 1, 2, 3] (by decide) rfl rfl rfl rfl (ci := 4) rfl rfl (q0 := 0) rfl hl.1 rfl rfl (Nat.le_of_ble_eq_true rfl) ⟨Nat.le_of_ble_eq_true rfl, Nat.le_of_ble_eq_true rfl⟩ ⟨rfl, rfl⟩ ⟨Nat.zero_le _, Nat.zero_le _⟩ dX4_layDivisor_56 (fun H locs hP hD hS => ?_)
                refine lv_istore_n (lv' := [(2, .int (nI (hh - (dgN d)))), (0, .ref aO), (1, .int (nI n)), (3, .int (nI d))]) hx hb dX4_layDivisor_59 rfl hl (by decide) rfl (fun ls hl => ?_)
                refine lv_iinc (v := nI (d + 1)) (lv' := [(3, .int (nI (d + 1))), (2, .int (nI (hh - (dgN d)))), (0, .ref aO), (1, .int (nI n))]) hx hb dX4_layDivisor_60 hl (k := 3) rfl ((nI_succ d).symm) (by decide) rfl (fun ls hl => ?_)
                refine lv_goto (tgt := 42) hx hb dX4_layDivisor_63 (by decide) ?_
                exact ih_42 (d + 1) (hh - (dgN d)) _ (by omega) (by omega) (by first | exact hB2.2 | exact hB2) (by rw [hR]; simp [ldR, hm1]) _ _ hP hD hS ls (lv_sub hl [2, 3, 1, 0] rfl)
        exact L_42 (n - 1) 1 n (xn n) (by omega) (by omega) (LD n hn.1 hn.2) rfl _ _ hP hD hS ls (lv_sub hl [2, 3, 1, 0] rfl)
      · exfalso; exact c_1 (by rw [show i = 49 by omega]; decide)
    | succ f ih_2 =>
      intro i w h1 h2 H locs hP hD hS ls hl
      refine lv_iload_n hx hb dX4_layDivisor_2 rfl (lv_at hl 2 rfl) ?_
      refine lv_bipush (v := 49) hx hb dX4_layDivisor_3 (by decide) ?_
      refine lv_icmp_ge (tgt := 38) hx hb dX4_layDivisor_5 (by decide) (fun c_8 => ?_) (fun c_8 => ?_)
      · exfalso; exact nI_ge (b := 49) (show i < 49 by omega) (by decide) c_8
      · skip
        refine lv_aload_n hx hb dX4_layDivisor_8 rfl (lv_at hl 0 rfl) ?_
        refine va_get (D := D) (ci := 4) (v := .ref aWk) (C := RX4) (T := TX4) (N := 16) hx hb hts hi_X4_layDivisor_X4 hown hT.1 hP 0 rfl rfl 6 (by decide) (hts (.fieldLink RX4 29 "SlotStarModel" "work" "[I") (List.mem_of_getElem? (i := 1) rfl)) (fun _ h9 => h9) rfl dX4_layDivisor_9 ?_
        refine lv_iload_n hx hb dX4_layDivisor_12 rfl (lv_at hl 2 rfl) ?_
        refine lv_iload_n hx hb dX4_layDivisor_13 rfl (lv_at hl 2 rfl) ?_
        refine lv_iload_n hx hb dX4_layDivisor_14 rfl (lv_at hl 1 rfl) ?_
        refine lv_icmp_ne (tgt := 22) hx hb dX4_layDivisor_15 (by decide) (fun c_9 => ?_) (fun c_9 => ?_)
        · skip
          have hin : ¬ i = n := fun q => c_9 (by rw [q])
          refine lv_iload_n hx hb dX4_layDivisor_22 rfl (lv_at hl 2 rfl) ?_
          refine lv_if_ne (tgt := 30) hx hb dX4_layDivisor_23 (by decide) (fun c_10 => ?_) (fun c_10 => ?_)
          · skip
            have hi0 : ¬ i = 0 := fun q => c_10 (by rw [q]; rfl)
            refine lv_iconst (v := 0) hx hb dX4_layDivisor_30 (by decide) ?_
            refine top_eq (z := (xn n i)) (by simp [xn, hin, hi0]) ?_
            refine st_i hx hb hT hP hD hS 3 rfl dX4_layDivisor_31 (k := i) (W1 := [(aO, .inr (4, [.int (nI Q), .int (nI P), .int (nI M), .int (nI Wd), .ref aOw, .ref aDg, .ref aWk, .ref aSm, .ref aFo, .ref aBk, .int (nI fo), .int (nI ba), .int (nI le), .int (nI sf), .ref aIm, .ref aKp])), (aOw, .inl (cI, 2401, .inl fOw)), (aDg, .inl (cI, 49, .inl fDg)), (aWk, .inl (cI, 49, .inl (upd w i (xn n i))))]) rfl (by omega) (by decide) rfl (fun H locs hP hD hS => ?_)
            refine lv_iinc (v := nI (i + 1)) (lv' := [(2, .int (nI (i + 1))), (0, .ref aO), (1, .int (nI n))]) hx hb dX4_layDivisor_32 hl (k := 2) rfl ((nI_succ i).symm) (by decide) rfl (fun ls hl => ?_)
            refine lv_goto (tgt := 2) hx hb dX4_layDivisor_35 (by decide) ?_
            exact ih_2 (i + 1) _ (by omega) (by rw [h2]; rfl) _ _ hP hD hS ls (lv_sub hl [1, 2, 0] rfl)
          · skip
            have hi0 : i = 0 := (nI_eq0 (by omega)).mp c_10
            refine lv_iconst (v := (-1)) hx hb dX4_layDivisor_26 (by decide) ?_
            refine top_eq (z := (xn n i)) (by simp [xn, hin, hi0]; try omega) ?_
            refine lv_goto (tgt := 31) hx hb dX4_layDivisor_27 (by decide) ?_
            refine st_i hx hb hT hP hD hS 3 rfl dX4_layDivisor_31 (k := i) (W1 := [(aO, .inr (4, [.int (nI Q), .int (nI P), .int (nI M), .int (nI Wd), .ref aOw, .ref aDg, .ref aWk, .ref aSm, .ref aFo, .ref aBk, .int (nI fo), .int (nI ba), .int (nI le), .int (nI sf), .ref aIm, .ref aKp])), (aOw, .inl (cI, 2401, .inl fOw)), (aDg, .inl (cI, 49, .inl fDg)), (aWk, .inl (cI, 49, .inl (upd w i (xn n i))))]) rfl (by omega) (by decide) rfl (fun H locs hP hD hS => ?_)
            refine lv_iinc (v := nI (i + 1)) (lv' := [(2, .int (nI (i + 1))), (0, .ref aO), (1, .int (nI n))]) hx hb dX4_layDivisor_32 hl (k := 2) rfl ((nI_succ i).symm) (by decide) rfl (fun ls hl => ?_)
            refine lv_goto (tgt := 2) hx hb dX4_layDivisor_35 (by decide) ?_
            exact ih_2 (i + 1) _ (by omega) (by rw [h2]; rfl) _ _ hP hD hS ls (lv_sub hl [1, 2, 0] rfl)
        · skip
          have hin : i = n := (nI_eq (by omega) (by omega)).mp c_9
          refine lv_iconst (v := 1) hx hb dX4_layDivisor_18 (by decide) ?_
          refine top_eq (z := (xn n i)) (by simp [xn, hin]) ?_
          refine lv_goto (tgt := 31) hx hb dX4_layDivisor_19 (by decide) ?_
          refine st_i hx hb hT hP hD hS 3 rfl dX4_layDivisor_31 (k := i) (W1 := [(aO, .inr (4, [.int (nI Q), .int (nI P), .int (nI M), .int (nI Wd), .ref aOw, .ref aDg, .ref aWk, .ref aSm, .ref aFo, .ref aBk, .int (nI fo), .int (nI ba), .int (nI le), .int (nI sf), .ref aIm, .ref aKp])), (aOw, .inl (cI, 2401, .inl fOw)), (aDg, .inl (cI, 49, .inl fDg)), (aWk, .inl (cI, 49, .inl (upd w i (xn n i))))]) rfl (by omega) (by decide) rfl (fun H locs hP hD hS => ?_)
          refine lv_iinc (v := nI (i + 1)) (lv' := [(2, .int (nI (i + 1))), (0, .ref aO), (1, .int (nI n))]) hx hb dX4_layDivisor_32 hl (k := 2) rfl ((nI_succ i).symm) (by decide) rfl (fun ls hl => ?_)
          refine lv_goto (tgt := 2) hx hb dX4_layDivisor_35 (by decide) ?_
          exact ih_2 (i + 1) _ (by omega) (by rw [h2]; rfl) _ _ hP hD hS ls (lv_sub hl [1, 2, 0] rfl)
  exact L_2 49 0 fWk rfl rfl _ _ hP hD hS ls (lv_sub hl [1, 2, 0] rfl)

theorem nd_X4_layOwn : okName yX4_layOwn 0 := by decide +kernel
set_option maxHeartbeats 4000000 in
set_option maxRecDepth 100000 in
theorem k_X4_layOwn (l : Launch) (D : va_G) (cI cZ : ClassId) (aO : Nat) (Q : Nat) (P : Nat) (M : Nat) (Wd : Nat) (aOw : Nat) (aDg : Nat) (aWk : Nat) (aSm : Nat) (aFo : Nat) (aBk : Nat) (fo : Nat) (ba : Nat) (le : Nat) (sf : Nat) (aIm : Nat) (aKp : Nat) (fOw : Nat → Int32) (fDg : Nat → Int32) (fWk : Nat → Int32) (hv : MV Q P M Wd) : MU l yX4_layOwn wsX4_layOwn ({ frames := 3, cells := 0, slots := 0, locals := 64 } : Room) D cI cZ [(aO, .inr (4, [.int (nI Q), .int (nI P), .int (nI M), .int (nI Wd), .ref aOw, .ref aDg, .ref aWk, .ref aSm, .ref aFo, .ref aBk, .int (nI fo), .int (nI ba), .int (nI le), .int (nI sf), .ref aIm, .ref aKp])), (aOw, .inl (cI, 2401, .inl fOw)), (aDg, .inl (cI, 49, .inl fDg)), (aWk, .inl (cI, 49, .inl fWk))] [.ref aO] none [(aO, .inr (4, [.int (nI Q), .int (nI P), .int (nI M), .int (nI Wd), .ref aOw, .ref aDg, .ref aWk, .ref aSm, .ref aFo, .ref aBk, .int (nI fo), .int (nI ba), .int (nI le), .int (nI sf), .ref aIm, .ref aKp])), (aOw, .inl (cI, 2401, .inl (lO (tN Q P) fOw))), (aDg, .inl (cI, 49, .inl (lD (tN Q P) fDg))), (aWk, .inl (cI, 49, .inl (lW (tN Q P) fWk)))] := by
  refine mu_start (by decide) rfl (Nat.le_of_ble_eq_true rfl) ?_
  intro p e s m args below meth c hx hb hr hml hlocks hts hown hT hP hD hS ls hl
  have hown : s.vm.findClass RX4 = some m.cls := hown
  have hl : lv_has ls 3 [(0, .ref aO)] := hl
  have hv' := hv
  unfold MV at hv'
  have hn0 := tN_pos hv
  have hn1 := tN_le hv
  refine lv_aload_n hx hb dX4_layOwn_0 rfl (lv_at hl 0 rfl) ?_
  refine ro_V (As := []) (rest := []) ⟨hx, hb, hml, hown, hts⟩ hT hP (k_X4_star l D cI cZ aO Q P M Wd aOw aDg aWk aSm aFo aBk fo ba le sf aIm aKp hv) gX4_layOwn_X4_star rfl rfl nd_X4_star [0] rfl (ci := 4) rfl rfl (q0 := 0) rfl hl.1 rfl rfl (Nat.le_of_ble_eq_true rfl) ⟨Nat.le_of_ble_eq_true rfl, Nat.le_of_ble_eq_true rfl⟩ ⟨rfl, rfl⟩ ⟨Nat.zero_le _, Nat.zero_le _⟩ dX4_layOwn_1 ?_
  refine lv_istore_n (lv' := [(1, .int (nI (tN Q P))), (0, .ref aO)]) hx hb dX4_layOwn_4 rfl hl (by decide) rfl (fun ls hl => ?_)
  refine lv_iconst (v := 1) hx hb dX4_layOwn_5 (by decide) ?_
  refine lv_istore_n (lv' := [(2, .int 1), (1, .int (nI (tN Q P))), (0, .ref aO)]) hx hb dX4_layOwn_6 rfl hl (by decide) rfl (fun ls hl => ?_)
  have L_7 : ∀ (f : Nat) (d : Nat) (o : Nat → Int32) (g : Nat → Int32) (w : Nat → Int32), d + f = tN Q P + 1 → 1 ≤ d → (∀ e, 1 ≤ e → e < d → tN Q P % e = 0 → rowOk o g e) → lO (tN Q P) fOw = loO (tN Q P) f d o → lD (tN Q P) fDg = loD (tN Q P) f d g → lW (tN Q P) fWk = loW (tN Q P) f d w → ∀ (H : Heap) (locs : List Loc), va_P D cls5 [(aO, .inr (4, [.int (nI Q), .int (nI P), .int (nI M), .int (nI Wd), .ref aOw, .ref aDg, .ref aWk, .ref aSm, .ref aFo, .ref aBk, .int (nI fo), .int (nI ba), .int (nI le), .int (nI sf), .ref aIm, .ref aKp])), (aOw, .inl (cI, 2401, .inl o)), (aDg, .inl (cI, 49, .inl g)), (aWk, .inl (cI, 49, .inl w))] H → va_D (va_M [(aO, .inr (4, [.int (nI Q), .int (nI P), .int (nI M), .int (nI Wd), .ref aOw, .ref aDg, .ref aWk, .ref aSm, .ref aFo, .ref aBk, .int (nI fo), .int (nI ba), .int (nI le), .int (nI sf), .ref aIm, .ref aKp])), (aOw, .inl (cI, 2401, .inl fOw)), (aDg, .inl (cI, 49, .inl fDg)), (aWk, .inl (cI, 49, .inl fWk))]) [(aO, .inr (4, [.int (nI Q), .int (nI P), .int (nI M), .int (nI Wd), .ref aOw, .ref aDg, .ref aWk, .ref aSm, .ref aFo, .ref aBk, .int (nI fo), .int (nI ba), .int (nI le), .int (nI sf), .ref aIm, .ref aKp])), (aOw, .inl (cI, 2401, .inl o)), (aDg, .inl (cI, 49, .inl g)), (aWk, .inl (cI, 49, .inl w))] → va_S (va_M [(aO, .inr (4, [.int (nI Q), .int (nI P), .int (nI M), .int (nI Wd), .ref aOw, .ref aDg, .ref aWk, .ref aSm, .ref aFo, .ref aBk, .int (nI fo), .int (nI ba), .int (nI le), .int (nI sf), .ref aIm, .ref aKp])), (aOw, .inl (cI, 2401, .inl fOw)), (aDg, .inl (cI, 49, .inl fDg)), (aWk, .inl (cI, 49, .inl fWk))]) s.heap H locs → ∀ ls : Array Slot, lv_has ls 3 [(0, .ref aO), (1, .int (nI (tN Q P))), (2, .int (nI d))] → W p l e (headSpec wsX4_layOwn ({ frames := 3, cells := 0, slots := 0, locals := 64 } : Room)).room s m args below meth c H locs 0 0 (MQ below (QcM D [(aO, .inr (4, [.int (nI Q), .int (nI P), .int (nI M), .int (nI Wd), .ref aOw, .ref aDg, .ref aWk, .ref aSm, .ref aFo, .ref aBk, .int (nI fo), .int (nI ba), .int (nI le), .int (nI sf), .ref aIm, .ref aKp])), (aOw, .inl (cI, 2401, .inl fOw)), (aDg, .inl (cI, 49, .inl fDg)), (aWk, .inl (cI, 49, .inl fWk))] [(aO, .inr (4, [.int (nI Q), .int (nI P), .int (nI M), .int (nI Wd), .ref aOw, .ref aDg, .ref aWk, .ref aSm, .ref aFo, .ref aBk, .int (nI fo), .int (nI ba), .int (nI le), .int (nI sf), .ref aIm, .ref aKp])), (aOw, .inl (cI, 2401, .inl (lO (tN Q P) fOw))), (aDg, .inl (cI, 49, .inl (lD (tN Q P) fDg))), (aWk, .inl (cI, 49, .inl (lW (tN Q P) fWk)))] none) args s 0 0 (va_M [(aO, .inr (4, [.int (nI Q), .int (nI P), .int (nI M), .int (nI Wd), .ref aOw, .ref aDg, .ref aWk, .ref aSm, .ref aFo, .ref aBk, .int (nI fo), .int (nI ba), .int (nI le), .int (nI sf), .ref aIm, .ref aKp])), (aOw, .inl (cI, 2401, .inl fOw)), (aDg, .inl (cI, 49, .inl fDg)), (aWk, .inl (cI, 49, .inl fWk))])) (F0 m 7 ls []) := by
    intro f
    induction f with
    | zero =>
      intro d o g w h1 h3 h4 e1 e2 e3 H locs hP hD hS ls hl
      refine lv_iload_n hx hb dX4_layOwn_7 rfl (lv_at hl 2 rfl) ?_
      refine lv_iload_n hx hb dX4_layOwn_8 rfl (lv_at hl 1 rfl) ?_
      refine lv_icmp_gt (tgt := 29) hx hb dX4_layOwn_9 (by decide) (fun c_1 => ?_) (fun c_1 => ?_)
      · skip
        exact mu_retv hx hb hr hlocks dX4_layOwn_29 (by rw [e1, e2, e3]; exact hP) hS
      · exfalso; exact c_1 (nI_lt (by omega) (by omega))
    | succ f ih_7 =>
      intro d o g w h1 h3 h4 e1 e2 e3 H locs hP hD hS ls hl
      refine lv_iload_n hx hb dX4_layOwn_7 rfl (lv_at hl 2 rfl) ?_
      refine lv_iload_n hx hb dX4_layOwn_8 rfl (lv_at hl 1 rfl) ?_
      refine lv_icmp_gt (tgt := 29) hx hb dX4_layOwn_9 (by decide) (fun c_2 => ?_) (fun c_2 => ?_)
      · exfalso; exact nI_nlt (show d ≤ tN Q P by omega) (by omega) c_2
      · skip
        refine lv_iload_n hx hb dX4_layOwn_12 rfl (lv_at hl 1 rfl) ?_
        refine lv_iload_n hx hb dX4_layOwn_13 rfl (lv_at hl 2 rfl) ?_
        refine lv_irem hx hb dX4_layOwn_14 (nI_ne0 (by omega) (by omega)) ?_
        refine lv_if_ne (tgt := 23) hx hb dX4_layOwn_15 (by decide) (fun c_3 => ?_) (fun c_3 => ?_)
        · skip
          have hm1 : ¬ tN Q P % d = 0 := fun q => c_3 ((nIm0 (by omega) (by omega) (by omega)).mpr q)
          refine lv_iinc (v := nI (d + 1)) (lv' := [(2, .int (nI (d + 1))), (0, .ref aO), (1, .int (nI (tN Q P)))]) hx hb dX4_layOwn_23 hl (k := 2) rfl ((nI_succ d).symm) (by decide) rfl (fun ls hl => ?_)
          refine lv_goto (tgt := 7) hx hb dX4_layOwn_26 (by decide) ?_
          exact ih_7 (d + 1) _ _ _ (by omega) (by omega) (by have h9 := rows_step h4; simpa only [hm1, if_true, if_false] using h9) (by rw [e1]; simp [loO, hm1]) (by rw [e2]; simp [loD, hm1]) (by rw [e3]; simp [loW, hm1]) _ _ hP hD hS ls (lv_sub hl [1, 2, 0] rfl)
        · skip
          have hm1 : tN Q P % d = 0 := (nIm0 (by omega) (by omega) (by omega)).mp c_3
          refine lv_aload_n hx hb dX4_layOwn_18 rfl (lv_at hl 0 rfl) ?_
          refine lv_iload_n hx hb dX4_layOwn_19 rfl (lv_at hl 2 rfl) ?_
          refine mu_V (As := [.int (nI d)]) (rest := []) (W1 := [(aO, .inr (4, [.int (nI Q), .int (nI P), .int (nI M), .int (nI Wd), .ref aOw, .ref aDg, .ref aWk, .ref aSm, .ref aFo, .ref aBk, .int (nI fo), .int (nI ba), .int (nI le), .int (nI sf), .ref aIm, .ref aKp])), (aOw, .inl (cI, 2401, .inl (layO d o))), (aDg, .inl (cI, 49, .inl (upd g d (nI (dgN d))))), (aWk, .inl (cI, 49, .inl (ldF d)))]) (st1 := []) ⟨hx, hb, hml, hown, hts⟩ hT hP hD hS (k_X4_layDivisor l D cI cZ aO Q P M Wd aOw aDg aWk aSm aFo aBk fo ba le sf aIm aKp o g w d (by omega) (fun e h1 h2 h3 => h4 e h1 h2 (mod_tr h3 hm1))) gX4_layOwn_X4_layDivisor rfl rfl nd_X4_layDivisor [0, 1, 2, 3] (by decide) rfl rfl rfl rfl (ci := 4) rfl rfl (q0 := 0) rfl hl.1 rfl rfl (Nat.le_of_ble_eq_true rfl) ⟨Nat.le_of_ble_eq_true rfl, Nat.le_of_ble_eq_true rfl⟩ ⟨rfl, rfl⟩ ⟨Nat.zero_le _, Nat.zero_le _⟩ dX4_layOwn_20 (fun H locs hP hD hS => ?_)
          refine lv_iinc (v := nI (d + 1)) (lv' := [(2, .int (nI (d + 1))), (0, .ref aO), (1, .int (nI (tN Q P)))]) hx hb dX4_layOwn_23 hl (k := 2) rfl ((nI_succ d).symm) (by decide) rfl (fun ls hl => ?_)
          refine lv_goto (tgt := 7) hx hb dX4_layOwn_26 (by decide) ?_
          exact ih_7 (d + 1) _ _ _ (by omega) (by omega) (by have h9 := rows_step h4; simpa only [hm1, if_true, if_false] using h9) (by rw [e1]; simp [loO, hm1]) (by rw [e2]; simp [loD, hm1]) (by rw [e3]; simp [loW, hm1]) _ _ hP hD hS ls (lv_sub hl [1, 2, 0] rfl)
  exact L_7 (tN Q P) 1 fOw fDg fWk (by omega) (by omega) (fun e h1 h2 => absurd h2 (by omega)) rfl rfl rfl _ _ hP hD hS ls (lv_sub hl [2, 1, 0] rfl)

set_option maxRecDepth 20000 in
theorem hi_X4_leaveOver_X4 : ∀ w ∈ wsX40, w ∈ wsX4_leaveOver := by
  intro w h
  unfold wsX4_leaveOver
  simp only [List.mem_cons, List.mem_append, h, or_true, true_or]
theorem nd_X4_leaveOver : okName yX4_leaveOver 1 := by decide +kernel
set_option maxHeartbeats 4000000 in
set_option maxRecDepth 100000 in
theorem k_X4_leaveOver (l : Launch) (D : va_G) (cI cZ : ClassId) (aO : Nat) (Q : Nat) (P : Nat) (M : Nat) (Wd : Nat) (aOw : Nat) (aDg : Nat) (aWk : Nat) (aSm : Nat) (aFo : Nat) (aBk : Nat) (fo : Nat) (ba : Nat) (le : Nat) (sf : Nat) (aIm : Nat) (aKp : Nat) (fOw : Nat → Int32) (fDg : Nat → Int32) (rw : Nat) (w : Nat → Int32) (sm : Nat → Int32) (hv : MV Q P M Wd) (hr2 : rw < 2) (hro : rowOk fOw fDg (tN Q P)) : MU l yX4_leaveOver wsX4_leaveOver ({ frames := 3, cells := 0, slots := 0, locals := 64 } : Room) D cI cZ [(aO, .inr (4, [.int (nI Q), .int (nI P), .int (nI M), .int (nI Wd), .ref aOw, .ref aDg, .ref aWk, .ref aSm, .ref aFo, .ref aBk, .int (nI fo), .int (nI ba), .int (nI le), .int (nI sf), .ref aIm, .ref aKp])), (aOw, .inl (cI, 2401, .inl fOw)), (aDg, .inl (cI, 49, .inl fDg)), (aSm, .inl (cI, 98, .inl (rowP rw w sm)))] [.ref aO, .int (nI rw)] none [(aO, .inr (4, [.int (nI Q), .int (nI P), .int (nI M), .int (nI Wd), .ref aOw, .ref aDg, .ref aWk, .ref aSm, .ref aFo, .ref aBk, .int (nI fo), .int (nI ba), .int (nI le), .int (nI sf), .ref aIm, .ref aKp])), (aOw, .inl (cI, 2401, .inl fOw)), (aDg, .inl (cI, 49, .inl fDg)), (aSm, .inl (cI, 98, .inl (rowP rw (rdO (cyR (tN Q P)) (dgN (tN Q P)) (tN Q P - dgN (tN Q P)) (tN Q P - 1) w) sm)))] := by
  refine mu_start (by decide) rfl (Nat.le_of_ble_eq_true rfl) ?_
  intro p e s m args below meth c hx hb hr hml hlocks hts hown hT hP hD hS ls hl
  have hown : s.vm.findClass RX4 = some m.cls := hown
  have hl : lv_has ls 7 [(0, .ref aO), (1, .int (nI rw))] := hl
  have hv' := hv
  unfold MV at hv'
  have hd0 := dg_pos (tN Q P) (tN_pos hv) (tN_le hv)
  have hd1 := dg_le (tN Q P)
  have hn0 := tN_pos hv
  have hn1 := tN_le hv
  refine lv_aload_n hx hb dX4_leaveOver_0 rfl (lv_at hl 0 rfl) ?_
  refine ro_V (As := []) (rest := []) ⟨hx, hb, hml, hown, hts⟩ hT hP (k_X4_star l D cI cZ aO Q P M Wd aOw aDg aWk aSm aFo aBk fo ba le sf aIm aKp hv) gX4_leaveOver_X4_star rfl rfl nd_X4_star [0] rfl (ci := 4) rfl rfl (q0 := 0) rfl hl.1 rfl rfl (Nat.le_of_ble_eq_true rfl) ⟨Nat.le_of_ble_eq_true rfl, Nat.le_of_ble_eq_true rfl⟩ ⟨rfl, rfl⟩ ⟨Nat.zero_le _, Nat.zero_le _⟩ dX4_leaveOver_1 ?_
  refine lv_istore_n (lv' := [(2, .int (nI (tN Q P))), (0, .ref aO), (1, .int (nI rw))]) hx hb dX4_leaveOver_4 rfl hl (by decide) rfl (fun ls hl => ?_)
  refine lv_aload_n hx hb dX4_leaveOver_5 rfl (lv_at hl 1 rfl) ?_
  refine va_get (D := D) (ci := 4) (v := .ref aDg) (C := RX4) (T := TX4) (N := 16) hx hb hts hi_X4_leaveOver_X4 hown hT.1 hP 0 rfl rfl 5 (by decide) (hts (.fieldLink RX4 26 "SlotStarModel" "degree" "[I") (List.mem_of_getElem? (i := 1) rfl)) (fun _ h9 => h9) rfl dX4_leaveOver_6 ?_
  refine lv_iload_n hx hb dX4_leaveOver_9 rfl (lv_at hl 0 rfl) ?_
  refine ld_i hx hb hT hP 2 rfl dX4_leaveOver_10 (k := (tN Q P)) rfl (by omega) (by decide) ?_
  refine top_eq (z := (nI (dgN (tN Q P)))) (by exact hro.1) ?_
  refine lv_istore_n (lv' := [(3, .int (nI (dgN (tN Q P)))), (2, .int (nI (tN Q P))), (0, .ref aO), (1, .int (nI rw))]) hx hb dX4_leaveOver_11 rfl hl (by decide) rfl (fun ls hl => ?_)
  refine lv_iload_n hx hb dX4_leaveOver_12 rfl (lv_at hl 1 rfl) ?_
  refine lv_iconst (v := 1) hx hb dX4_leaveOver_13 (by decide) ?_
  refine lv_isub hx hb dX4_leaveOver_14 ?_
  refine top_eq (z := (nI (tN Q P - 1))) (by exact nI_sub1 (by omega)) ?_
  refine lv_istore (lv' := [(4, .int (nI (tN Q P - 1))), (3, .int (nI (dgN (tN Q P)))), (2, .int (nI (tN Q P))), (0, .ref aO), (1, .int (nI rw))]) hx hb dX4_leaveOver_15 hl (by decide) rfl (fun ls hl => ?_)
  have L_17 : ∀ (f : Nat) (i : Nat) (v : Nat → Int32), i + 1 = dgN (tN Q P) + f → i + 1 ≤ tN Q P → rdO (cyR (tN Q P)) (dgN (tN Q P)) (tN Q P - dgN (tN Q P)) (tN Q P - 1) w = rdO (cyR (tN Q P)) (dgN (tN Q P)) f i v → ∀ (H : Heap) (locs : List Loc), va_P D cls5 [(aO, .inr (4, [.int (nI Q), .int (nI P), .int (nI M), .int (nI Wd), .ref aOw, .ref aDg, .ref aWk, .ref aSm, .ref aFo, .ref aBk, .int (nI fo), .int (nI ba), .int (nI le), .int (nI sf), .ref aIm, .ref aKp])), (aOw, .inl (cI, 2401, .inl fOw)), (aDg, .inl (cI, 49, .inl fDg)), (aSm, .inl (cI, 98, .inl (rowP rw v sm)))] H → va_D (va_M [(aO, .inr (4, [.int (nI Q), .int (nI P), .int (nI M), .int (nI Wd), .ref aOw, .ref aDg, .ref aWk, .ref aSm, .ref aFo, .ref aBk, .int (nI fo), .int (nI ba), .int (nI le), .int (nI sf), .ref aIm, .ref aKp])), (aOw, .inl (cI, 2401, .inl fOw)), (aDg, .inl (cI, 49, .inl fDg)), (aSm, .inl (cI, 98, .inl (rowP rw w sm)))]) [(aO, .inr (4, [.int (nI Q), .int (nI P), .int (nI M), .int (nI Wd), .ref aOw, .ref aDg, .ref aWk, .ref aSm, .ref aFo, .ref aBk, .int (nI fo), .int (nI ba), .int (nI le), .int (nI sf), .ref aIm, .ref aKp])), (aOw, .inl (cI, 2401, .inl fOw)), (aDg, .inl (cI, 49, .inl fDg)), (aSm, .inl (cI, 98, .inl (rowP rw v sm)))] → va_S (va_M [(aO, .inr (4, [.int (nI Q), .int (nI P), .int (nI M), .int (nI Wd), .ref aOw, .ref aDg, .ref aWk, .ref aSm, .ref aFo, .ref aBk, .int (nI fo), .int (nI ba), .int (nI le), .int (nI sf), .ref aIm, .ref aKp])), (aOw, .inl (cI, 2401, .inl fOw)), (aDg, .inl (cI, 49, .inl fDg)), (aSm, .inl (cI, 98, .inl (rowP rw w sm)))]) s.heap H locs → ∀ ls : Array Slot, lv_has ls 7 [(0, .ref aO), (1, .int (nI rw)), (2, .int (nI (tN Q P))), (3, .int (nI (dgN (tN Q P)))), (4, .int (nI i))] → W p l e (headSpec wsX4_leaveOver ({ frames := 3, cells := 0, slots := 0, locals := 64 } : Room)).room s m args below meth c H locs 0 0 (MQ below (QcM D [(aO, .inr (4, [.int (nI Q), .int (nI P), .int (nI M), .int (nI Wd), .ref aOw, .ref aDg, .ref aWk, .ref aSm, .ref aFo, .ref aBk, .int (nI fo), .int (nI ba), .int (nI le), .int (nI sf), .ref aIm, .ref aKp])), (aOw, .inl (cI, 2401, .inl fOw)), (aDg, .inl (cI, 49, .inl fDg)), (aSm, .inl (cI, 98, .inl (rowP rw w sm)))] [(aO, .inr (4, [.int (nI Q), .int (nI P), .int (nI M), .int (nI Wd), .ref aOw, .ref aDg, .ref aWk, .ref aSm, .ref aFo, .ref aBk, .int (nI fo), .int (nI ba), .int (nI le), .int (nI sf), .ref aIm, .ref aKp])), (aOw, .inl (cI, 2401, .inl fOw)), (aDg, .inl (cI, 49, .inl fDg)), (aSm, .inl (cI, 98, .inl (rowP rw (rdO (cyR (tN Q P)) (dgN (tN Q P)) (tN Q P - dgN (tN Q P)) (tN Q P - 1) w) sm)))] none) args s 0 0 (va_M [(aO, .inr (4, [.int (nI Q), .int (nI P), .int (nI M), .int (nI Wd), .ref aOw, .ref aDg, .ref aWk, .ref aSm, .ref aFo, .ref aBk, .int (nI fo), .int (nI ba), .int (nI le), .int (nI sf), .ref aIm, .ref aKp])), (aOw, .inl (cI, 2401, .inl fOw)), (aDg, .inl (cI, 49, .inl fDg)), (aSm, .inl (cI, 98, .inl (rowP rw w sm)))])) (F0 m 17 ls []) := by
    intro f
    induction f with
    | zero =>
      intro i v h1 h3 h2 H locs hP hD hS ls hl
      refine lv_iload hx hb dX4_leaveOver_17 (lv_at hl 4 rfl) ?_
      refine lv_iload_n hx hb dX4_leaveOver_19 rfl (lv_at hl 3 rfl) ?_
      refine lv_icmp_lt (tgt := 93) hx hb dX4_leaveOver_20 (by decide) (fun c_1 => ?_) (fun c_1 => ?_)
      · skip
        exact mu_retv hx hb hr hlocks dX4_leaveOver_93 (by rw [h2]; exact hP) hS
      · exfalso; exact c_1 (nI_lt (by omega) (by omega))
    | succ f ih_17 =>
      intro i v h1 h3 h2 H locs hP hD hS ls hl
      refine lv_iload hx hb dX4_leaveOver_17 (lv_at hl 4 rfl) ?_
      refine lv_iload_n hx hb dX4_leaveOver_19 rfl (lv_at hl 3 rfl) ?_
      refine lv_icmp_lt (tgt := 93) hx hb dX4_leaveOver_20 (by decide) (fun c_2 => ?_) (fun c_2 => ?_)
      · exfalso; exact nI_nlt (show dgN (tN Q P) ≤ i by omega) (by omega) c_2
      · skip
        refine lv_aload_n hx hb dX4_leaveOver_23 rfl (lv_at hl 0 rfl) ?_
        refine va_get (D := D) (ci := 4) (v := .ref aSm) (C := RX4) (T := TX4) (N := 16) hx hb hts hi_X4_leaveOver_X4 hown hT.1 hP 0 rfl rfl 7 (by decide) (hts (.fieldLink RX4 32 "SlotStarModel" "sum" "[I") (List.mem_of_getElem? (i := 2) rfl)) (fun _ h9 => h9) rfl dX4_leaveOver_24 ?_
        refine lv_bipush (v := 49) hx hb dX4_leaveOver_27 (by decide) ?_
        refine lv_iload_n hx hb dX4_leaveOver_29 rfl (lv_at hl 1 rfl) ?_
        refine lv_imul hx hb dX4_leaveOver_30 ?_
        refine top_eq (z := (nI (49 * rw))) (by exact pk_mul 49 rw) ?_
        refine lv_iload hx hb dX4_leaveOver_31 (lv_at hl 4 rfl) ?_
        refine lv_iadd hx hb dX4_leaveOver_33 ?_
        refine top_eq (z := (nI (49 * rw + i))) (by exact nI_add _ _) ?_
        refine ld_i hx hb hT hP 3 rfl dX4_leaveOver_34 (k := (49 * rw + i)) rfl (by omega) (by decide) ?_
        refine top_eq (z := (v i)) (by exact rowP_in (by omega)) ?_
        refine lv_istore (lv' := [(5, .int (v i)), (0, .ref aO), (1, .int (nI rw)), (2, .int (nI (tN Q P))), (3, .int (nI (dgN (tN Q P)))), (4, .int (nI i))]) hx hb dX4_leaveOver_35 hl (by decide) rfl (fun ls hl => ?_)
        refine lv_iconst (v := 0) hx hb dX4_leaveOver_37 (by decide) ?_
        refine lv_istore (lv' := [(6, .int 0), (5, .int (v i)), (0, .ref aO), (1, .int (nI rw)), (2, .int (nI (tN Q P))), (3, .int (nI (dgN (tN Q P)))), (4, .int (nI i))]) hx hb dX4_leaveOver_38 hl (by decide) rfl (fun ls hl => ?_)
        have L_40 : ∀ (f2 : Nat) (k : Nat) (u : Nat → Int32), k + f2 = dgN (tN Q P) + 1 → rdI (cyR (tN Q P)) (i - dgN (tN Q P)) (v i) (dgN (tN Q P) + 1) 0 v = rdI (cyR (tN Q P)) (i - dgN (tN Q P)) (v i) f2 k u → ∀ (H : Heap) (locs : List Loc), va_P D cls5 [(aO, .inr (4, [.int (nI Q), .int (nI P), .int (nI M), .int (nI Wd), .ref aOw, .ref aDg, .ref aWk, .ref aSm, .ref aFo, .ref aBk, .int (nI fo), .int (nI ba), .int (nI le), .int (nI sf), .ref aIm, .ref aKp])), (aOw, .inl (cI, 2401, .inl fOw)), (aDg, .inl (cI, 49, .inl fDg)), (aSm, .inl (cI, 98, .inl (rowP rw u sm)))] H → va_D (va_M [(aO, .inr (4, [.int (nI Q), .int (nI P), .int (nI M), .int (nI Wd), .ref aOw, .ref aDg, .ref aWk, .ref aSm, .ref aFo, .ref aBk, .int (nI fo), .int (nI ba), .int (nI le), .int (nI sf), .ref aIm, .ref aKp])), (aOw, .inl (cI, 2401, .inl fOw)), (aDg, .inl (cI, 49, .inl fDg)), (aSm, .inl (cI, 98, .inl (rowP rw w sm)))]) [(aO, .inr (4, [.int (nI Q), .int (nI P), .int (nI M), .int (nI Wd), .ref aOw, .ref aDg, .ref aWk, .ref aSm, .ref aFo, .ref aBk, .int (nI fo), .int (nI ba), .int (nI le), .int (nI sf), .ref aIm, .ref aKp])), (aOw, .inl (cI, 2401, .inl fOw)), (aDg, .inl (cI, 49, .inl fDg)), (aSm, .inl (cI, 98, .inl (rowP rw u sm)))] → va_S (va_M [(aO, .inr (4, [.int (nI Q), .int (nI P), .int (nI M), .int (nI Wd), .ref aOw, .ref aDg, .ref aWk, .ref aSm, .ref aFo, .ref aBk, .int (nI fo), .int (nI ba), .int (nI le), .int (nI sf), .ref aIm, .ref aKp])), (aOw, .inl (cI, 2401, .inl fOw)), (aDg, .inl (cI, 49, .inl fDg)), (aSm, .inl (cI, 98, .inl (rowP rw w sm)))]) s.heap H locs → ∀ ls : Array Slot, lv_has ls 7 [(0, .ref aO), (1, .int (nI rw)), (2, .int (nI (tN Q P))), (3, .int (nI (dgN (tN Q P)))), (4, .int (nI i)), (5, .int (v i)), (6, .int (nI k))] → W p l e (headSpec wsX4_leaveOver ({ frames := 3, cells := 0, slots := 0, locals := 64 } : Room)).room s m args below meth c H locs 0 0 (MQ below (QcM D [(aO, .inr (4, [.int (nI Q), .int (nI P), .int (nI M), .int (nI Wd), .ref aOw, .ref aDg, .ref aWk, .ref aSm, .ref aFo, .ref aBk, .int (nI fo), .int (nI ba), .int (nI le), .int (nI sf), .ref aIm, .ref aKp])), (aOw, .inl (cI, 2401, .inl fOw)), (aDg, .inl (cI, 49, .inl fDg)), (aSm, .inl (cI, 98, .inl (rowP rw w sm)))] [(aO, .inr (4, [.int (nI Q), .int (nI P), .int (nI M), .int (nI Wd), .ref aOw, .ref aDg, .ref aWk, .ref aSm, .ref aFo, .ref aBk, .int (nI fo), .int (nI ba), .int (nI le), .int (nI sf), .ref aIm, .ref aKp])), (aOw, .inl (cI, 2401, .inl fOw)), (aDg, .inl (cI, 49, .inl fDg)), (aSm, .inl (cI, 98, .inl (rowP rw (rdO (cyR (tN Q P)) (dgN (tN Q P)) (tN Q P - dgN (tN Q P)) (tN Q P - 1) w) sm)))] none) args s 0 0 (va_M [(aO, .inr (4, [.int (nI Q), .int (nI P), .int (nI M), .int (nI Wd), .ref aOw, .ref aDg, .ref aWk, .ref aSm, .ref aFo, .ref aBk, .int (nI fo), .int (nI ba), .int (nI le), .int (nI sf), .ref aIm, .ref aKp])), (aOw, .inl (cI, 2401, .inl fOw)), (aDg, .inl (cI, 49, .inl fDg)), (aSm, .inl (cI, 98, .inl (rowP rw w sm)))])) (F0 m 40 ls []) := by
          intro f2
          induction f2 with
          | zero =>
            intro k u h5 h4 H locs hP hD hS ls hl
            refine lv_iload hx hb dX4_leaveOver_40 (lv_at hl 6 rfl) ?_
            refine lv_iload_n hx hb dX4_leaveOver_42 rfl (lv_at hl 3 rfl) ?_
            refine lv_icmp_gt (tgt := 87) hx hb dX4_leaveOver_43 (by decide) (fun c_3 => ?_) (fun c_3 => ?_)
            · skip
              refine lv_iinc (v := nI (i - 1)) (lv' := [(4, .int (nI (i - 1))), (0, .ref aO), (1, .int (nI rw)), (2, .int (nI (tN Q P))), (3, .int (nI (dgN (tN Q P)))), (5, .int (v i)), (6, .int (nI k))]) hx hb dX4_leaveOver_87 hl (k := 4) rfl (sb_m1 (by omega)) (by decide) rfl (fun ls hl => ?_)
              refine lv_goto (tgt := 17) hx hb dX4_leaveOver_90 (by decide) ?_
              exact ih_17 (i - 1) _ (by omega) (by omega) (by rw [h2]; simp only [rdO]; rw [h4]; rfl) _ _ hP hD hS ls (lv_sub hl [1, 2, 3, 4, 0] rfl)
            · exfalso; exact c_3 (nI_lt (by omega) (by omega))
          | succ f2 ih_40 =>
            intro k u h5 h4 H locs hP hD hS ls hl
            refine lv_iload hx hb dX4_leaveOver_40 (lv_at hl 6 rfl) ?_
            refine lv_iload_n hx hb dX4_leaveOver_42 rfl (lv_at hl 3 rfl) ?_
            refine lv_icmp_gt (tgt := 87) hx hb dX4_leaveOver_43 (by decide) (fun c_4 => ?_) (fun c_4 => ?_)
            · exfalso; exact nI_nlt (show k ≤ dgN (tN Q P) by omega) (by omega) c_4
            · skip
              refine lv_aload_n hx hb dX4_leaveOver_46 rfl (lv_at hl 0 rfl) ?_
              refine va_get (D := D) (ci := 4) (v := .ref aSm) (C := RX4) (T := TX4) (N := 16) hx hb hts hi_X4_leaveOver_X4 hown hT.1 hP 0 rfl rfl 7 (by decide) (hts (.fieldLink RX4 32 "SlotStarModel" "sum" "[I") (List.mem_of_getElem? (i := 2) rfl)) (fun _ h9 => h9) rfl dX4_leaveOver_47 ?_
              refine lv_bipush (v := 49) hx hb dX4_leaveOver_50 (by decide) ?_
              refine lv_iload_n hx hb dX4_leaveOver_52 rfl (lv_at hl 1 rfl) ?_
              refine lv_imul hx hb dX4_leaveOver_53 ?_
              refine top_eq (z := (nI (49 * rw))) (by exact pk_mul 49 rw) ?_
              refine lv_iload hx hb dX4_leaveOver_54 (lv_at hl 4 rfl) ?_
              refine lv_iadd hx hb dX4_leaveOver_56 ?_
              refine top_eq (z := (nI (49 * rw + i))) (by exact nI_add _ _) ?_
              refine lv_iload_n hx hb dX4_leaveOver_57 rfl (lv_at hl 3 rfl) ?_
              refine lv_isub hx hb dX4_leaveOver_58 ?_
              refine top_eq (z := (nI (49 * rw + (i - dgN (tN Q P))))) (by rw [pk_sub (by omega)]; congr 1; omega) ?_
              refine lv_iload hx hb dX4_leaveOver_59 (lv_at hl 6 rfl) ?_
              refine lv_iadd hx hb dX4_leaveOver_61 ?_
              refine top_eq (z := (nI (49 * rw + (i - dgN (tN Q P) + k)))) (by rw [nI_add]; congr 1; omega) ?_
              refine lv_dup2_11 hx hb dX4_leaveOver_62 rfl rfl ?_
              refine ld_i hx hb hT hP 3 rfl dX4_leaveOver_63 (k := (49 * rw + (i - dgN (tN Q P) + k))) rfl (by omega) (by decide) ?_
              refine top_eq (z := (u (i - dgN (tN Q P) + k))) (by exact rowP_in (by omega)) ?_
              refine lv_iload hx hb dX4_leaveOver_64 (lv_at hl 5 rfl) ?_
              refine lv_aload_n hx hb dX4_leaveOver_66 rfl (lv_at hl 0 rfl) ?_
              refine va_get (D := D) (ci := 4) (v := .ref aOw) (C := RX4) (T := TX4) (N := 16) hx hb hts hi_X4_leaveOver_X4 hown hT.1 hP 0 rfl rfl 4 (by decide) (hts (.fieldLink RX4 22 "SlotStarModel" "own" "[I") (List.mem_of_getElem? (i := 3) rfl)) (fun _ h9 => h9) rfl dX4_leaveOver_67 ?_
              refine lv_bipush (v := 49) hx hb dX4_leaveOver_70 (by decide) ?_
              refine lv_iload_n hx hb dX4_leaveOver_72 rfl (lv_at hl 2 rfl) ?_
              refine lv_imul hx hb dX4_leaveOver_73 ?_
              refine top_eq (z := (nI (49 * tN Q P))) (by exact pk_mul 49 _) ?_
              refine lv_iload hx hb dX4_leaveOver_74 (lv_at hl 6 rfl) ?_
              refine lv_iadd hx hb dX4_leaveOver_76 ?_
              refine top_eq (z := (nI (49 * tN Q P + k))) (by exact nI_add _ _) ?_
              refine ld_i hx hb hT hP 1 rfl dX4_leaveOver_77 (k := (49 * tN Q P + k)) rfl (by omega) (by decide) ?_
              refine top_eq (z := (cyR (tN Q P) k)) (by exact hro.2 k (by omega)) ?_
              refine lv_imul hx hb dX4_leaveOver_78 ?_
              refine lv_isub hx hb dX4_leaveOver_79 ?_
              refine st_i hx hb hT hP hD hS 3 rfl dX4_leaveOver_80 (k := (49 * rw + (i - dgN (tN Q P) + k))) (W1 := [(aO, .inr (4, [.int (nI Q), .int (nI P), .int (nI M), .int (nI Wd), .ref aOw, .ref aDg, .ref aWk, .ref aSm, .ref aFo, .ref aBk, .int (nI fo), .int (nI ba), .int (nI le), .int (nI sf), .ref aIm, .ref aKp])), (aOw, .inl (cI, 2401, .inl fOw)), (aDg, .inl (cI, 49, .inl fDg)), (aSm, .inl (cI, 98, .inl (upd (rowP rw u sm) (49 * rw + (i - dgN (tN Q P) + k)) ((u (i - dgN (tN Q P) + k)) - ((v i) * (cyR (tN Q P) k))))))]) rfl (by omega) (by decide) rfl (fun H locs hP hD hS => ?_)
              have hP : va_P D cls5 [(aO, .inr (4, [.int (nI Q), .int (nI P), .int (nI M), .int (nI Wd), .ref aOw, .ref aDg, .ref aWk, .ref aSm, .ref aFo, .ref aBk, .int (nI fo), .int (nI ba), .int (nI le), .int (nI sf), .ref aIm, .ref aKp])), (aOw, .inl (cI, 2401, .inl fOw)), (aDg, .inl (cI, 49, .inl fDg)), (aSm, .inl (cI, 98, .inl (rowP rw (upd u (i - dgN (tN Q P) + k) ((u (i - dgN (tN Q P) + k)) - ((v i) * (cyR (tN Q P) k)))) sm)))] H := by rw [rowP_upd (by omega)] at hP; exact hP
              have hD : va_D (va_M [(aO, .inr (4, [.int (nI Q), .int (nI P), .int (nI M), .int (nI Wd), .ref aOw, .ref aDg, .ref aWk, .ref aSm, .ref aFo, .ref aBk, .int (nI fo), .int (nI ba), .int (nI le), .int (nI sf), .ref aIm, .ref aKp])), (aOw, .inl (cI, 2401, .inl fOw)), (aDg, .inl (cI, 49, .inl fDg)), (aSm, .inl (cI, 98, .inl (rowP rw w sm)))]) [(aO, .inr (4, [.int (nI Q), .int (nI P), .int (nI M), .int (nI Wd), .ref aOw, .ref aDg, .ref aWk, .ref aSm, .ref aFo, .ref aBk, .int (nI fo), .int (nI ba), .int (nI le), .int (nI sf), .ref aIm, .ref aKp])), (aOw, .inl (cI, 2401, .inl fOw)), (aDg, .inl (cI, 49, .inl fDg)), (aSm, .inl (cI, 98, .inl (rowP rw (upd u (i - dgN (tN Q P) + k) ((u (i - dgN (tN Q P) + k)) - ((v i) * (cyR (tN Q P) k)))) sm)))] := by rw [rowP_upd (by omega)] at hD; exact hD
              refine lv_iinc (v := nI (k + 1)) (lv' := [(6, .int (nI (k + 1))), (0, .ref aO), (1, .int (nI rw)), (2, .int (nI (tN Q P))), (3, .int (nI (dgN (tN Q P)))), (4, .int (nI i)), (5, .int (v i))]) hx hb dX4_leaveOver_81 hl (k := 6) rfl ((nI_succ k).symm) (by decide) rfl (fun ls hl => ?_)
              refine lv_goto (tgt := 40) hx hb dX4_leaveOver_84 (by decide) ?_
              exact ih_40 (k + 1) _ (by omega) (by rw [h4]; rfl) _ _ hP hD hS ls (lv_sub hl [1, 2, 3, 4, 5, 6, 0] rfl)
        exact L_40 (dgN (tN Q P) + 1) 0 v (by omega) rfl _ _ hP hD hS ls (lv_sub hl [2, 3, 4, 5, 6, 1, 0] rfl)
  exact L_17 (tN Q P - dgN (tN Q P)) (tN Q P - 1) w (by omega) (by omega) rfl _ _ hP hD hS ls (lv_sub hl [3, 4, 2, 1, 0] rfl)

set_option maxRecDepth 20000 in
theorem hi_X4_laySum_X4 : ∀ w ∈ wsX40, w ∈ wsX4_laySum := by
  intro w h
  unfold wsX4_laySum
  simp only [List.mem_cons, List.mem_append, h, or_true, true_or]
theorem nd_X4_laySum : okName yX4_laySum 4 := by decide +kernel
set_option maxHeartbeats 4000000 in
set_option maxRecDepth 100000 in
theorem k_X4_laySum (l : Launch) (D : va_G) (cI cZ : ClassId) (aO : Nat) (Q : Nat) (P : Nat) (M : Nat) (Wd : Nat) (aOw : Nat) (aDg : Nat) (aWk : Nat) (aSm : Nat) (aFo : Nat) (aBk : Nat) (fo : Nat) (ba : Nat) (le : Nat) (sf : Nat) (aIm : Nat) (aKp : Nat) (fOw : Nat → Int32) (fDg : Nat → Int32) (fWk : Nat → Int32) (sm : Nat → Int32) (rw : Nat) (a : Int32) (h : Nat) (w : Nat) (hv : MV Q P M Wd) (hr2 : rw < 2) (hh : h < 1000) (hw : w < 1000) : MU l yX4_laySum wsX4_laySum ({ frames := 5, cells := 0, slots := 0, locals := 108 } : Room) D cI cZ [(aO, .inr (4, [.int (nI Q), .int (nI P), .int (nI M), .int (nI Wd), .ref aOw, .ref aDg, .ref aWk, .ref aSm, .ref aFo, .ref aBk, .int (nI fo), .int (nI ba), .int (nI le), .int (nI sf), .ref aIm, .ref aKp])), (aOw, .inl (cI, 2401, .inl fOw)), (aDg, .inl (cI, 49, .inl fDg)), (aWk, .inl (cI, 49, .inl fWk)), (aSm, .inl (cI, 98, .inl sm))] [.ref aO, .int (nI rw), .int a, .int (nI h), .int (nI w)] none [(aO, .inr (4, [.int (nI Q), .int (nI P), .int (nI M), .int (nI Wd), .ref aOw, .ref aDg, .ref aWk, .ref aSm, .ref aFo, .ref aBk, .int (nI fo), .int (nI ba), .int (nI le), .int (nI sf), .ref aIm, .ref aKp])), (aOw, .inl (cI, 2401, .inl (lO (tN Q P) fOw))), (aDg, .inl (cI, 49, .inl (lD (tN Q P) fDg))), (aWk, .inl (cI, 49, .inl (lW (tN Q P) fWk))), (aSm, .inl (cI, 98, .inl (rowP rw (adR Q P M a h w) sm)))] := by
  refine mu_start (by decide) rfl (Nat.le_of_ble_eq_true rfl) ?_
  intro p e s m args below meth c hx hb hr hml hlocks hts hown hT hP hD hS ls hl
  have hown : s.vm.findClass RX4 = some m.cls := hown
  have hl : lv_has ls 8 [(0, .ref aO), (1, .int (nI rw)), (2, .int a), (3, .int (nI h)), (4, .int (nI w))] := hl
  have hv' := hv
  unfold MV at hv'
  have hn0 := tN_pos hv
  have hn1 := tN_le hv
  refine lv_aload_n hx hb dX4_laySum_0 rfl (lv_at hl 0 rfl) ?_
  refine ro_V (As := []) (rest := []) ⟨hx, hb, hml, hown, hts⟩ hT hP (k_X4_star l D cI cZ aO Q P M Wd aOw aDg aWk aSm aFo aBk fo ba le sf aIm aKp hv) gX4_laySum_X4_star rfl rfl nd_X4_star [0] rfl (ci := 4) rfl rfl (q0 := 0) rfl hl.1 rfl rfl (Nat.le_of_ble_eq_true rfl) ⟨Nat.le_of_ble_eq_true rfl, Nat.le_of_ble_eq_true rfl⟩ ⟨rfl, rfl⟩ ⟨Nat.zero_le _, Nat.zero_le _⟩ dX4_laySum_1 ?_
  refine lv_istore (lv' := [(5, .int (nI (tN Q P))), (0, .ref aO), (1, .int (nI rw)), (2, .int a), (3, .int (nI h)), (4, .int (nI w))]) hx hb dX4_laySum_4 hl (by decide) rfl (fun ls hl => ?_)
  refine lv_aload_n hx hb dX4_laySum_6 rfl (lv_at hl 1 rfl) ?_
  refine mu_V (As := []) (rest := []) (W1 := [(aO, .inr (4, [.int (nI Q), .int (nI P), .int (nI M), .int (nI Wd), .ref aOw, .ref aDg, .ref aWk, .ref aSm, .ref aFo, .ref aBk, .int (nI fo), .int (nI ba), .int (nI le), .int (nI sf), .ref aIm, .ref aKp])), (aOw, .inl (cI, 2401, .inl (lO (tN Q P) fOw))), (aDg, .inl (cI, 49, .inl (lD (tN Q P) fDg))), (aWk, .inl (cI, 49, .inl (lW (tN Q P) fWk))), (aSm, .inl (cI, 98, .inl sm))]) (st1 := []) ⟨hx, hb, hml, hown, hts⟩ hT hP hD hS (k_X4_layOwn l D cI cZ aO Q P M Wd aOw aDg aWk aSm aFo aBk fo ba le sf aIm aKp fOw fDg fWk hv) gX4_laySum_X4_layOwn rfl rfl nd_X4_layOwn [0, 1, 2, 3] (by decide) rfl rfl rfl rfl (ci := 4) rfl rfl (q0 := 0) rfl hl.1 rfl rfl (Nat.le_of_ble_eq_true rfl) ⟨Nat.le_of_ble_eq_true rfl, Nat.le_of_ble_eq_true rfl⟩ ⟨rfl, rfl⟩ ⟨Nat.zero_le _, Nat.zero_le _⟩ dX4_laySum_7 (fun H locs hP hD hS => ?_)
  refine lv_iconst (v := 0) hx hb dX4_laySum_10 (by decide) ?_
  refine lv_istore (lv' := [(6, .int 0), (5, .int (nI (tN Q P))), (0, .ref aO), (1, .int (nI rw)), (2, .int a), (3, .int (nI h)), (4, .int (nI w))]) hx hb dX4_laySum_11 hl (by decide) rfl (fun ls hl => ?_)
  have L_13 : ∀ (f : Nat) (i : Nat) (v : Nat → Int32), i + f = 49 → zfL rw 49 0 sm = zfL rw f i v → ∀ (H : Heap) (locs : List Loc), va_P D cls5 [(aO, .inr (4, [.int (nI Q), .int (nI P), .int (nI M), .int (nI Wd), .ref aOw, .ref aDg, .ref aWk, .ref aSm, .ref aFo, .ref aBk, .int (nI fo), .int (nI ba), .int (nI le), .int (nI sf), .ref aIm, .ref aKp])), (aOw, .inl (cI, 2401, .inl (lO (tN Q P) fOw))), (aDg, .inl (cI, 49, .inl (lD (tN Q P) fDg))), (aWk, .inl (cI, 49, .inl (lW (tN Q P) fWk))), (aSm, .inl (cI, 98, .inl v))] H → va_D (va_M [(aO, .inr (4, [.int (nI Q), .int (nI P), .int (nI M), .int (nI Wd), .ref aOw, .ref aDg, .ref aWk, .ref aSm, .ref aFo, .ref aBk, .int (nI fo), .int (nI ba), .int (nI le), .int (nI sf), .ref aIm, .ref aKp])), (aOw, .inl (cI, 2401, .inl fOw)), (aDg, .inl (cI, 49, .inl fDg)), (aWk, .inl (cI, 49, .inl fWk)), (aSm, .inl (cI, 98, .inl sm))]) [(aO, .inr (4, [.int (nI Q), .int (nI P), .int (nI M), .int (nI Wd), .ref aOw, .ref aDg, .ref aWk, .ref aSm, .ref aFo, .ref aBk, .int (nI fo), .int (nI ba), .int (nI le), .int (nI sf), .ref aIm, .ref aKp])), (aOw, .inl (cI, 2401, .inl (lO (tN Q P) fOw))), (aDg, .inl (cI, 49, .inl (lD (tN Q P) fDg))), (aWk, .inl (cI, 49, .inl (lW (tN Q P) fWk))), (aSm, .inl (cI, 98, .inl v))] → va_S (va_M [(aO, .inr (4, [.int (nI Q), .int (nI P), .int (nI M), .int (nI Wd), .ref aOw, .ref aDg, .ref aWk, .ref aSm, .ref aFo, .ref aBk, .int (nI fo), .int (nI ba), .int (nI le), .int (nI sf), .ref aIm, .ref aKp])), (aOw, .inl (cI, 2401, .inl fOw)), (aDg, .inl (cI, 49, .inl fDg)), (aWk, .inl (cI, 49, .inl fWk)), (aSm, .inl (cI, 98, .inl sm))]) s.heap H locs → ∀ ls : Array Slot, lv_has ls 8 [(0, .ref aO), (1, .int (nI rw)), (2, .int a), (3, .int (nI h)), (4, .int (nI w)), (5, .int (nI (tN Q P))), (6, .int (nI i))] → W p l e (headSpec wsX4_laySum ({ frames := 5, cells := 0, slots := 0, locals := 108 } : Room)).room s m args below meth c H locs 0 0 (MQ below (QcM D [(aO, .inr (4, [.int (nI Q), .int (nI P), .int (nI M), .int (nI Wd), .ref aOw, .ref aDg, .ref aWk, .ref aSm, .ref aFo, .ref aBk, .int (nI fo), .int (nI ba), .int (nI le), .int (nI sf), .ref aIm, .ref aKp])), (aOw, .inl (cI, 2401, .inl fOw)), (aDg, .inl (cI, 49, .inl fDg)), (aWk, .inl (cI, 49, .inl fWk)), (aSm, .inl (cI, 98, .inl sm))] [(aO, .inr (4, [.int (nI Q), .int (nI P), .int (nI M), .int (nI Wd), .ref aOw, .ref aDg, .ref aWk, .ref aSm, .ref aFo, .ref aBk, .int (nI fo), .int (nI ba), .int (nI le), .int (nI sf), .ref aIm, .ref aKp])), (aOw, .inl (cI, 2401, .inl (lO (tN Q P) fOw))), (aDg, .inl (cI, 49, .inl (lD (tN Q P) fDg))), (aWk, .inl (cI, 49, .inl (lW (tN Q P) fWk))), (aSm, .inl (cI, 98, .inl (rowP rw (adR Q P M a h w) sm)))] none) args s 0 0 (va_M [(aO, .inr (4, [.int (nI Q), .int (nI P), .int (nI M), .int (nI Wd), .ref aOw, .ref aDg, .ref aWk, .ref aSm, .ref aFo, .ref aBk, .int (nI fo), .int (nI ba), .int (nI le), .int (nI sf), .ref aIm, .ref aKp])), (aOw, .inl (cI, 2401, .inl fOw)), (aDg, .inl (cI, 49, .inl fDg)), (aWk, .inl (cI, 49, .inl fWk)), (aSm, .inl (cI, 98, .inl sm))])) (F0 m 13 ls []) := by
    intro f
    induction f with
    | zero =>
      intro i v h1 h2 H locs hP hD hS ls hl
      refine lv_iload hx hb dX4_laySum_13 (lv_at hl 6 rfl) ?_
      refine lv_bipush (v := 49) hx hb dX4_laySum_15 (by decide) ?_
      refine lv_icmp_ge (tgt := 39) hx hb dX4_laySum_17 (by decide) (fun c_1 => ?_) (fun c_1 => ?_)
      · skip
        refine lv_iconst (v := 0) hx hb dX4_laySum_39 (by decide) ?_
        refine lv_istore (lv' := [(6, .int 0), (0, .ref aO), (1, .int (nI rw)), (2, .int a), (3, .int (nI h)), (4, .int (nI w)), (5, .int (nI (tN Q P)))]) hx hb dX4_laySum_40 hl (by decide) rfl (fun ls hl => ?_)
        have hP : va_P D cls5 [(aO, .inr (4, [.int (nI Q), .int (nI P), .int (nI M), .int (nI Wd), .ref aOw, .ref aDg, .ref aWk, .ref aSm, .ref aFo, .ref aBk, .int (nI fo), .int (nI ba), .int (nI le), .int (nI sf), .ref aIm, .ref aKp])), (aOw, .inl (cI, 2401, .inl (lO (tN Q P) fOw))), (aDg, .inl (cI, 49, .inl (lD (tN Q P) fDg))), (aWk, .inl (cI, 49, .inl (lW (tN Q P) fWk))), (aSm, .inl (cI, 98, .inl (rowP rw (fun _ => 0) sm)))] _ := arr_eq hP 4 rfl (fun j hj => by have h7 := zfL_row rw sm j; rw [h2] at h7; exact h7) rfl
        have hD : va_D (va_M [(aO, .inr (4, [.int (nI Q), .int (nI P), .int (nI M), .int (nI Wd), .ref aOw, .ref aDg, .ref aWk, .ref aSm, .ref aFo, .ref aBk, .int (nI fo), .int (nI ba), .int (nI le), .int (nI sf), .ref aIm, .ref aKp])), (aOw, .inl (cI, 2401, .inl fOw)), (aDg, .inl (cI, 49, .inl fDg)), (aWk, .inl (cI, 49, .inl fWk)), (aSm, .inl (cI, 98, .inl sm))]) [(aO, .inr (4, [.int (nI Q), .int (nI P), .int (nI M), .int (nI Wd), .ref aOw, .ref aDg, .ref aWk, .ref aSm, .ref aFo, .ref aBk, .int (nI fo), .int (nI ba), .int (nI le), .int (nI sf), .ref aIm, .ref aKp])), (aOw, .inl (cI, 2401, .inl (lO (tN Q P) fOw))), (aDg, .inl (cI, 49, .inl (lD (tN Q P) fDg))), (aWk, .inl (cI, 49, .inl (lW (tN Q P) fWk))), (aSm, .inl (cI, 98, .inl (rowP rw (fun _ => 0) sm)))] := hD.set (p := 4) rfl
        have L_42 : ∀ (f : Nat) (i : Nat) (v : Nat → Int32), i + f = tN Q P → adL Q P M a h w (tN Q P) 0 (fun _ => 0) = adL Q P M a h w f i v → ∀ (H : Heap) (locs : List Loc), va_P D cls5 [(aO, .inr (4, [.int (nI Q), .int (nI P), .int (nI M), .int (nI Wd), .ref aOw, .ref aDg, .ref aWk, .ref aSm, .ref aFo, .ref aBk, .int (nI fo), .int (nI ba), .int (nI le), .int (nI sf), .ref aIm, .ref aKp])), (aOw, .inl (cI, 2401, .inl (lO (tN Q P) fOw))), (aDg, .inl (cI, 49, .inl (lD (tN Q P) fDg))), (aWk, .inl (cI, 49, .inl (lW (tN Q P) fWk))), (aSm, .inl (cI, 98, .inl (rowP rw v sm)))] H → va_D (va_M [(aO, .inr (4, [.int (nI Q), .int (nI P), .int (nI M), .int (nI Wd), .ref aOw, .ref aDg, .ref aWk, .ref aSm, .ref aFo, .ref aBk, .int (nI fo), .int (nI ba), .int (nI le), .int (nI sf), .ref aIm, .ref aKp])), (aOw, .inl (cI, 2401, .inl fOw)), (aDg, .inl (cI, 49, .inl fDg)), (aWk, .inl (cI, 49, .inl fWk)), (aSm, .inl (cI, 98, .inl sm))]) [(aO, .inr (4, [.int (nI Q), .int (nI P), .int (nI M), .int (nI Wd), .ref aOw, .ref aDg, .ref aWk, .ref aSm, .ref aFo, .ref aBk, .int (nI fo), .int (nI ba), .int (nI le), .int (nI sf), .ref aIm, .ref aKp])), (aOw, .inl (cI, 2401, .inl (lO (tN Q P) fOw))), (aDg, .inl (cI, 49, .inl (lD (tN Q P) fDg))), (aWk, .inl (cI, 49, .inl (lW (tN Q P) fWk))), (aSm, .inl (cI, 98, .inl (rowP rw v sm)))] → va_S (va_M [(aO, .inr (4, [.int (nI Q), .int (nI P), .int (nI M), .int (nI Wd), .ref aOw, .ref aDg, .ref aWk, .ref aSm, .ref aFo, .ref aBk, .int (nI fo), .int (nI ba), .int (nI le), .int (nI sf), .ref aIm, .ref aKp])), (aOw, .inl (cI, 2401, .inl fOw)), (aDg, .inl (cI, 49, .inl fDg)), (aWk, .inl (cI, 49, .inl fWk)), (aSm, .inl (cI, 98, .inl sm))]) s.heap H locs → ∀ ls : Array Slot, lv_has ls 8 [(0, .ref aO), (1, .int (nI rw)), (2, .int a), (3, .int (nI h)), (4, .int (nI w)), (5, .int (nI (tN Q P))), (6, .int (nI i))] → W p l e (headSpec wsX4_laySum ({ frames := 5, cells := 0, slots := 0, locals := 108 } : Room)).room s m args below meth c H locs 0 0 (MQ below (QcM D [(aO, .inr (4, [.int (nI Q), .int (nI P), .int (nI M), .int (nI Wd), .ref aOw, .ref aDg, .ref aWk, .ref aSm, .ref aFo, .ref aBk, .int (nI fo), .int (nI ba), .int (nI le), .int (nI sf), .ref aIm, .ref aKp])), (aOw, .inl (cI, 2401, .inl fOw)), (aDg, .inl (cI, 49, .inl fDg)), (aWk, .inl (cI, 49, .inl fWk)), (aSm, .inl (cI, 98, .inl sm))] [(aO, .inr (4, [.int (nI Q), .int (nI P), .int (nI M), .int (nI Wd), .ref aOw, .ref aDg, .ref aWk, .ref aSm, .ref aFo, .ref aBk, .int (nI fo), .int (nI ba), .int (nI le), .int (nI sf), .ref aIm, .ref aKp])), (aOw, .inl (cI, 2401, .inl (lO (tN Q P) fOw))), (aDg, .inl (cI, 49, .inl (lD (tN Q P) fDg))), (aWk, .inl (cI, 49, .inl (lW (tN Q P) fWk))), (aSm, .inl (cI, 98, .inl (rowP rw (adR Q P M a h w) sm)))] none) args s 0 0 (va_M [(aO, .inr (4, [.int (nI Q), .int (nI P), .int (nI M), .int (nI Wd), .ref aOw, .ref aDg, .ref aWk, .ref aSm, .ref aFo, .ref aBk, .int (nI fo), .int (nI ba), .int (nI le), .int (nI sf), .ref aIm, .ref aKp])), (aOw, .inl (cI, 2401, .inl fOw)), (aDg, .inl (cI, 49, .inl fDg)), (aWk, .inl (cI, 49, .inl fWk)), (aSm, .inl (cI, 98, .inl sm))])) (F0 m 42 ls []) := by
          intro f
          induction f with
          | zero =>
            intro i v h1 h4 H locs hP hD hS ls hl
            refine lv_iload hx hb dX4_laySum_42 (lv_at hl 6 rfl) ?_
            refine lv_iload hx hb dX4_laySum_44 (lv_at hl 5 rfl) ?_
            refine lv_icmp_ge (tgt := 141) hx hb dX4_laySum_46 (by decide) (fun c_2 => ?_) (fun c_2 => ?_)
            · skip
              refine lv_aload_n hx hb dX4_laySum_141 rfl (lv_at hl 0 rfl) ?_
              refine lv_iload_n hx hb dX4_laySum_142 rfl (lv_at hl 1 rfl) ?_
              refine mu_V (As := [.int (nI rw)]) (rest := []) (W1 := [(aO, .inr (4, [.int (nI Q), .int (nI P), .int (nI M), .int (nI Wd), .ref aOw, .ref aDg, .ref aWk, .ref aSm, .ref aFo, .ref aBk, .int (nI fo), .int (nI ba), .int (nI le), .int (nI sf), .ref aIm, .ref aKp])), (aOw, .inl (cI, 2401, .inl (lO (tN Q P) fOw))), (aDg, .inl (cI, 49, .inl (lD (tN Q P) fDg))), (aWk, .inl (cI, 49, .inl (lW (tN Q P) fWk))), (aSm, .inl (cI, 98, .inl (rowP rw (rdO (cyR (tN Q P)) (dgN (tN Q P)) (tN Q P - dgN (tN Q P)) (tN Q P - 1) v) sm)))]) (st1 := []) ⟨hx, hb, hml, hown, hts⟩ hT hP hD hS (k_X4_leaveOver l D cI cZ aO Q P M Wd aOw aDg aWk aSm aFo aBk fo ba le sf aIm aKp (lO (tN Q P) fOw) (lD (tN Q P) fDg) rw v sm hv hr2 (rowOk_n hn0 _ _)) gX4_laySum_X4_leaveOver rfl rfl nd_X4_leaveOver [0, 1, 2, 4] (by decide) rfl rfl rfl rfl (ci := 4) rfl rfl (q0 := 0) rfl hl.1 rfl rfl (Nat.le_of_ble_eq_true rfl) ⟨Nat.le_of_ble_eq_true rfl, Nat.le_of_ble_eq_true rfl⟩ ⟨rfl, rfl⟩ ⟨Nat.zero_le _, Nat.zero_le _⟩ dX4_laySum_143 (fun H locs hP hD hS => ?_)
              exact mu_retv hx hb hr hlocks dX4_laySum_146 (by unfold adR; rw [h4]; exact hP) hS
            · exfalso; exact c_2 (nI_le (by omega) (by omega))
          | succ f ih_42 =>
            intro i v h1 h4 H locs hP hD hS ls hl
            refine lv_iload hx hb dX4_laySum_42 (lv_at hl 6 rfl) ?_
            refine lv_iload hx hb dX4_laySum_44 (lv_at hl 5 rfl) ?_
            refine lv_icmp_ge (tgt := 141) hx hb dX4_laySum_46 (by decide) (fun c_3 => ?_) (fun c_3 => ?_)
            · exfalso; exact nI_ge (show i < tN Q P by omega) (by omega) c_3
            · skip
              refine lv_aload_n hx hb dX4_laySum_49 rfl (lv_at hl 0 rfl) ?_
              refine lv_iload hx hb dX4_laySum_50 (lv_at hl 6 rfl) ?_
              refine ro_V (As := [.int (nI i)]) (rest := []) ⟨hx, hb, hml, hown, hts⟩ hT hP (k_X4_phaseOf l D cI cZ aO Q P M Wd aOw aDg aWk aSm aFo aBk fo ba le sf aIm aKp i hv (by omega)) gX4_laySum_X4_phaseOf rfl rfl nd_X4_phaseOf [0] rfl (ci := 4) rfl rfl (q0 := 0) rfl hl.1 rfl rfl (Nat.le_of_ble_eq_true rfl) ⟨Nat.le_of_ble_eq_true rfl, Nat.le_of_ble_eq_true rfl⟩ ⟨rfl, rfl⟩ ⟨Nat.zero_le _, Nat.zero_le _⟩ dX4_laySum_52 ?_
              refine lv_iload_n hx hb dX4_laySum_55 rfl (lv_at hl 2 rfl) ?_
              refine lv_icmp_ne (tgt := 135) hx hb dX4_laySum_56 (by decide) (fun c_4 => ?_) (fun c_4 => ?_)
              · skip
                refine lv_iinc (v := nI (i + 1)) (lv' := [(6, .int (nI (i + 1))), (0, .ref aO), (1, .int (nI rw)), (2, .int a), (3, .int (nI h)), (4, .int (nI w)), (5, .int (nI (tN Q P)))]) hx hb dX4_laySum_135 hl (k := 6) rfl ((nI_succ i).symm) (by decide) rfl (fun ls hl => ?_)
                refine lv_goto (tgt := 42) hx hb dX4_laySum_138 (by decide) ?_
                exact ih_42 (i + 1) _ (by omega) (by rw [h4]; simp [adL, adS, c_1, c_3, c_4]) _ _ hP hD hS ls (lv_sub hl [1, 2, 3, 4, 5, 6, 0] rfl)
              · skip
                have hm1 : h * tn Q P i < 1000 * 48 := Nat.mul_lt_mul_of_lt_of_le hh (by have := tn_lt hv i; omega) (by decide)
                have hm2 : h * tn Q P (en Q i w) < 1000 * 48 := Nat.mul_lt_mul_of_lt_of_le hh (by have := tn_lt hv (en Q i w); omega) (by decide)
                have hen : en Q i w < Q := Nat.mod_lt _ (by omega)
                have hl1 : h * tn Q P i % tN Q P < tN Q P := Nat.mod_lt _ hn0
                have hl2 : h * tn Q P (en Q i w) % tN Q P < tN Q P := Nat.mod_lt _ hn0
                refine lv_aload_n hx hb dX4_laySum_59 rfl (lv_at hl 0 rfl) ?_
                refine lv_iload hx hb dX4_laySum_60 (lv_at hl 6 rfl) ?_
                refine ro_V (As := [.int (nI i)]) (rest := []) ⟨hx, hb, hml, hown, hts⟩ hT hP (k_X4_isForward l D cI cZ aO Q P M Wd aOw aDg aWk aSm aFo aBk fo ba le sf aIm aKp i hv (by omega)) gX4_laySum_X4_isForward rfl rfl nd_X4_isForward [0] rfl (ci := 4) rfl rfl (q0 := 0) rfl hl.1 rfl rfl (Nat.le_of_ble_eq_true rfl) ⟨Nat.le_of_ble_eq_true rfl, Nat.le_of_ble_eq_true rfl⟩ ⟨rfl, rfl⟩ ⟨Nat.zero_le _, Nat.zero_le _⟩ dX4_laySum_62 ?_
                refine lv_if_eq (tgt := 72) hx hb dX4_laySum_65 (by decide) (fun c_5 => ?_) (fun c_5 => ?_)
                · skip
                  refine lv_iconst (v := (-1)) hx hb dX4_laySum_72 (by decide) ?_
                  refine top_eq (z := (sgn Q P M i)) (by simp [sgn, c_1, c_3, c_4, c_5]) ?_
                  refine lv_istore (lv' := [(7, .int (sgn Q P M i)), (0, .ref aO), (1, .int (nI rw)), (2, .int a), (3, .int (nI h)), (4, .int (nI w)), (5, .int (nI (tN Q P))), (6, .int (nI i))]) hx hb dX4_laySum_73 hl (by decide) rfl (fun ls hl => ?_)
                  refine lv_aload_n hx hb dX4_laySum_75 rfl (lv_at hl 1 rfl) ?_
                  refine va_get (D := D) (ci := 4) (v := .ref aSm) (C := RX4) (T := TX4) (N := 16) hx hb hts hi_X4_laySum_X4 hown hT.1 hP 0 rfl rfl 7 (by decide) (hts (.fieldLink RX4 32 "SlotStarModel" "sum" "[I") (List.mem_of_getElem? (i := 1) rfl)) (fun _ h9 => h9) rfl dX4_laySum_76 ?_
                  refine lv_bipush (v := 49) hx hb dX4_laySum_79 (by decide) ?_
                  refine lv_iload_n hx hb dX4_laySum_81 rfl (lv_at hl 2 rfl) ?_
                  refine lv_imul hx hb dX4_laySum_82 ?_
                  refine top_eq (z := (nI (49 * rw))) (by exact pk_mul 49 rw) ?_
                  refine lv_iload_n hx hb dX4_laySum_83 rfl (lv_at hl 4 rfl) ?_
                  refine lv_aload_n hx hb dX4_laySum_84 rfl (lv_at hl 1 rfl) ?_
                  refine lv_iload hx hb dX4_laySum_85 (lv_at hl 7 rfl) ?_
                  refine ro_V (As := [.int (nI i)]) (rest := [.int (nI h), .int (nI (49 * rw)), .ref aSm]) ⟨hx, hb, hml, hown, hts⟩ hT hP (k_X4_turn l D cI cZ aO Q P M Wd aOw aDg aWk aSm aFo aBk fo ba le sf aIm aKp i hv (by omega)) gX4_laySum_X4_turn rfl rfl nd_X4_turn [0] rfl (ci := 4) rfl rfl (q0 := 0) rfl hl.1 rfl rfl (Nat.le_of_ble_eq_true rfl) ⟨Nat.le_of_ble_eq_true rfl, Nat.le_of_ble_eq_true rfl⟩ ⟨rfl, rfl⟩ ⟨Nat.zero_le _, Nat.zero_le _⟩ dX4_laySum_87 ?_
                  refine lv_imul hx hb dX4_laySum_90 ?_
                  refine top_eq (z := (nI (h * tn Q P i))) (by exact pk_mul _ _) ?_
                  refine lv_iload hx hb dX4_laySum_91 (lv_at hl 6 rfl) ?_
                  refine lv_irem hx hb dX4_laySum_93 (nI_ne0 hn0 (by omega)) ?_
                  refine top_eq (z := (nI (h * tn Q P i % tN Q P))) (by exact pk_rem (by omega) hn0 (by omega)) ?_
                  refine lv_iadd hx hb dX4_laySum_94 ?_
                  refine top_eq (z := (nI (49 * rw + h * tn Q P i % tN Q P))) (by exact nI_add _ _) ?_
                  refine lv_dup2_11 hx hb dX4_laySum_95 rfl rfl ?_
                  refine ld_i hx hb hT hP 4 rfl dX4_laySum_96 (k := (49 * rw + h * tn Q P i % tN Q P)) rfl (by omega) (by decide) ?_
                  refine top_eq (z := (v (h * tn Q P i % tN Q P))) (by exact rowP_in (by omega)) ?_
                  refine lv_iload hx hb dX4_laySum_97 (lv_at hl 0 rfl) ?_
                  refine lv_iadd hx hb dX4_laySum_99 ?_
                  refine st_i hx hb hT hP hD hS 4 rfl dX4_laySum_100 (k := (49 * rw + h * tn Q P i % tN Q P)) (W1 := [(aO, .inr (4, [.int (nI Q), .int (nI P), .int (nI M), .int (nI Wd), .ref aOw, .ref aDg, .ref aWk, .ref aSm, .ref aFo, .ref aBk, .int (nI fo), .int (nI ba), .int (nI le), .int (nI sf), .ref aIm, .ref aKp])), (aOw, .inl (cI, 2401, .inl (lO (tN Q P) fOw))), (aDg, .inl (cI, 49, .inl (lD (tN Q P) fDg))), (aWk, .inl (cI, 49, .inl (lW (tN Q P) fWk))), (aSm, .inl (cI, 98, .inl (upd (rowP rw v sm) (49 * rw + h * tn Q P i % tN Q P) ((v (h * tn Q P i % tN Q P)) + (sgn Q P M i)))))]) rfl (by omega) (by decide) rfl (fun H locs hP hD hS => ?_)
                  have hP : va_P D cls5 [(aO, .inr (4, [.int (nI Q), .int (nI P), .int (nI M), .int (nI Wd), .ref aOw, .ref aDg, .ref aWk, .ref aSm, .ref aFo, .ref aBk, .int (nI fo), .int (nI ba), .int (nI le), .int (nI sf), .ref aIm, .ref aKp])), (aOw, .inl (cI, 2401, .inl (lO (tN Q P) fOw))), (aDg, .inl (cI, 49, .inl (lD (tN Q P) fDg))), (aWk, .inl (cI, 49, .inl (lW (tN Q P) fWk))), (aSm, .inl (cI, 98, .inl (rowP rw (ap (tN Q P) (h * tn Q P i) (sgn Q P M i) v) sm)))] H := by rw [rowP_upd (by omega)] at hP; exact hP
                  have hD : va_D (va_M [(aO, .inr (4, [.int (nI Q), .int (nI P), .int (nI M), .int (nI Wd), .ref aOw, .ref aDg, .ref aWk, .ref aSm, .ref aFo, .ref aBk, .int (nI fo), .int (nI ba), .int (nI le), .int (nI sf), .ref aIm, .ref aKp])), (aOw, .inl (cI, 2401, .inl fOw)), (aDg, .inl (cI, 49, .inl fDg)), (aWk, .inl (cI, 49, .inl fWk)), (aSm, .inl (cI, 98, .inl sm))]) [(aO, .inr (4, [.int (nI Q), .int (nI P), .int (nI M), .int (nI Wd), .ref aOw, .ref aDg, .ref aWk, .ref aSm, .ref aFo, .ref aBk, .int (nI fo), .int (nI ba), .int (nI le), .int (nI sf), .ref aIm, .ref aKp])), (aOw, .inl (cI, 2401, .inl (lO (tN Q P) fOw))), (aDg, .inl (cI, 49, .inl (lD (tN Q P) fDg))), (aWk, .inl (cI, 49, .inl (lW (tN Q P) fWk))), (aSm, .inl (cI, 98, .inl (rowP rw (ap (tN Q P) (h * tn Q P i) (sgn Q P M i) v) sm)))] := by rw [rowP_upd (by omega)] at hD; exact hD
                  refine lv_aload_n hx hb dX4_laySum_101 rfl (lv_at hl 1 rfl) ?_
                  refine va_get (D := D) (ci := 4) (v := .ref aSm) (C := RX4) (T := TX4) (N := 16) hx hb hts hi_X4_laySum_X4 hown hT.1 hP 0 rfl rfl 7 (by decide) (hts (.fieldLink RX4 32 "SlotStarModel" "sum" "[I") (List.mem_of_getElem? (i := 1) rfl)) (fun _ h9 => h9) rfl dX4_laySum_102 ?_
                  refine lv_bipush (v := 49) hx hb dX4_laySum_105 (by decide) ?_
                  refine lv_iload_n hx hb dX4_laySum_107 rfl (lv_at hl 2 rfl) ?_
                  refine lv_imul hx hb dX4_laySum_108 ?_
                  refine top_eq (z := (nI (49 * rw))) (by exact pk_mul 49 rw) ?_
                  refine lv_iload_n hx hb dX4_laySum_109 rfl (lv_at hl 4 rfl) ?_
                  refine lv_aload_n hx hb dX4_laySum_110 rfl (lv_at hl 1 rfl) ?_
                  refine lv_iload hx hb dX4_laySum_111 (lv_at hl 7 rfl) ?_
                  refine lv_iload hx hb dX4_laySum_113 (lv_at hl 5 rfl) ?_
                  refine lv_iadd hx hb dX4_laySum_115 ?_
                  refine top_eq (z := (nI (i + w))) (by exact nI_add _ _) ?_
                  refine lv_aload_n hx hb dX4_laySum_116 rfl (lv_at hl 1 rfl) ?_
                  refine va_get (D := D) (ci := 4) (v := .int (nI Q)) (C := RX4) (T := TX4) (N := 16) hx hb hts hi_X4_laySum_X4 hown hT.1 hP 0 rfl rfl 0 (by decide) (hts (.fieldLink RX4 7 "SlotStarModel" "slots" "I") (List.mem_of_getElem? (i := 2) rfl)) (fun _ h9 => h9) rfl dX4_laySum_117 ?_
                  refine lv_irem hx hb dX4_laySum_120 (nI_ne0 (by omega) (by omega)) ?_
                  refine top_eq (z := (nI (en Q i w))) (by exact pk_rem (by omega) (by omega) (by omega)) ?_
                  refine ro_V (As := [.int (nI (en Q i w))]) (rest := [.int (nI h), .int (nI (49 * rw)), .ref aSm]) ⟨hx, hb, hml, hown, hts⟩ hT hP (k_X4_turn l D cI cZ aO Q P M Wd aOw aDg aWk aSm aFo aBk fo ba le sf aIm aKp (en Q i w) hv (by omega)) gX4_laySum_X4_turn rfl rfl nd_X4_turn [0] rfl (ci := 4) rfl rfl (q0 := 0) rfl hl.1 rfl rfl (Nat.le_of_ble_eq_true rfl) ⟨Nat.le_of_ble_eq_true rfl, Nat.le_of_ble_eq_true rfl⟩ ⟨rfl, rfl⟩ ⟨Nat.zero_le _, Nat.zero_le _⟩ dX4_laySum_121 ?_
                  refine lv_imul hx hb dX4_laySum_124 ?_
                  refine top_eq (z := (nI (h * tn Q P (en Q i w)))) (by exact pk_mul _ _) ?_
                  refine lv_iload hx hb dX4_laySum_125 (lv_at hl 6 rfl) ?_
                  refine lv_irem hx hb dX4_laySum_127 (nI_ne0 hn0 (by omega)) ?_
                  refine top_eq (z := (nI (h * tn Q P (en Q i w) % tN Q P))) (by exact pk_rem (by omega) hn0 (by omega)) ?_
                  refine lv_iadd hx hb dX4_laySum_128 ?_
                  refine top_eq (z := (nI (49 * rw + h * tn Q P (en Q i w) % tN Q P))) (by exact nI_add _ _) ?_
                  refine lv_dup2_11 hx hb dX4_laySum_129 rfl rfl ?_
                  refine ld_i hx hb hT hP 4 rfl dX4_laySum_130 (k := (49 * rw + h * tn Q P (en Q i w) % tN Q P)) rfl (by omega) (by decide) ?_
                  refine top_eq (z := (ap (tN Q P) (h * tn Q P i) (sgn Q P M i) v (h * tn Q P (en Q i w) % tN Q P))) (by exact rowP_in (by omega)) ?_
                  refine lv_iload hx hb dX4_laySum_131 (lv_at hl 0 rfl) ?_
                  refine lv_isub hx hb dX4_laySum_133 ?_
                  refine top_eq (z := (ap (tN Q P) (h * tn Q P i) (sgn Q P M i) v (h * tn Q P (en Q i w) % tN Q P) + -(sgn Q P M i))) (by exact i_sub) ?_
                  refine st_i hx hb hT hP hD hS 4 rfl dX4_laySum_134 (k := (49 * rw + h * tn Q P (en Q i w) % tN Q P)) (W1 := [(aO, .inr (4, [.int (nI Q), .int (nI P), .int (nI M), .int (nI Wd), .ref aOw, .ref aDg, .ref aWk, .ref aSm, .ref aFo, .ref aBk, .int (nI fo), .int (nI ba), .int (nI le), .int (nI sf), .ref aIm, .ref aKp])), (aOw, .inl (cI, 2401, .inl (lO (tN Q P) fOw))), (aDg, .inl (cI, 49, .inl (lD (tN Q P) fDg))), (aWk, .inl (cI, 49, .inl (lW (tN Q P) fWk))), (aSm, .inl (cI, 98, .inl (upd (rowP rw (ap (tN Q P) (h * tn Q P i) (sgn Q P M i) v) sm) (49 * rw + h * tn Q P (en Q i w) % tN Q P) (ap (tN Q P) (h * tn Q P i) (sgn Q P M i) v (h * tn Q P (en Q i w) % tN Q P) + -(sgn Q P M i)))))]) rfl (by omega) (by decide) rfl (fun H locs hP hD hS => ?_)
                  have hP : va_P D cls5 [(aO, .inr (4, [.int (nI Q), .int (nI P), .int (nI M), .int (nI Wd), .ref aOw, .ref aDg, .ref aWk, .ref aSm, .ref aFo, .ref aBk, .int (nI fo), .int (nI ba), .int (nI le), .int (nI sf), .ref aIm, .ref aKp])), (aOw, .inl (cI, 2401, .inl (lO (tN Q P) fOw))), (aDg, .inl (cI, 49, .inl (lD (tN Q P) fDg))), (aWk, .inl (cI, 49, .inl (lW (tN Q P) fWk))), (aSm, .inl (cI, 98, .inl (rowP rw (ap (tN Q P) (h * tn Q P (en Q i w)) (-(sgn Q P M i)) (ap (tN Q P) (h * tn Q P i) (sgn Q P M i) v)) sm)))] H := by rw [rowP_upd (by omega)] at hP; exact hP
                  have hD : va_D (va_M [(aO, .inr (4, [.int (nI Q), .int (nI P), .int (nI M), .int (nI Wd), .ref aOw, .ref aDg, .ref aWk, .ref aSm, .ref aFo, .ref aBk, .int (nI fo), .int (nI ba), .int (nI le), .int (nI sf), .ref aIm, .ref aKp])), (aOw, .inl (cI, 2401, .inl fOw)), (aDg, .inl (cI, 49, .inl fDg)), (aWk, .inl (cI, 49, .inl fWk)), (aSm, .inl (cI, 98, .inl sm))]) [(aO, .inr (4, [.int (nI Q), .int (nI P), .int (nI M), .int (nI Wd), .ref aOw, .ref aDg, .ref aWk, .ref aSm, .ref aFo, .ref aBk, .int (nI fo), .int (nI ba), .int (nI le), .int (nI sf), .ref aIm, .ref aKp])), (aOw, .inl (cI, 2401, .inl (lO (tN Q P) fOw))), (aDg, .inl (cI, 49, .inl (lD (tN Q P) fDg))), (aWk, .inl (cI, 49, .inl (lW (tN Q P) fWk))), (aSm, .inl (cI, 98, .inl (rowP rw (ap (tN Q P) (h * tn Q P (en Q i w)) (-(sgn Q P M i)) (ap (tN Q P) (h * tn Q P i) (sgn Q P M i) v)) sm)))] := by rw [rowP_upd (by omega)] at hD; exact hD
                  refine lv_iinc (v := nI (i + 1)) (lv' := [(6, .int (nI (i + 1))), (7, .int (sgn Q P M i)), (0, .ref aO), (1, .int (nI rw)), (2, .int a), (3, .int (nI h)), (4, .int (nI w)), (5, .int (nI (tN Q P)))]) hx hb dX4_laySum_135 hl (k := 7) rfl ((nI_succ i).symm) (by decide) rfl (fun ls hl => ?_)
                  refine lv_goto (tgt := 42) hx hb dX4_laySum_138 (by decide) ?_
                  exact ih_42 (i + 1) _ (by omega) (by rw [h4]; simp [adL, adS, c_1, c_3, c_4, c_5]) _ _ hP hD hS ls (lv_sub hl [2, 3, 4, 5, 6, 7, 0] rfl)
                · skip
                  refine lv_iconst (v := 1) hx hb dX4_laySum_68 (by decide) ?_
                  refine top_eq (z := (sgn Q P M i)) (by simp [sgn, c_1, c_3, c_4, c_5]) ?_
                  refine lv_goto (tgt := 73) hx hb dX4_laySum_69 (by decide) ?_
                  refine lv_istore (lv' := [(7, .int (sgn Q P M i)), (0, .ref aO), (1, .int (nI rw)), (2, .int a), (3, .int (nI h)), (4, .int (nI w)), (5, .int (nI (tN Q P))), (6, .int (nI i))]) hx hb dX4_laySum_73 hl (by decide) rfl (fun ls hl => ?_)
                  refine lv_aload_n hx hb dX4_laySum_75 rfl (lv_at hl 1 rfl) ?_
                  refine va_get (D := D) (ci := 4) (v := .ref aSm) (C := RX4) (T := TX4) (N := 16) hx hb hts hi_X4_laySum_X4 hown hT.1 hP 0 rfl rfl 7 (by decide) (hts (.fieldLink RX4 32 "SlotStarModel" "sum" "[I") (List.mem_of_getElem? (i := 1) rfl)) (fun _ h9 => h9) rfl dX4_laySum_76 ?_
                  refine lv_bipush (v := 49) hx hb dX4_laySum_79 (by decide) ?_
                  refine lv_iload_n hx hb dX4_laySum_81 rfl (lv_at hl 2 rfl) ?_
                  refine lv_imul hx hb dX4_laySum_82 ?_
                  refine top_eq (z := (nI (49 * rw))) (by exact pk_mul 49 rw) ?_
                  refine lv_iload_n hx hb dX4_laySum_83 rfl (lv_at hl 4 rfl) ?_
                  refine lv_aload_n hx hb dX4_laySum_84 rfl (lv_at hl 1 rfl) ?_
                  refine lv_iload hx hb dX4_laySum_85 (lv_at hl 7 rfl) ?_
                  refine ro_V (As := [.int (nI i)]) (rest := [.int (nI h), .int (nI (49 * rw)), .ref aSm]) ⟨hx, hb, hml, hown, hts⟩ hT hP (k_X4_turn l D cI cZ aO Q P M Wd aOw aDg aWk aSm aFo aBk fo ba le sf aIm aKp i hv (by omega)) gX4_laySum_X4_turn rfl rfl nd_X4_turn [0] rfl (ci := 4) rfl rfl (q0 := 0) rfl hl.1 rfl rfl (Nat.le_of_ble_eq_true rfl) ⟨Nat.le_of_ble_eq_true rfl, Nat.le_of_ble_eq_true rfl⟩ ⟨rfl, rfl⟩ ⟨Nat.zero_le _, Nat.zero_le _⟩ dX4_laySum_87 ?_
                  refine lv_imul hx hb dX4_laySum_90 ?_
                  refine top_eq (z := (nI (h * tn Q P i))) (by exact pk_mul _ _) ?_
                  refine lv_iload hx hb dX4_laySum_91 (lv_at hl 6 rfl) ?_
                  refine lv_irem hx hb dX4_laySum_93 (nI_ne0 hn0 (by omega)) ?_
                  refine top_eq (z := (nI (h * tn Q P i % tN Q P))) (by exact pk_rem (by omega) hn0 (by omega)) ?_
                  refine lv_iadd hx hb dX4_laySum_94 ?_
                  refine top_eq (z := (nI (49 * rw + h * tn Q P i % tN Q P))) (by exact nI_add _ _) ?_
                  refine lv_dup2_11 hx hb dX4_laySum_95 rfl rfl ?_
                  refine ld_i hx hb hT hP 4 rfl dX4_laySum_96 (k := (49 * rw + h * tn Q P i % tN Q P)) rfl (by omega) (by decide) ?_
                  refine top_eq (z := (v (h * tn Q P i % tN Q P))) (by exact rowP_in (by omega)) ?_
                  refine lv_iload hx hb dX4_laySum_97 (lv_at hl 0 rfl) ?_
                  refine lv_iadd hx hb dX4_laySum_99 ?_
                  refine st_i hx hb hT hP hD hS 4 rfl dX4_laySum_100 (k := (49 * rw + h * tn Q P i % tN Q P)) (W1 := [(aO, .inr (4, [.int (nI Q), .int (nI P), .int (nI M), .int (nI Wd), .ref aOw, .ref aDg, .ref aWk, .ref aSm, .ref aFo, .ref aBk, .int (nI fo), .int (nI ba), .int (nI le), .int (nI sf), .ref aIm, .ref aKp])), (aOw, .inl (cI, 2401, .inl (lO (tN Q P) fOw))), (aDg, .inl (cI, 49, .inl (lD (tN Q P) fDg))), (aWk, .inl (cI, 49, .inl (lW (tN Q P) fWk))), (aSm, .inl (cI, 98, .inl (upd (rowP rw v sm) (49 * rw + h * tn Q P i % tN Q P) ((v (h * tn Q P i % tN Q P)) + (sgn Q P M i)))))]) rfl (by omega) (by decide) rfl (fun H locs hP hD hS => ?_)
                  have hP : va_P D cls5 [(aO, .inr (4, [.int (nI Q), .int (nI P), .int (nI M), .int (nI Wd), .ref aOw, .ref aDg, .ref aWk, .ref aSm, .ref aFo, .ref aBk, .int (nI fo), .int (nI ba), .int (nI le), .int (nI sf), .ref aIm, .ref aKp])), (aOw, .inl (cI, 2401, .inl (lO (tN Q P) fOw))), (aDg, .inl (cI, 49, .inl (lD (tN Q P) fDg))), (aWk, .inl (cI, 49, .inl (lW (tN Q P) fWk))), (aSm, .inl (cI, 98, .inl (rowP rw (ap (tN Q P) (h * tn Q P i) (sgn Q P M i) v) sm)))] H := by rw [rowP_upd (by omega)] at hP; exact hP
                  have hD : va_D (va_M [(aO, .inr (4, [.int (nI Q), .int (nI P), .int (nI M), .int (nI Wd), .ref aOw, .ref aDg, .ref aWk, .ref aSm, .ref aFo, .ref aBk, .int (nI fo), .int (nI ba), .int (nI le), .int (nI sf), .ref aIm, .ref aKp])), (aOw, .inl (cI, 2401, .inl fOw)), (aDg, .inl (cI, 49, .inl fDg)), (aWk, .inl (cI, 49, .inl fWk)), (aSm, .inl (cI, 98, .inl sm))]) [(aO, .inr (4, [.int (nI Q), .int (nI P), .int (nI M), .int (nI Wd), .ref aOw, .ref aDg, .ref aWk, .ref aSm, .ref aFo, .ref aBk, .int (nI fo), .int (nI ba), .int (nI le), .int (nI sf), .ref aIm, .ref aKp])), (aOw, .inl (cI, 2401, .inl (lO (tN Q P) fOw))), (aDg, .inl (cI, 49, .inl (lD (tN Q P) fDg))), (aWk, .inl (cI, 49, .inl (lW (tN Q P) fWk))), (aSm, .inl (cI, 98, .inl (rowP rw (ap (tN Q P) (h * tn Q P i) (sgn Q P M i) v) sm)))] := by rw [rowP_upd (by omega)] at hD; exact hD
                  refine lv_aload_n hx hb dX4_laySum_101 rfl (lv_at hl 1 rfl) ?_
                  refine va_get (D := D) (ci := 4) (v := .ref aSm) (C := RX4) (T := TX4) (N := 16) hx hb hts hi_X4_laySum_X4 hown hT.1 hP 0 rfl rfl 7 (by decide) (hts (.fieldLink RX4 32 "SlotStarModel" "sum" "[I") (List.mem_of_getElem? (i := 1) rfl)) (fun _ h9 => h9) rfl dX4_laySum_102 ?_
                  refine lv_bipush (v := 49) hx hb dX4_laySum_105 (by decide) ?_
                  refine lv_iload_n hx hb dX4_laySum_107 rfl (lv_at hl 2 rfl) ?_
                  refine lv_imul hx hb dX4_laySum_108 ?_
                  refine top_eq (z := (nI (49 * rw))) (by exact pk_mul 49 rw) ?_
                  refine lv_iload_n hx hb dX4_laySum_109 rfl (lv_at hl 4 rfl) ?_
                  refine lv_aload_n hx hb dX4_laySum_110 rfl (lv_at hl 1 rfl) ?_
                  refine lv_iload hx hb dX4_laySum_111 (lv_at hl 7 rfl) ?_
                  refine lv_iload hx hb dX4_laySum_113 (lv_at hl 5 rfl) ?_
                  refine lv_iadd hx hb dX4_laySum_115 ?_
                  refine top_eq (z := (nI (i + w))) (by exact nI_add _ _) ?_
                  refine lv_aload_n hx hb dX4_laySum_116 rfl (lv_at hl 1 rfl) ?_
                  refine va_get (D := D) (ci := 4) (v := .int (nI Q)) (C := RX4) (T := TX4) (N := 16) hx hb hts hi_X4_laySum_X4 hown hT.1 hP 0 rfl rfl 0 (by decide) (hts (.fieldLink RX4 7 "SlotStarModel" "slots" "I") (List.mem_of_getElem? (i := 2) rfl)) (fun _ h9 => h9) rfl dX4_laySum_117 ?_
                  refine lv_irem hx hb dX4_laySum_120 (nI_ne0 (by omega) (by omega)) ?_
                  refine top_eq (z := (nI (en Q i w))) (by exact pk_rem (by omega) (by omega) (by omega)) ?_
                  refine ro_V (As := [.int (nI (en Q i w))]) (rest := [.int (nI h), .int (nI (49 * rw)), .ref aSm]) ⟨hx, hb, hml, hown, hts⟩ hT hP (k_X4_turn l D cI cZ aO Q P M Wd aOw aDg aWk aSm aFo aBk fo ba le sf aIm aKp (en Q i w) hv (by omega)) gX4_laySum_X4_turn rfl rfl nd_X4_turn [0] rfl (ci := 4) rfl rfl (q0 := 0) rfl hl.1 rfl rfl (Nat.le_of_ble_eq_true rfl) ⟨Nat.le_of_ble_eq_true rfl, Nat.le_of_ble_eq_true rfl⟩ ⟨rfl, rfl⟩ ⟨Nat.zero_le _, Nat.zero_le _⟩ dX4_laySum_121 ?_
                  refine lv_imul hx hb dX4_laySum_124 ?_
                  refine top_eq (z := (nI (h * tn Q P (en Q i w)))) (by exact pk_mul _ _) ?_
                  refine lv_iload hx hb dX4_laySum_125 (lv_at hl 6 rfl) ?_
                  refine lv_irem hx hb dX4_laySum_127 (nI_ne0 hn0 (by omega)) ?_
                  refine top_eq (z := (nI (h * tn Q P (en Q i w) % tN Q P))) (by exact pk_rem (by omega) hn0 (by omega)) ?_
                  refine lv_iadd hx hb dX4_laySum_128 ?_
                  refine top_eq (z := (nI (49 * rw + h * tn Q P (en Q i w) % tN Q P))) (by exact nI_add _ _) ?_
                  refine lv_dup2_11 hx hb dX4_laySum_129 rfl rfl ?_
                  refine ld_i hx hb hT hP 4 rfl dX4_laySum_130 (k := (49 * rw + h * tn Q P (en Q i w) % tN Q P)) rfl (by omega) (by decide) ?_
                  refine top_eq (z := (ap (tN Q P) (h * tn Q P i) (sgn Q P M i) v (h * tn Q P (en Q i w) % tN Q P))) (by exact rowP_in (by omega)) ?_
                  refine lv_iload hx hb dX4_laySum_131 (lv_at hl 0 rfl) ?_
                  refine lv_isub hx hb dX4_laySum_133 ?_
                  refine top_eq (z := (ap (tN Q P) (h * tn Q P i) (sgn Q P M i) v (h * tn Q P (en Q i w) % tN Q P) + -(sgn Q P M i))) (by exact i_sub) ?_
                  refine st_i hx hb hT hP hD hS 4 rfl dX4_laySum_134 (k := (49 * rw + h * tn Q P (en Q i w) % tN Q P)) (W1 := [(aO, .inr (4, [.int (nI Q), .int (nI P), .int (nI M), .int (nI Wd), .ref aOw, .ref aDg, .ref aWk, .ref aSm, .ref aFo, .ref aBk, .int (nI fo), .int (nI ba), .int (nI le), .int (nI sf), .ref aIm, .ref aKp])), (aOw, .inl (cI, 2401, .inl (lO (tN Q P) fOw))), (aDg, .inl (cI, 49, .inl (lD (tN Q P) fDg))), (aWk, .inl (cI, 49, .inl (lW (tN Q P) fWk))), (aSm, .inl (cI, 98, .inl (upd (rowP rw (ap (tN Q P) (h * tn Q P i) (sgn Q P M i) v) sm) (49 * rw + h * tn Q P (en Q i w) % tN Q P) (ap (tN Q P) (h * tn Q P i) (sgn Q P M i) v (h * tn Q P (en Q i w) % tN Q P) + -(sgn Q P M i)))))]) rfl (by omega) (by decide) rfl (fun H locs hP hD hS => ?_)
                  have hP : va_P D cls5 [(aO, .inr (4, [.int (nI Q), .int (nI P), .int (nI M), .int (nI Wd), .ref aOw, .ref aDg, .ref aWk, .ref aSm, .ref aFo, .ref aBk, .int (nI fo), .int (nI ba), .int (nI le), .int (nI sf), .ref aIm, .ref aKp])), (aOw, .inl (cI, 2401, .inl (lO (tN Q P) fOw))), (aDg, .inl (cI, 49, .inl (lD (tN Q P) fDg))), (aWk, .inl (cI, 49, .inl (lW (tN Q P) fWk))), (aSm, .inl (cI, 98, .inl (rowP rw (ap (tN Q P) (h * tn Q P (en Q i w)) (-(sgn Q P M i)) (ap (tN Q P) (h * tn Q P i) (sgn Q P M i) v)) sm)))] H := by rw [rowP_upd (by omega)] at hP; exact hP
                  have hD : va_D (va_M [(aO, .inr (4, [.int (nI Q), .int (nI P), .int (nI M), .int (nI Wd), .ref aOw, .ref aDg, .ref aWk, .ref aSm, .ref aFo, .ref aBk, .int (nI fo), .int (nI ba), .int (nI le), .int (nI sf), .ref aIm, .ref aKp])), (aOw, .inl (cI, 2401, .inl fOw)), (aDg, .inl (cI, 49, .inl fDg)), (aWk, .inl (cI, 49, .inl fWk)), (aSm, .inl (cI, 98, .inl sm))]) [(aO, .inr (4, [.int (nI Q), .int (nI P), .int (nI M), .int (nI Wd), .ref aOw, .ref aDg, .ref aWk, .ref aSm, .ref aFo, .ref aBk, .int (nI fo), .int (nI ba), .int (nI le), .int (nI sf), .ref aIm, .ref aKp])), (aOw, .inl (cI, 2401, .inl (lO (tN Q P) fOw))), (aDg, .inl (cI, 49, .inl (lD (tN Q P) fDg))), (aWk, .inl (cI, 49, .inl (lW (tN Q P) fWk))), (aSm, .inl (cI, 98, .inl (rowP rw (ap (tN Q P) (h * tn Q P (en Q i w)) (-(sgn Q P M i)) (ap (tN Q P) (h * tn Q P i) (sgn Q P M i) v)) sm)))] := by rw [rowP_upd (by omega)] at hD; exact hD
                  refine lv_iinc (v := nI (i + 1)) (lv' := [(6, .int (nI (i + 1))), (7, .int (sgn Q P M i)), (0, .ref aO), (1, .int (nI rw)), (2, .int a), (3, .int (nI h)), (4, .int (nI w)), (5, .int (nI (tN Q P)))]) hx hb dX4_laySum_135 hl (k := 7) rfl ((nI_succ i).symm) (by decide) rfl (fun ls hl => ?_)
                  refine lv_goto (tgt := 42) hx hb dX4_laySum_138 (by decide) ?_
                  exact ih_42 (i + 1) _ (by omega) (by rw [h4]; simp [adL, adS, c_1, c_3, c_4, c_5]) _ _ hP hD hS ls (lv_sub hl [2, 3, 4, 5, 6, 7, 0] rfl)
        exact L_42 (tN Q P) 0 (fun _ => 0) (by omega) rfl _ _ hP hD hS ls (lv_sub hl [1, 2, 3, 4, 5, 6, 0] rfl)
      · exfalso; exact c_1 (by rw [show i = 49 by omega]; decide)
    | succ f ih_13 =>
      intro i v h1 h2 H locs hP hD hS ls hl
      refine lv_iload hx hb dX4_laySum_13 (lv_at hl 6 rfl) ?_
      refine lv_bipush (v := 49) hx hb dX4_laySum_15 (by decide) ?_
      refine lv_icmp_ge (tgt := 39) hx hb dX4_laySum_17 (by decide) (fun c_6 => ?_) (fun c_6 => ?_)
      · exfalso; exact nI_ge (b := 49) (show i < 49 by omega) (by decide) c_6
      · skip
        refine lv_aload_n hx hb dX4_laySum_20 rfl (lv_at hl 0 rfl) ?_
        refine va_get (D := D) (ci := 4) (v := .ref aSm) (C := RX4) (T := TX4) (N := 16) hx hb hts hi_X4_laySum_X4 hown hT.1 hP 0 rfl rfl 7 (by decide) (hts (.fieldLink RX4 32 "SlotStarModel" "sum" "[I") (List.mem_of_getElem? (i := 1) rfl)) (fun _ h9 => h9) rfl dX4_laySum_21 ?_
        refine lv_bipush (v := 49) hx hb dX4_laySum_24 (by decide) ?_
        refine lv_iload_n hx hb dX4_laySum_26 rfl (lv_at hl 1 rfl) ?_
        refine lv_imul hx hb dX4_laySum_27 ?_
        refine top_eq (z := (nI (49 * rw))) (by exact pk_mul 49 rw) ?_
        refine lv_iload hx hb dX4_laySum_28 (lv_at hl 6 rfl) ?_
        refine lv_iadd hx hb dX4_laySum_30 ?_
        refine top_eq (z := (nI (49 * rw + i))) (by exact nI_add _ _) ?_
        refine lv_iconst (v := 0) hx hb dX4_laySum_31 (by decide) ?_
        refine st_i hx hb hT hP hD hS 4 rfl dX4_laySum_32 (k := (49 * rw + i)) (W1 := [(aO, .inr (4, [.int (nI Q), .int (nI P), .int (nI M), .int (nI Wd), .ref aOw, .ref aDg, .ref aWk, .ref aSm, .ref aFo, .ref aBk, .int (nI fo), .int (nI ba), .int (nI le), .int (nI sf), .ref aIm, .ref aKp])), (aOw, .inl (cI, 2401, .inl (lO (tN Q P) fOw))), (aDg, .inl (cI, 49, .inl (lD (tN Q P) fDg))), (aWk, .inl (cI, 49, .inl (lW (tN Q P) fWk))), (aSm, .inl (cI, 98, .inl (upd v (49 * rw + i) 0)))]) rfl (by omega) (by decide) rfl (fun H locs hP hD hS => ?_)
        refine lv_iinc (v := nI (i + 1)) (lv' := [(6, .int (nI (i + 1))), (0, .ref aO), (1, .int (nI rw)), (2, .int a), (3, .int (nI h)), (4, .int (nI w)), (5, .int (nI (tN Q P)))]) hx hb dX4_laySum_33 hl (k := 6) rfl ((nI_succ i).symm) (by decide) rfl (fun ls hl => ?_)
        refine lv_goto (tgt := 13) hx hb dX4_laySum_36 (by decide) ?_
        exact ih_13 (i + 1) _ (by omega) (by rw [h2]; rfl) _ _ hP hD hS ls (lv_sub hl [1, 2, 3, 4, 5, 6, 0] rfl)
  exact L_13 49 0 sm rfl rfl _ _ hP hD hS ls (lv_sub hl [2, 3, 4, 5, 6, 1, 0] rfl)
