theorem nd_J7_fill_53178 : okName yJ7_fill_53178 2 := by decide +kernel
set_option maxHeartbeats 4000000 in
set_option maxRecDepth 100000 in
theorem k_J7_fill_53178 (l : Launch) (D : va_G) (cI cZ : ClassId) (aX : Nat) (nX : Nat) (fX : Nat → Int32) (v : Int32) (hz : nX < 2 ^ 31) : MU l yJ7_fill_53178 wsJ7_fill_53178 ({ frames := 0, cells := 0, slots := 0, locals := 0 } : Room) D cI cZ [(aX, .inl (cI, nX, .inl fX))] [.ref aX, .int v] none [(aX, .inl (cI, nX, .inl (fun _ => v)))] := by
  refine mu_start (by decide) rfl (Nat.le_of_ble_eq_true rfl) ?_
  intro p e s m args below meth c hx hb hr hml hlocks hts hown hT hP hD hS ls hl
  have hown : s.vm.findClass RJ7 = some m.cls := hown
  have hl : lv_has ls 4 [(0, .ref aX), (1, .int v)] := hl
  refine lv_iconst (v := 0) hx hb dJ7_fill_53178_0 (by decide) ?_
  refine lv_istore_n (lv' := [(2, .int 0), (0, .ref aX), (1, .int v)]) hx hb dJ7_fill_53178_1 rfl hl (by decide) rfl (fun ls hl => ?_)
  refine lv_aload_n hx hb dJ7_fill_53178_2 rfl (lv_at hl 1 rfl) ?_
  refine va_alen hx hb hT.1 hP 0 0 (v := (nI nX)) rfl rfl rfl dJ7_fill_53178_3 ?_
  refine lv_istore_n (lv' := [(3, .int (nI nX)), (2, .int 0), (0, .ref aX), (1, .int v)]) hx hb dJ7_fill_53178_4 rfl hl (by decide) rfl (fun ls hl => ?_)
  have L_5 : ∀ (f : Nat) (i : Nat) (w : Nat → Int32), i + f = nX → flL v nX 0 fX = flL v f i w → ∀ (H : Heap) (locs : List Loc), va_P D cls5 [(aX, .inl (cI, nX, .inl w))] H → va_D (va_M [(aX, .inl (cI, nX, .inl fX))]) [(aX, .inl (cI, nX, .inl w))] → va_S (va_M [(aX, .inl (cI, nX, .inl fX))]) s.heap H locs → ∀ ls : Array Slot, lv_has ls 4 [(0, .ref aX), (1, .int v), (2, .int (nI i)), (3, .int (nI nX))] → W p l e (headSpec wsJ7_fill_53178 ({ frames := 0, cells := 0, slots := 0, locals := 0 } : Room)).room s m args below meth c H locs 0 0 (MQ below (QcM D [(aX, .inl (cI, nX, .inl fX))] [(aX, .inl (cI, nX, .inl (fun _ => v)))] none) args s 0 0 (va_M [(aX, .inl (cI, nX, .inl fX))])) (F0 m 5 ls []) := by
    intro f
    induction f with
    | zero =>
      intro i w h1 h2 H locs hP hD hS ls hl
      refine lv_iload_n hx hb dJ7_fill_53178_5 rfl (lv_at hl 2 rfl) ?_
      refine lv_iload_n hx hb dJ7_fill_53178_6 rfl (lv_at hl 3 rfl) ?_
      refine lv_icmp_ge (tgt := 20) hx hb dJ7_fill_53178_7 (by decide) (fun c_1 => ?_) (fun c_1 => ?_)
      · skip
        exact mu_retv hx hb hr hlocks dJ7_fill_53178_20 (arr_eq hP 0 rfl (fun j hj => by have h7 := flL_all v nX 0 fX j; rw [h2] at h7; exact (h7.1 (by omega))) rfl) hS
      · exfalso; exact c_1 (nI_le (by omega) (by omega))
    | succ f ih_5 =>
      intro i w h1 h2 H locs hP hD hS ls hl
      refine lv_iload_n hx hb dJ7_fill_53178_5 rfl (lv_at hl 2 rfl) ?_
      refine lv_iload_n hx hb dJ7_fill_53178_6 rfl (lv_at hl 3 rfl) ?_
      refine lv_icmp_ge (tgt := 20) hx hb dJ7_fill_53178_7 (by decide) (fun c_2 => ?_) (fun c_2 => ?_)
      · exfalso; exact nI_ge (show i < nX by omega) (by omega) c_2
      · skip
        refine lv_aload_n hx hb dJ7_fill_53178_10 rfl (lv_at hl 0 rfl) ?_
        refine lv_iload_n hx hb dJ7_fill_53178_11 rfl (lv_at hl 2 rfl) ?_
        refine lv_iload_n hx hb dJ7_fill_53178_12 rfl (lv_at hl 1 rfl) ?_
        refine st_i hx hb hT hP hD hS 0 rfl dJ7_fill_53178_13 (k := i) (W1 := [(aX, .inl (cI, nX, .inl (upd w i v)))]) rfl (by omega) (by omega) rfl (fun H locs hP hD hS => ?_)
        refine lv_iinc (v := nI (i + 1)) (lv' := [(2, .int (nI (i + 1))), (0, .ref aX), (1, .int v), (3, .int (nI nX))]) hx hb dJ7_fill_53178_14 hl (k := 2) rfl ((nI_succ i).symm) (by decide) rfl (fun ls hl => ?_)
        refine lv_goto (tgt := 5) hx hb dJ7_fill_53178_17 (by decide) ?_
        exact ih_5 (i + 1) _ (by omega) (by rw [h2]; rfl) _ _ hP hD hS ls (lv_sub hl [1, 2, 0, 3] rfl)
  exact L_5 nX 0 fX (by omega) rfl _ _ hP hD hS ls (lv_sub hl [2, 3, 1, 0] rfl)

theorem nd_X2_moebius : okName yX2_moebius 1 := by decide +kernel
set_option maxHeartbeats 4000000 in
set_option maxRecDepth 100000 in
theorem k_X2_moebius (l : Launch) (D : va_G) (cI cZ : ClassId) (n : Nat) (hn : n < 1000) : RO l yX2_moebius wsX2_moebius ({ frames := 1, cells := 0, slots := 0, locals := 22 } : Room) D cI cZ [] [.int (nI n)] (mob n) := by
  refine ro_start (by decide) rfl (Nat.le_of_ble_eq_true rfl) ?_
  intro p e s m args below meth c hx hb hr hml hlocks hts hown hT hP ls hl
  have hown : s.vm.findClass RX2 = some m.cls := hown
  have hl : lv_has ls 4 [(0, .int (nI n))] := hl
  refine lv_iload_n hx hb dX2_moebius_0 rfl (lv_at hl 0 rfl) ?_
  refine lv_istore_n (lv' := [(1, .int (nI n)), (0, .int (nI n))]) hx hb dX2_moebius_1 rfl hl (by decide) rfl (fun ls hl => ?_)
  refine lv_iconst (v := 1) hx hb dX2_moebius_2 (by decide) ?_
  refine lv_istore_n (lv' := [(2, .int 1), (1, .int (nI n)), (0, .int (nI n))]) hx hb dX2_moebius_3 rfl hl (by decide) rfl (fun ls hl => ?_)
  refine lv_iconst (v := 2) hx hb dX2_moebius_4 (by decide) ?_
  refine lv_istore_n (lv' := [(3, .int 2), (2, .int 1), (1, .int (nI n)), (0, .int (nI n))]) hx hb dX2_moebius_5 rfl hl (by decide) rfl (fun ls hl => ?_)
  have L_6 : ∀ (f : Nat) (p2 : Nat) (r : Nat) (sg : Int32), p2 + f = 49 → 2 ≤ p2 → r < 1000 → mob n = mbL f p2 r sg → ∀ ls : Array Slot, lv_has ls 4 [(0, .int (nI n)), (1, .int (nI r)), (2, .int sg), (3, .int (nI p2))] → W p l e (headSpec wsX2_moebius ({ frames := 1, cells := 0, slots := 0, locals := 22 } : Room)).room s m args below meth c s.heap [] 0 0 (MQ below (QcRead (mob n)) args s 0 0 (fun _ => False)) (F0 m 6 ls []) := by
    intro f
    induction f with
    | zero =>
      intro p2 r sg h1 h0 h3 h2 ls hl
      refine lv_iload_n hx hb dX2_moebius_6 rfl (lv_at hl 3 rfl) ?_
      refine lv_bipush (v := 48) hx hb dX2_moebius_7 (by decide) ?_
      refine lv_icmp_gt (tgt := 45) hx hb dX2_moebius_9 (by decide) (fun c_1 => ?_) (fun c_1 => ?_)
      · skip
        refine lv_iload_n hx hb dX2_moebius_45 rfl (lv_at hl 2 rfl) ?_
        exact ro_ret hx hb hr hlocks dX2_moebius_46 (by rw [h2]; rfl)
      · exfalso; exact c_1 (by rw [show p2 = 49 by omega]; decide)
    | succ f ih_6 =>
      intro p2 r sg h1 h0 h3 h2 ls hl
      refine lv_iload_n hx hb dX2_moebius_6 rfl (lv_at hl 3 rfl) ?_
      refine lv_bipush (v := 48) hx hb dX2_moebius_7 (by decide) ?_
      refine lv_icmp_gt (tgt := 45) hx hb dX2_moebius_9 (by decide) (fun c_2 => ?_) (fun c_2 => ?_)
      · exfalso; exact absurd c_2 (by rw [show (48 : Int32) = nI 48 from rfl]; exact nI_nlt (by omega) (by decide))
      · skip
        refine lv_iload_n hx hb dX2_moebius_12 rfl (lv_at hl 1 rfl) ?_
        refine lv_iload_n hx hb dX2_moebius_13 rfl (lv_at hl 3 rfl) ?_
        refine ro_N (As := [.int (nI r), .int (nI p2)]) (rest := []) ⟨hx, hb, hml, hown, hts⟩ hT hP (k_X3_leftOver l D cI cZ (nI r) (nI p2)) (List.mem_of_getElem? (i := 8) rfl) gX2_moebius_X3_leftOver_n29 (hts (.initialized RX3) (List.mem_of_getElem? (i := 2) rfl)) (hts (.static yX3_leftOver) (List.mem_of_getElem? (i := 1) rfl)) rfl nd_X3_leftOver [] rfl hl.1 rfl rfl (Nat.le_of_ble_eq_true rfl) ⟨Nat.le_of_ble_eq_true rfl, Nat.le_of_ble_eq_true rfl⟩ ⟨rfl, rfl⟩ ⟨Nat.zero_le _, Nat.zero_le _⟩ dX2_moebius_14 ?_
        refine lv_if_ne (tgt := 39) hx hb dX2_moebius_17 (by decide) (fun c_3 => ?_) (fun c_3 => ?_)
        · skip
          have hm1 : ¬ r % p2 = 0 := fun q => c_3 ((nI_mod0 (by omega) (by omega) (by omega)).mpr q)
          refine lv_iinc (v := nI (p2 + 1)) (lv' := [(3, .int (nI (p2 + 1))), (0, .int (nI n)), (1, .int (nI r)), (2, .int sg)]) hx hb dX2_moebius_39 hl (k := 3) rfl ((nI_succ p2).symm) (by decide) rfl (fun ls hl => ?_)
          refine lv_goto (tgt := 6) hx hb dX2_moebius_42 (by decide) ?_
          exact ih_6 (p2 + 1) r sg (by omega) (by omega) (by first | exact h3 | exact Nat.lt_of_le_of_lt (Nat.div_le_self _ _) h3) (by rw [h2]; first | simp [mbL, hm1, hm2] | simp [mbL, hm1]) ls (lv_sub hl [1, 2, 3, 0] rfl)
        · skip
          have hm1 : r % p2 = 0 := (nI_mod0 (by omega) (by omega) (by omega)).mp c_3
          have hrp : r / p2 < 1000 := Nat.lt_of_le_of_lt (Nat.div_le_self _ _) h3
          refine lv_iload_n hx hb dX2_moebius_20 rfl (lv_at hl 1 rfl) ?_
          refine lv_iload_n hx hb dX2_moebius_21 rfl (lv_at hl 3 rfl) ?_
          refine ro_N (As := [.int (nI r), .int (nI p2)]) (rest := []) ⟨hx, hb, hml, hown, hts⟩ hT hP (k_X3_cut l D cI cZ (nI r) (nI p2)) (List.mem_of_getElem? (i := 7) rfl) gX2_moebius_X3_cut_n33 (hts (.initialized RX3) (List.mem_of_getElem? (i := 2) rfl)) (hts (.static yX3_cut) (List.mem_of_getElem? (i := 4) rfl)) rfl nd_X3_cut [] rfl hl.1 rfl rfl (Nat.le_of_ble_eq_true rfl) ⟨Nat.le_of_ble_eq_true rfl, Nat.le_of_ble_eq_true rfl⟩ ⟨rfl, rfl⟩ ⟨Nat.zero_le _, Nat.zero_le _⟩ dX2_moebius_22 ?_
          refine top_eq (z := (nI (r / p2))) (by exact jCut_nI (by omega) (by omega) (by omega)) ?_
          refine lv_istore_n (lv' := [(1, .int (nI (r / p2))), (0, .int (nI n)), (2, .int sg), (3, .int (nI p2))]) hx hb dX2_moebius_25 rfl hl (by decide) rfl (fun ls hl => ?_)
          refine lv_iload_n hx hb dX2_moebius_26 rfl (lv_at hl 2 rfl) ?_
          refine lv_ineg hx hb dX2_moebius_27 ?_
          refine lv_istore_n (lv' := [(2, .int (-sg)), (1, .int (nI (r / p2))), (0, .int (nI n)), (3, .int (nI p2))]) hx hb dX2_moebius_28 rfl hl (by decide) rfl (fun ls hl => ?_)
          refine lv_iload_n hx hb dX2_moebius_29 rfl (lv_at hl 1 rfl) ?_
          refine lv_iload_n hx hb dX2_moebius_30 rfl (lv_at hl 3 rfl) ?_
          refine ro_N (As := [.int (nI (r / p2)), .int (nI p2)]) (rest := []) ⟨hx, hb, hml, hown, hts⟩ hT hP (k_X3_leftOver l D cI cZ (nI (r / p2)) (nI p2)) (List.mem_of_getElem? (i := 8) rfl) gX2_moebius_X3_leftOver_n29 (hts (.initialized RX3) (List.mem_of_getElem? (i := 2) rfl)) (hts (.static yX3_leftOver) (List.mem_of_getElem? (i := 1) rfl)) rfl nd_X3_leftOver [] rfl hl.1 rfl rfl (Nat.le_of_ble_eq_true rfl) ⟨Nat.le_of_ble_eq_true rfl, Nat.le_of_ble_eq_true rfl⟩ ⟨rfl, rfl⟩ ⟨Nat.zero_le _, Nat.zero_le _⟩ dX2_moebius_31 ?_
          refine lv_if_ne (tgt := 39) hx hb dX2_moebius_34 (by decide) (fun c_4 => ?_) (fun c_4 => ?_)
          · skip
            have hm2 : ¬ r / p2 % p2 = 0 := fun q => c_4 ((nI_mod0 (by omega) (by omega) (by omega)).mpr q)
            refine lv_iinc (v := nI (p2 + 1)) (lv' := [(3, .int (nI (p2 + 1))), (2, .int (-sg)), (1, .int (nI (r / p2))), (0, .int (nI n))]) hx hb dX2_moebius_39 hl (k := 3) rfl ((nI_succ p2).symm) (by decide) rfl (fun ls hl => ?_)
            refine lv_goto (tgt := 6) hx hb dX2_moebius_42 (by decide) ?_
            exact ih_6 (p2 + 1) (r / p2) (-sg) (by omega) (by omega) (by first | exact h3 | exact Nat.lt_of_le_of_lt (Nat.div_le_self _ _) h3) (by rw [h2]; first | simp [mbL, hm1, hm2] | simp [mbL, hm1]) ls (lv_sub hl [3, 2, 1, 0] rfl)
          · skip
            have hm2 : r / p2 % p2 = 0 := (nI_mod0 (by omega) (by omega) (by omega)).mp c_4
            refine lv_iconst (v := 0) hx hb dX2_moebius_37 (by decide) ?_
            exact ro_ret hx hb hr hlocks dX2_moebius_38 (by rw [h2]; simp [mbL, hm1, hm2])
  exact L_6 47 2 n 1 rfl (by decide) hn rfl ls (lv_sub hl [3, 2, 1, 0] rfl)

set_option maxRecDepth 20000 in
theorem hi_X2_multiplyByOneLess_X2 : ∀ w ∈ wsX20, w ∈ wsX2_multiplyByOneLess := by
  intro w h
  unfold wsX2_multiplyByOneLess
  simp only [List.mem_cons, List.mem_append, h, or_true, true_or]
theorem nd_X2_multiplyByOneLess : okName yX2_multiplyByOneLess 1 := by decide +kernel
set_option maxHeartbeats 4000000 in
set_option maxRecDepth 100000 in
theorem k_X2_multiplyByOneLess (l : Launch) (D : va_G) (cI cZ : ClassId) (aR : Nat) (aN : Nat) (dg : Nat) (tr : Nat) (fN : Nat → Int32) (d : Nat) (ht : tr ≤ 48) (h0 : 1 ≤ d) (hd : d ≤ tr) : MU l yX2_multiplyByOneLess wsX2_multiplyByOneLess ({ frames := 2, cells := 0, slots := 0, locals := 44 } : Room) D cI cZ [(aR, .inr (2, [.ref aN, .int (nI dg), .int (nI tr)])), (aN, .inl (cI, 49, .inl fN))] [.ref aR, .int (nI d)] none [(aR, .inr (2, [.ref aN, .int (nI dg), .int (nI tr)])), (aN, .inl (cI, 49, .inl (mulL d (tr + 1 - d) tr fN)))] := by
  refine mu_start (by decide) rfl (Nat.le_of_ble_eq_true rfl) ?_
  intro p e s m args below meth c hx hb hr hml hlocks hts hown hT hP hD hS ls hl
  have hown : s.vm.findClass RX2 = some m.cls := hown
  have hl : lv_has ls 3 [(0, .ref aR), (1, .int (nI d))] := hl
  refine lv_aload_n hx hb dX2_multiplyByOneLess_0 rfl (lv_at hl 0 rfl) ?_
  refine va_get (D := D) (ci := 2) (v := .int (nI tr)) (C := RX2) (T := TX2) (N := 3) hx hb hts hi_X2_multiplyByOneLess_X2 hown hT.1 hP 0 rfl rfl 2 (by decide) (hts (.fieldLink RX2 15 "SlotStar$Root" "turns" "I") (List.mem_of_getElem? (i := 1) rfl)) (fun _ h9 => h9) rfl dX2_multiplyByOneLess_1 ?_
  refine lv_istore_n (lv' := [(2, .int (nI tr)), (0, .ref aR), (1, .int (nI d))]) hx hb dX2_multiplyByOneLess_4 rfl hl (by decide) rfl (fun ls hl => ?_)
  have L_5 : ∀ (f : Nat) (i : Nat) (w : Nat → Int32), i + 1 = d + f → i ≤ tr → mulL d (tr + 1 - d) tr fN = mulL d f i w → ∀ (H : Heap) (locs : List Loc), va_P D cls5 [(aR, .inr (2, [.ref aN, .int (nI dg), .int (nI tr)])), (aN, .inl (cI, 49, .inl w))] H → va_D (va_M [(aR, .inr (2, [.ref aN, .int (nI dg), .int (nI tr)])), (aN, .inl (cI, 49, .inl fN))]) [(aR, .inr (2, [.ref aN, .int (nI dg), .int (nI tr)])), (aN, .inl (cI, 49, .inl w))] → va_S (va_M [(aR, .inr (2, [.ref aN, .int (nI dg), .int (nI tr)])), (aN, .inl (cI, 49, .inl fN))]) s.heap H locs → ∀ ls : Array Slot, lv_has ls 3 [(0, .ref aR), (1, .int (nI d)), (2, .int (nI i))] → W p l e (headSpec wsX2_multiplyByOneLess ({ frames := 2, cells := 0, slots := 0, locals := 44 } : Room)).room s m args below meth c H locs 0 0 (MQ below (QcM D [(aR, .inr (2, [.ref aN, .int (nI dg), .int (nI tr)])), (aN, .inl (cI, 49, .inl fN))] [(aR, .inr (2, [.ref aN, .int (nI dg), .int (nI tr)])), (aN, .inl (cI, 49, .inl (mulL d (tr + 1 - d) tr fN)))] none) args s 0 0 (va_M [(aR, .inr (2, [.ref aN, .int (nI dg), .int (nI tr)])), (aN, .inl (cI, 49, .inl fN))])) (F0 m 5 ls []) := by
    intro f
    induction f with
    | zero =>
      intro i w h1 h3 h2 H locs hP hD hS ls hl
      refine lv_iload_n hx hb dX2_multiplyByOneLess_5 rfl (lv_at hl 2 rfl) ?_
      refine lv_iload_n hx hb dX2_multiplyByOneLess_6 rfl (lv_at hl 1 rfl) ?_
      refine lv_icmp_lt (tgt := 43) hx hb dX2_multiplyByOneLess_7 (by decide) (fun c_1 => ?_) (fun c_1 => ?_)
      · skip
        exact mu_retv hx hb hr hlocks dX2_multiplyByOneLess_43 (by rw [h2]; exact hP) hS
      · exfalso; exact c_1 (nI_lt (by omega) (by omega))
    | succ f ih_5 =>
      intro i w h1 h3 h2 H locs hP hD hS ls hl
      refine lv_iload_n hx hb dX2_multiplyByOneLess_5 rfl (lv_at hl 2 rfl) ?_
      refine lv_iload_n hx hb dX2_multiplyByOneLess_6 rfl (lv_at hl 1 rfl) ?_
      refine lv_icmp_lt (tgt := 43) hx hb dX2_multiplyByOneLess_7 (by decide) (fun c_2 => ?_) (fun c_2 => ?_)
      · exfalso; exact nI_nlt (show d ≤ i by omega) (by omega) c_2
      · skip
        refine lv_aload_n hx hb dX2_multiplyByOneLess_10 rfl (lv_at hl 0 rfl) ?_
        refine va_get (D := D) (ci := 2) (v := .ref aN) (C := RX2) (T := TX2) (N := 3) hx hb hts hi_X2_multiplyByOneLess_X2 hown hT.1 hP 0 rfl rfl 0 (by decide) (hts (.fieldLink RX2 9 "SlotStar$Root" "numbers" "[I") (List.mem_of_getElem? (i := 2) rfl)) (fun _ h9 => h9) rfl dX2_multiplyByOneLess_11 ?_
        refine lv_iload_n hx hb dX2_multiplyByOneLess_14 rfl (lv_at hl 2 rfl) ?_
        refine lv_aload_n hx hb dX2_multiplyByOneLess_15 rfl (lv_at hl 0 rfl) ?_
        refine va_get (D := D) (ci := 2) (v := .ref aN) (C := RX2) (T := TX2) (N := 3) hx hb hts hi_X2_multiplyByOneLess_X2 hown hT.1 hP 0 rfl rfl 0 (by decide) (hts (.fieldLink RX2 9 "SlotStar$Root" "numbers" "[I") (List.mem_of_getElem? (i := 2) rfl)) (fun _ h9 => h9) rfl dX2_multiplyByOneLess_16 ?_
        refine lv_iload_n hx hb dX2_multiplyByOneLess_19 rfl (lv_at hl 2 rfl) ?_
        refine ro_N (As := [.ref aN, .int (nI i)]) (rest := [.int (nI i), .ref aN]) ⟨hx, hb, hml, hown, hts⟩ hT hP (k_X3_at l D cI cZ aN 49 w i (by decide) (by omega)) (List.mem_of_getElem? (i := 6) rfl) gX2_multiplyByOneLess_X3_at_n54 (hts (.initialized RX3) (List.mem_of_getElem? (i := 4) rfl)) (hts (.static yX3_at) (List.mem_of_getElem? (i := 3) rfl)) rfl nd_X3_at [1] rfl hl.1 rfl rfl (Nat.le_of_ble_eq_true rfl) ⟨Nat.le_of_ble_eq_true rfl, Nat.le_of_ble_eq_true rfl⟩ ⟨rfl, rfl⟩ ⟨Nat.zero_le _, Nat.zero_le _⟩ dX2_multiplyByOneLess_20 ?_
        refine lv_aload_n hx hb dX2_multiplyByOneLess_23 rfl (lv_at hl 0 rfl) ?_
        refine va_get (D := D) (ci := 2) (v := .ref aN) (C := RX2) (T := TX2) (N := 3) hx hb hts hi_X2_multiplyByOneLess_X2 hown hT.1 hP 0 rfl rfl 0 (by decide) (hts (.fieldLink RX2 9 "SlotStar$Root" "numbers" "[I") (List.mem_of_getElem? (i := 2) rfl)) (fun _ h9 => h9) rfl dX2_multiplyByOneLess_24 ?_
        refine lv_iload_n hx hb dX2_multiplyByOneLess_27 rfl (lv_at hl 2 rfl) ?_
        refine lv_iload_n hx hb dX2_multiplyByOneLess_28 rfl (lv_at hl 1 rfl) ?_
        refine lv_isub hx hb dX2_multiplyByOneLess_29 ?_
        refine top_eq (z := (nI (i - d))) (by exact pk_sub (by omega)) ?_
        refine ro_N (As := [.ref aN, .int (nI (i - d))]) (rest := [.int (w i), .int (nI i), .ref aN]) ⟨hx, hb, hml, hown, hts⟩ hT hP (k_X3_at l D cI cZ aN 49 w (i - d) (by decide) (by omega)) (List.mem_of_getElem? (i := 6) rfl) gX2_multiplyByOneLess_X3_at_n54 (hts (.initialized RX3) (List.mem_of_getElem? (i := 4) rfl)) (hts (.static yX3_at) (List.mem_of_getElem? (i := 3) rfl)) rfl nd_X3_at [1] rfl hl.1 rfl rfl (Nat.le_of_ble_eq_true rfl) ⟨Nat.le_of_ble_eq_true rfl, Nat.le_of_ble_eq_true rfl⟩ ⟨rfl, rfl⟩ ⟨Nat.zero_le _, Nat.zero_le _⟩ dX2_multiplyByOneLess_30 ?_
        refine lv_isub hx hb dX2_multiplyByOneLess_33 ?_
        refine mu_N (As := [.ref aN, .int (nI i), .int ((w i) - (w (i - d)))]) (rest := []) (W1 := [(aR, .inr (2, [.ref aN, .int (nI dg), .int (nI tr)])), (aN, .inl (cI, 49, .inl (upd w i ((w i) - (w (i - d))))))]) (st1 := []) ⟨hx, hb, hml, hown, hts⟩ hT hP hD hS (k_X3_put l D cI cZ aN 49 w i ((w i) - (w (i - d))) (by decide) (by omega)) (List.mem_of_getElem? (i := 9) rfl) gX2_multiplyByOneLess_X3_put_n25 (hts (.initialized RX3) (List.mem_of_getElem? (i := 4) rfl)) (hts (.static yX3_put) (List.mem_of_getElem? (i := 9) rfl)) rfl nd_X3_put [1] (by decide) rfl rfl rfl rfl hl.1 rfl rfl (Nat.le_of_ble_eq_true rfl) ⟨Nat.le_of_ble_eq_true rfl, Nat.le_of_ble_eq_true rfl⟩ ⟨rfl, rfl⟩ ⟨Nat.zero_le _, Nat.zero_le _⟩ dX2_multiplyByOneLess_34 (fun H locs hP hD hS => ?_)
        refine lv_iinc (v := nI (i - 1)) (lv' := [(2, .int (nI (i - 1))), (0, .ref aR), (1, .int (nI d))]) hx hb dX2_multiplyByOneLess_37 hl (k := 2) rfl (sb_m1 (by omega)) (by decide) rfl (fun ls hl => ?_)
        refine lv_goto (tgt := 5) hx hb dX2_multiplyByOneLess_40 (by decide) ?_
        exact ih_5 (i - 1) _ (by omega) (by omega) (by rw [h2]; rfl) _ _ hP hD hS ls (lv_sub hl [1, 2, 0] rfl)
  exact L_5 (tr + 1 - d) tr fN (by omega) (by omega) rfl _ _ hP hD hS ls (lv_sub hl [1, 2, 0] rfl)

set_option maxRecDepth 20000 in
theorem hi_X2_divideByOneLess_X2 : ∀ w ∈ wsX20, w ∈ wsX2_divideByOneLess := by
  intro w h
  unfold wsX2_divideByOneLess
  simp only [List.mem_cons, List.mem_append, h, or_true, true_or]
theorem nd_X2_divideByOneLess : okName yX2_divideByOneLess 1 := by decide +kernel
set_option maxHeartbeats 4000000 in
set_option maxRecDepth 100000 in
theorem k_X2_divideByOneLess (l : Launch) (D : va_G) (cI cZ : ClassId) (aR : Nat) (aN : Nat) (dg : Nat) (tr : Nat) (fN : Nat → Int32) (d : Nat) (ht : tr ≤ 48) (h0 : 1 ≤ d) (hd : d ≤ tr) : MU l yX2_divideByOneLess wsX2_divideByOneLess ({ frames := 2, cells := 0, slots := 0, locals := 44 } : Room) D cI cZ [(aR, .inr (2, [.ref aN, .int (nI dg), .int (nI tr)])), (aN, .inl (cI, 49, .inl fN))] [.ref aR, .int (nI d)] none [(aR, .inr (2, [.ref aN, .int (nI dg), .int (nI tr)])), (aN, .inl (cI, 49, .inl (divL d (tr + 1 - d) d fN)))] := by
  refine mu_start (by decide) rfl (Nat.le_of_ble_eq_true rfl) ?_
  intro p e s m args below meth c hx hb hr hml hlocks hts hown hT hP hD hS ls hl
  have hown : s.vm.findClass RX2 = some m.cls := hown
  have hl : lv_has ls 3 [(0, .ref aR), (1, .int (nI d))] := hl
  refine lv_iload_n hx hb dX2_divideByOneLess_0 rfl (lv_at hl 1 rfl) ?_
  refine lv_istore_n (lv' := [(2, .int (nI d)), (0, .ref aR), (1, .int (nI d))]) hx hb dX2_divideByOneLess_1 rfl hl (by decide) rfl (fun ls hl => ?_)
  have L_2 : ∀ (f : Nat) (i : Nat) (w : Nat → Int32), i + f = tr + 1 → d ≤ i → divL d (tr + 1 - d) d fN = divL d f i w → ∀ (H : Heap) (locs : List Loc), va_P D cls5 [(aR, .inr (2, [.ref aN, .int (nI dg), .int (nI tr)])), (aN, .inl (cI, 49, .inl w))] H → va_D (va_M [(aR, .inr (2, [.ref aN, .int (nI dg), .int (nI tr)])), (aN, .inl (cI, 49, .inl fN))]) [(aR, .inr (2, [.ref aN, .int (nI dg), .int (nI tr)])), (aN, .inl (cI, 49, .inl w))] → va_S (va_M [(aR, .inr (2, [.ref aN, .int (nI dg), .int (nI tr)])), (aN, .inl (cI, 49, .inl fN))]) s.heap H locs → ∀ ls : Array Slot, lv_has ls 3 [(0, .ref aR), (1, .int (nI d)), (2, .int (nI i))] → W p l e (headSpec wsX2_divideByOneLess ({ frames := 2, cells := 0, slots := 0, locals := 44 } : Room)).room s m args below meth c H locs 0 0 (MQ below (QcM D [(aR, .inr (2, [.ref aN, .int (nI dg), .int (nI tr)])), (aN, .inl (cI, 49, .inl fN))] [(aR, .inr (2, [.ref aN, .int (nI dg), .int (nI tr)])), (aN, .inl (cI, 49, .inl (divL d (tr + 1 - d) d fN)))] none) args s 0 0 (va_M [(aR, .inr (2, [.ref aN, .int (nI dg), .int (nI tr)])), (aN, .inl (cI, 49, .inl fN))])) (F0 m 2 ls []) := by
    intro f
    induction f with
    | zero =>
      intro i w h1 h3 h2 H locs hP hD hS ls hl
      refine lv_iload_n hx hb dX2_divideByOneLess_2 rfl (lv_at hl 2 rfl) ?_
      refine lv_aload_n hx hb dX2_divideByOneLess_3 rfl (lv_at hl 0 rfl) ?_
      refine va_get (D := D) (ci := 2) (v := .int (nI tr)) (C := RX2) (T := TX2) (N := 3) hx hb hts hi_X2_divideByOneLess_X2 hown hT.1 hP 0 rfl rfl 2 (by decide) (hts (.fieldLink RX2 15 "SlotStar$Root" "turns" "I") (List.mem_of_getElem? (i := 1) rfl)) (fun _ h9 => h9) rfl dX2_divideByOneLess_4 ?_
      refine lv_icmp_gt (tgt := 43) hx hb dX2_divideByOneLess_7 (by decide) (fun c_1 => ?_) (fun c_1 => ?_)
      · skip
        exact mu_retv hx hb hr hlocks dX2_divideByOneLess_43 (by rw [h2]; exact hP) hS
      · exfalso; exact c_1 (nI_lt (by omega) (by omega))
    | succ f ih_2 =>
      intro i w h1 h3 h2 H locs hP hD hS ls hl
      refine lv_iload_n hx hb dX2_divideByOneLess_2 rfl (lv_at hl 2 rfl) ?_
      refine lv_aload_n hx hb dX2_divideByOneLess_3 rfl (lv_at hl 0 rfl) ?_
      refine va_get (D := D) (ci := 2) (v := .int (nI tr)) (C := RX2) (T := TX2) (N := 3) hx hb hts hi_X2_divideByOneLess_X2 hown hT.1 hP 0 rfl rfl 2 (by decide) (hts (.fieldLink RX2 15 "SlotStar$Root" "turns" "I") (List.mem_of_getElem? (i := 1) rfl)) (fun _ h9 => h9) rfl dX2_divideByOneLess_4 ?_
      refine lv_icmp_gt (tgt := 43) hx hb dX2_divideByOneLess_7 (by decide) (fun c_2 => ?_) (fun c_2 => ?_)
      · exfalso; exact nI_nlt (show i ≤ tr by omega) (by omega) c_2
      · skip
        refine lv_aload_n hx hb dX2_divideByOneLess_10 rfl (lv_at hl 0 rfl) ?_
        refine va_get (D := D) (ci := 2) (v := .ref aN) (C := RX2) (T := TX2) (N := 3) hx hb hts hi_X2_divideByOneLess_X2 hown hT.1 hP 0 rfl rfl 0 (by decide) (hts (.fieldLink RX2 9 "SlotStar$Root" "numbers" "[I") (List.mem_of_getElem? (i := 2) rfl)) (fun _ h9 => h9) rfl dX2_divideByOneLess_11 ?_
        refine lv_iload_n hx hb dX2_divideByOneLess_14 rfl (lv_at hl 2 rfl) ?_
        refine lv_aload_n hx hb dX2_divideByOneLess_15 rfl (lv_at hl 0 rfl) ?_
        refine va_get (D := D) (ci := 2) (v := .ref aN) (C := RX2) (T := TX2) (N := 3) hx hb hts hi_X2_divideByOneLess_X2 hown hT.1 hP 0 rfl rfl 0 (by decide) (hts (.fieldLink RX2 9 "SlotStar$Root" "numbers" "[I") (List.mem_of_getElem? (i := 2) rfl)) (fun _ h9 => h9) rfl dX2_divideByOneLess_16 ?_
        refine lv_iload_n hx hb dX2_divideByOneLess_19 rfl (lv_at hl 2 rfl) ?_
        refine ro_N (As := [.ref aN, .int (nI i)]) (rest := [.int (nI i), .ref aN]) ⟨hx, hb, hml, hown, hts⟩ hT hP (k_X3_at l D cI cZ aN 49 w i (by decide) (by omega)) (List.mem_of_getElem? (i := 6) rfl) gX2_divideByOneLess_X3_at_n54 (hts (.initialized RX3) (List.mem_of_getElem? (i := 4) rfl)) (hts (.static yX3_at) (List.mem_of_getElem? (i := 3) rfl)) rfl nd_X3_at [1] rfl hl.1 rfl rfl (Nat.le_of_ble_eq_true rfl) ⟨Nat.le_of_ble_eq_true rfl, Nat.le_of_ble_eq_true rfl⟩ ⟨rfl, rfl⟩ ⟨Nat.zero_le _, Nat.zero_le _⟩ dX2_divideByOneLess_20 ?_
        refine lv_aload_n hx hb dX2_divideByOneLess_23 rfl (lv_at hl 0 rfl) ?_
        refine va_get (D := D) (ci := 2) (v := .ref aN) (C := RX2) (T := TX2) (N := 3) hx hb hts hi_X2_divideByOneLess_X2 hown hT.1 hP 0 rfl rfl 0 (by decide) (hts (.fieldLink RX2 9 "SlotStar$Root" "numbers" "[I") (List.mem_of_getElem? (i := 2) rfl)) (fun _ h9 => h9) rfl dX2_divideByOneLess_24 ?_
        refine lv_iload_n hx hb dX2_divideByOneLess_27 rfl (lv_at hl 2 rfl) ?_
        refine lv_iload_n hx hb dX2_divideByOneLess_28 rfl (lv_at hl 1 rfl) ?_
        refine lv_isub hx hb dX2_divideByOneLess_29 ?_
        refine top_eq (z := (nI (i - d))) (by exact pk_sub (by omega)) ?_
        refine ro_N (As := [.ref aN, .int (nI (i - d))]) (rest := [.int (w i), .int (nI i), .ref aN]) ⟨hx, hb, hml, hown, hts⟩ hT hP (k_X3_at l D cI cZ aN 49 w (i - d) (by decide) (by omega)) (List.mem_of_getElem? (i := 6) rfl) gX2_divideByOneLess_X3_at_n54 (hts (.initialized RX3) (List.mem_of_getElem? (i := 4) rfl)) (hts (.static yX3_at) (List.mem_of_getElem? (i := 3) rfl)) rfl nd_X3_at [1] rfl hl.1 rfl rfl (Nat.le_of_ble_eq_true rfl) ⟨Nat.le_of_ble_eq_true rfl, Nat.le_of_ble_eq_true rfl⟩ ⟨rfl, rfl⟩ ⟨Nat.zero_le _, Nat.zero_le _⟩ dX2_divideByOneLess_30 ?_
        refine lv_iadd hx hb dX2_divideByOneLess_33 ?_
        refine mu_N (As := [.ref aN, .int (nI i), .int ((w i) + (w (i - d)))]) (rest := []) (W1 := [(aR, .inr (2, [.ref aN, .int (nI dg), .int (nI tr)])), (aN, .inl (cI, 49, .inl (upd w i ((w i) + (w (i - d))))))]) (st1 := []) ⟨hx, hb, hml, hown, hts⟩ hT hP hD hS (k_X3_put l D cI cZ aN 49 w i ((w i) + (w (i - d))) (by decide) (by omega)) (List.mem_of_getElem? (i := 9) rfl) gX2_divideByOneLess_X3_put_n25 (hts (.initialized RX3) (List.mem_of_getElem? (i := 4) rfl)) (hts (.static yX3_put) (List.mem_of_getElem? (i := 9) rfl)) rfl nd_X3_put [1] (by decide) rfl rfl rfl rfl hl.1 rfl rfl (Nat.le_of_ble_eq_true rfl) ⟨Nat.le_of_ble_eq_true rfl, Nat.le_of_ble_eq_true rfl⟩ ⟨rfl, rfl⟩ ⟨Nat.zero_le _, Nat.zero_le _⟩ dX2_divideByOneLess_34 (fun H locs hP hD hS => ?_)
        refine lv_iinc (v := nI (i + 1)) (lv' := [(2, .int (nI (i + 1))), (0, .ref aR), (1, .int (nI d))]) hx hb dX2_divideByOneLess_37 hl (k := 2) rfl ((nI_succ i).symm) (by decide) rfl (fun ls hl => ?_)
        refine lv_goto (tgt := 2) hx hb dX2_divideByOneLess_40 (by decide) ?_
        exact ih_2 (i + 1) _ (by omega) (by omega) (by rw [h2]; rfl) _ _ hP hD hS ls (lv_sub hl [1, 2, 0] rfl)
  exact L_2 (tr + 1 - d) d fN (by omega) (by omega) rfl _ _ hP hD hS ls (lv_sub hl [1, 2, 0] rfl)

set_option maxRecDepth 20000 in
theorem hi_X2_highestPower_X2 : ∀ w ∈ wsX20, w ∈ wsX2_highestPower := by
  intro w h
  unfold wsX2_highestPower
  simp only [List.mem_cons, List.mem_append, h, or_true, true_or]
theorem nd_X2_highestPower : okName yX2_highestPower 0 := by decide +kernel
set_option maxHeartbeats 4000000 in
set_option maxRecDepth 100000 in
theorem k_X2_highestPower (l : Launch) (D : va_G) (cI cZ : ClassId) (aR : Nat) (aN : Nat) (dg : Nat) (tr : Nat) (fN : Nat → Int32) (ht : tr ≤ 48) : RO l yX2_highestPower wsX2_highestPower ({ frames := 2, cells := 0, slots := 0, locals := 43 } : Room) D cI cZ [(aR, .inr (2, [.ref aN, .int (nI dg), .int (nI tr)])), (aN, .inl (cI, 49, .inl fN))] [.ref aR] (nI (hpL fN tr)) := by
  refine ro_start (by decide) rfl (Nat.le_of_ble_eq_true rfl) ?_
  intro p e s m args below meth c hx hb hr hml hlocks hts hown hT hP ls hl
  have hown : s.vm.findClass RX2 = some m.cls := hown
  have hl : lv_has ls 2 [(0, .ref aR)] := hl
  refine lv_aload_n hx hb dX2_highestPower_0 rfl (lv_at hl 0 rfl) ?_
  refine va_get (D := D) (ci := 2) (v := .int (nI tr)) (C := RX2) (T := TX2) (N := 3) hx hb hts hi_X2_highestPower_X2 hown hT.1 hP 0 rfl rfl 2 (by decide) (hts (.fieldLink RX2 15 "SlotStar$Root" "turns" "I") (List.mem_of_getElem? (i := 1) rfl)) (fun _ h9 => h9) rfl dX2_highestPower_1 ?_
  refine lv_istore_n (lv' := [(1, .int (nI tr)), (0, .ref aR)]) hx hb dX2_highestPower_4 rfl hl (by decide) rfl (fun ls hl => ?_)
  have L_5 : ∀ (i : Nat), i ≤ tr → hpL fN tr = hpL fN i → ∀ ls : Array Slot, lv_has ls 2 [(0, .ref aR), (1, .int (nI i))] → W p l e (headSpec wsX2_highestPower ({ frames := 2, cells := 0, slots := 0, locals := 43 } : Room)).room s m args below meth c s.heap [] 0 0 (MQ below (QcRead (nI (hpL fN tr))) args s 0 0 (fun _ => False)) (F0 m 5 ls []) := by
    intro i
    induction i with
    | zero =>
      intro h3 h2 ls hl
      refine lv_iload_n hx hb dX2_highestPower_5 rfl (lv_at hl 1 rfl) ?_
      refine lv_if_le (tgt := 28) hx hb dX2_highestPower_6 (by decide) (fun c_1 => ?_) (fun c_1 => ?_)
      · skip
        refine lv_iconst (v := 0) hx hb dX2_highestPower_28 (by decide) ?_
        exact ro_ret hx hb hr hlocks dX2_highestPower_29 (by rw [h2]; rfl)
      · exfalso; exact c_1 (by decide)
    | succ i ih_5 =>
      intro h3 h2 ls hl
      refine lv_iload_n hx hb dX2_highestPower_5 rfl (lv_at hl 1 rfl) ?_
      refine lv_if_le (tgt := 28) hx hb dX2_highestPower_6 (by decide) (fun c_2 => ?_) (fun c_2 => ?_)
      · exfalso; exact nI_nle (by omega) (by omega) c_2
      · skip
        refine lv_aload_n hx hb dX2_highestPower_9 rfl (lv_at hl 0 rfl) ?_
        refine va_get (D := D) (ci := 2) (v := .ref aN) (C := RX2) (T := TX2) (N := 3) hx hb hts hi_X2_highestPower_X2 hown hT.1 hP 0 rfl rfl 0 (by decide) (hts (.fieldLink RX2 9 "SlotStar$Root" "numbers" "[I") (List.mem_of_getElem? (i := 2) rfl)) (fun _ h9 => h9) rfl dX2_highestPower_10 ?_
        refine lv_iload_n hx hb dX2_highestPower_13 rfl (lv_at hl 1 rfl) ?_
        refine ro_N (As := [.ref aN, .int (nI (i + 1))]) (rest := []) ⟨hx, hb, hml, hown, hts⟩ hT hP (k_X3_at l D cI cZ aN 49 fN (i + 1) (by decide) (by omega)) (List.mem_of_getElem? (i := 6) rfl) gX2_highestPower_X3_at_n54 (hts (.initialized RX3) (List.mem_of_getElem? (i := 4) rfl)) (hts (.static yX3_at) (List.mem_of_getElem? (i := 3) rfl)) rfl nd_X3_at [1] rfl hl.1 rfl rfl (Nat.le_of_ble_eq_true rfl) ⟨Nat.le_of_ble_eq_true rfl, Nat.le_of_ble_eq_true rfl⟩ ⟨rfl, rfl⟩ ⟨Nat.zero_le _, Nat.zero_le _⟩ dX2_highestPower_14 ?_
        refine lv_if_eq (tgt := 22) hx hb dX2_highestPower_17 (by decide) (fun c_3 => ?_) (fun c_3 => ?_)
        · skip
          refine lv_iinc (v := nI i) (lv' := [(1, .int (nI i)), (0, .ref aR)]) hx hb dX2_highestPower_22 hl (k := 1) rfl (pk_m1 i) (by decide) rfl (fun ls hl => ?_)
          refine lv_goto (tgt := 5) hx hb dX2_highestPower_25 (by decide) ?_
          exact ih_5 (by omega) (by rw [h2]; simp [hpL, c_2, c_3]) ls (lv_sub hl [1, 0] rfl)
        · skip
          refine lv_iload_n hx hb dX2_highestPower_20 rfl (lv_at hl 1 rfl) ?_
          exact ro_ret hx hb hr hlocks dX2_highestPower_21 (by rw [h2]; simp [hpL, c_2, c_3])
  exact L_5 tr (by omega) rfl ls (lv_sub hl [1, 0] rfl)

set_option maxRecDepth 20000 in
theorem hi_X2_become_X2 : ∀ w ∈ wsX20, w ∈ wsX2_become := by
  intro w h
  unfold wsX2_become
  simp only [List.mem_cons, List.mem_append, h, or_true, true_or]
theorem nd_X2_become : okName yX2_become 1 := by decide +kernel
set_option maxHeartbeats 4000000 in
set_option maxRecDepth 100000 in
theorem k_X2_become (l : Launch) (D : va_G) (cI cZ : ClassId) (aR : Nat) (aN : Nat) (dg : Nat) (tr : Nat) (fN : Nat → Int32) (n : Nat) (h0 : 1 ≤ n) (hn : n ≤ 48) : MU l yX2_become wsX2_become ({ frames := 3, cells := 0, slots := 0, locals := 66 } : Room) D cI cZ [(aR, .inr (2, [.ref aN, .int (nI dg), .int (nI tr)])), (aN, .inl (cI, 49, .inl fN))] [.ref aR, .int (nI n)] none [(aR, .inr (2, [.ref aN, .int (nI (dgN n)), .int (nI n)])), (aN, .inl (cI, 49, .inl (cyR n)))] := by
  refine mu_start (by decide) rfl (Nat.le_of_ble_eq_true rfl) ?_
  intro p e s m args below meth c hx hb hr hml hlocks hts hown hT hP hD hS ls hl
  have hown : s.vm.findClass RX2 = some m.cls := hown
  have hl : lv_has ls 4 [(0, .ref aR), (1, .int (nI n))] := hl
  refine lv_aload_n hx hb dX2_become_0 rfl (lv_at hl 0 rfl) ?_
  refine lv_iload_n hx hb dX2_become_1 rfl (lv_at hl 1 rfl) ?_
  refine va_put (D := D) (ci := 2) (v := .int (nI n)) (ty := .int) (C := RX2) (T := TX2) (N := 3) hx hb hts hi_X2_become_X2 tyX2 tyX2_ok nmX2 hown hT.1 hP hD hS 0 rfl rfl 2 (by decide) (hts (.fieldLink RX2 15 "SlotStar$Root" "turns" "I") (List.mem_of_getElem? (i := 1) rfl)) (fun _ h9 => h9) rfl (by decide +kernel) rfl rfl (Nat.le_of_ble_eq_true rfl) dX2_become_2 (fun H locs hP hD hS => ?_)
  have hP : va_P D cls5 [(aR, .inr (2, [.ref aN, .int (nI dg), .int (nI n)])), (aN, .inl (cI, 49, .inl fN))] H := hP
  have hD : va_D (va_M [(aR, .inr (2, [.ref aN, .int (nI dg), .int (nI tr)])), (aN, .inl (cI, 49, .inl fN))]) [(aR, .inr (2, [.ref aN, .int (nI dg), .int (nI n)])), (aN, .inl (cI, 49, .inl fN))] := hD
  refine lv_aload_n hx hb dX2_become_5 rfl (lv_at hl 0 rfl) ?_
  refine va_get (D := D) (ci := 2) (v := .ref aN) (C := RX2) (T := TX2) (N := 3) hx hb hts hi_X2_become_X2 hown hT.1 hP 0 rfl rfl 0 (by decide) (hts (.fieldLink RX2 9 "SlotStar$Root" "numbers" "[I") (List.mem_of_getElem? (i := 2) rfl)) (fun _ h9 => h9) rfl dX2_become_6 ?_
  refine lv_iconst (v := 0) hx hb dX2_become_9 (by decide) ?_
  refine mu_S (As := [.ref aN, .int 0]) (rest := []) (W1 := [(aR, .inr (2, [.ref aN, .int (nI dg), .int (nI n)])), (aN, .inl (cI, 49, .inl (fun _ => 0)))]) (st1 := []) ⟨hx, hb, hml, hown, hts⟩ hT hP hD hS (k_J7_fill_53178 l D cI cZ aN 49 fN 0 (by decide)) gX2_become_J7_fill_53178 rfl nd_J7_fill_53178 [1] (by decide) rfl rfl rfl rfl hl.1 rfl rfl (Nat.le_of_ble_eq_true rfl) ⟨Nat.le_of_ble_eq_true rfl, Nat.le_of_ble_eq_true rfl⟩ ⟨rfl, rfl⟩ ⟨Nat.zero_le _, Nat.zero_le _⟩ dX2_become_10 (fun H locs hP hD hS => ?_)
  refine lv_aload_n hx hb dX2_become_13 rfl (lv_at hl 0 rfl) ?_
  refine va_get (D := D) (ci := 2) (v := .ref aN) (C := RX2) (T := TX2) (N := 3) hx hb hts hi_X2_become_X2 hown hT.1 hP 0 rfl rfl 0 (by decide) (hts (.fieldLink RX2 9 "SlotStar$Root" "numbers" "[I") (List.mem_of_getElem? (i := 2) rfl)) (fun _ h9 => h9) rfl dX2_become_14 ?_
  refine lv_iconst (v := 0) hx hb dX2_become_17 (by decide) ?_
  refine lv_iload_n hx hb dX2_become_18 rfl (lv_at hl 1 rfl) ?_
  refine lv_iconst (v := 1) hx hb dX2_become_19 (by decide) ?_
  refine lv_icmp_ne (tgt := 27) hx hb dX2_become_20 (by decide) (fun c_1 => ?_) (fun c_1 => ?_)
  · skip
    refine lv_iconst (v := 1) hx hb dX2_become_27 (by decide) ?_
    refine top_eq (z := (if n = 1 then (-1) else 1)) (by rw [if_neg (fun q => c_1 ((nI_eq1 (by omega)).mpr q))]) ?_
    refine mu_N (As := [.ref aN, .int 0, .int (if n = 1 then (-1) else 1)]) (rest := []) (W1 := [(aR, .inr (2, [.ref aN, .int (nI dg), .int (nI n)])), (aN, .inl (cI, 49, .inl (upd (fun _ => 0) 0 (if n = 1 then (-1) else 1))))]) (st1 := []) ⟨hx, hb, hml, hown, hts⟩ hT hP hD hS (k_X3_put l D cI cZ aN 49 (fun _ => 0) 0 (if n = 1 then (-1) else 1) (by decide) (by decide)) (List.mem_of_getElem? (i := 9) rfl) gX2_become_X3_put_n25 (hts (.initialized RX3) (List.mem_of_getElem? (i := 9) rfl)) (hts (.static yX3_put) (List.mem_of_getElem? (i := 8) rfl)) rfl nd_X3_put [1] (by decide) rfl rfl rfl rfl hl.1 rfl rfl (Nat.le_of_ble_eq_true rfl) ⟨Nat.le_of_ble_eq_true rfl, Nat.le_of_ble_eq_true rfl⟩ ⟨rfl, rfl⟩ ⟨Nat.zero_le _, Nat.zero_le _⟩ dX2_become_28 (fun H locs hP hD hS => ?_)
    refine lv_iconst (v := 1) hx hb dX2_become_31 (by decide) ?_
    refine lv_istore_n (lv' := [(2, .int 1), (0, .ref aR), (1, .int (nI n))]) hx hb dX2_become_32 rfl hl (by decide) rfl (fun ls hl => ?_)
    have L_33 : ∀ (f : Nat) (d : Nat) (w : Nat → Int32), d + f = n + 1 → 1 ≤ d → cyR n = bcL n f d w → ∀ (H : Heap) (locs : List Loc), va_P D cls5 [(aR, .inr (2, [.ref aN, .int (nI dg), .int (nI n)])), (aN, .inl (cI, 49, .inl w))] H → va_D (va_M [(aR, .inr (2, [.ref aN, .int (nI dg), .int (nI tr)])), (aN, .inl (cI, 49, .inl fN))]) [(aR, .inr (2, [.ref aN, .int (nI dg), .int (nI n)])), (aN, .inl (cI, 49, .inl w))] → va_S (va_M [(aR, .inr (2, [.ref aN, .int (nI dg), .int (nI tr)])), (aN, .inl (cI, 49, .inl fN))]) s.heap H locs → ∀ ls : Array Slot, lv_has ls 4 [(0, .ref aR), (1, .int (nI n)), (2, .int (nI d))] → W p l e (headSpec wsX2_become ({ frames := 3, cells := 0, slots := 0, locals := 66 } : Room)).room s m args below meth c H locs 0 0 (MQ below (QcM D [(aR, .inr (2, [.ref aN, .int (nI dg), .int (nI tr)])), (aN, .inl (cI, 49, .inl fN))] [(aR, .inr (2, [.ref aN, .int (nI (dgN n)), .int (nI n)])), (aN, .inl (cI, 49, .inl (cyR n)))] none) args s 0 0 (va_M [(aR, .inr (2, [.ref aN, .int (nI dg), .int (nI tr)])), (aN, .inl (cI, 49, .inl fN))])) (F0 m 33 ls []) := by
      intro f
      induction f with
      | zero =>
        intro d w h1 h3 h2 H locs hP hD hS ls hl
        refine lv_iload_n hx hb dX2_become_33 rfl (lv_at hl 2 rfl) ?_
        refine lv_iload_n hx hb dX2_become_34 rfl (lv_at hl 1 rfl) ?_
        refine lv_icmp_gt (tgt := 82) hx hb dX2_become_35 (by decide) (fun c_2 => ?_) (fun c_2 => ?_)
        · skip
          refine lv_aload_n hx hb dX2_become_82 rfl (lv_at hl 0 rfl) ?_
          refine lv_aload_n hx hb dX2_become_83 rfl (lv_at hl 0 rfl) ?_
          refine ro_V (As := []) (rest := [.ref aR]) ⟨hx, hb, hml, hown, hts⟩ hT hP (k_X2_highestPower l D cI cZ aR aN dg n w hn) gX2_become_X2_highestPower rfl rfl nd_X2_highestPower [0, 1] rfl (ci := 2) rfl rfl (q0 := 0) rfl hl.1 rfl rfl (Nat.le_of_ble_eq_true rfl) ⟨Nat.le_of_ble_eq_true rfl, Nat.le_of_ble_eq_true rfl⟩ ⟨rfl, rfl⟩ ⟨Nat.zero_le _, Nat.zero_le _⟩ dX2_become_84 ?_
          refine va_put (D := D) (ci := 2) (v := .int (nI (hpL w n))) (ty := .int) (C := RX2) (T := TX2) (N := 3) hx hb hts hi_X2_become_X2 tyX2 tyX2_ok nmX2 hown hT.1 hP hD hS 0 rfl rfl 1 (by decide) (hts (.fieldLink RX2 51 "SlotStar$Root" "degree" "I") (List.mem_of_getElem? (i := 3) rfl)) (fun _ h9 => h9) rfl (by decide +kernel) rfl rfl (Nat.le_of_ble_eq_true rfl) dX2_become_87 (fun H locs hP hD hS => ?_)
          have hP : va_P D cls5 [(aR, .inr (2, [.ref aN, .int (nI (hpL w n)), .int (nI n)])), (aN, .inl (cI, 49, .inl w))] H := hP
          have hD : va_D (va_M [(aR, .inr (2, [.ref aN, .int (nI dg), .int (nI tr)])), (aN, .inl (cI, 49, .inl fN))]) [(aR, .inr (2, [.ref aN, .int (nI (hpL w n)), .int (nI n)])), (aN, .inl (cI, 49, .inl w))] := hD
          exact mu_retv hx hb hr hlocks dX2_become_90 (by unfold dgN; rw [h2]; exact hP) hS
        · exfalso; exact c_2 (nI_lt (by omega) (by omega))
      | succ f ih_33 =>
        intro d w h1 h3 h2 H locs hP hD hS ls hl
        refine lv_iload_n hx hb dX2_become_33 rfl (lv_at hl 2 rfl) ?_
        refine lv_iload_n hx hb dX2_become_34 rfl (lv_at hl 1 rfl) ?_
        refine lv_icmp_gt (tgt := 82) hx hb dX2_become_35 (by decide) (fun c_3 => ?_) (fun c_3 => ?_)
        · exfalso; exact nI_nlt (show d ≤ n by omega) (by omega) c_3
        · skip
          refine lv_iload_n hx hb dX2_become_38 rfl (lv_at hl 1 rfl) ?_
          refine lv_iload_n hx hb dX2_become_39 rfl (lv_at hl 2 rfl) ?_
          refine ro_N (As := [.int (nI n), .int (nI d)]) (rest := []) ⟨hx, hb, hml, hown, hts⟩ hT hP (k_X3_leftOver l D cI cZ (nI n) (nI d)) (List.mem_of_getElem? (i := 8) rfl) gX2_become_X3_leftOver_n29 (hts (.initialized RX3) (List.mem_of_getElem? (i := 9) rfl)) (hts (.static yX3_leftOver) (List.mem_of_getElem? (i := 14) rfl)) rfl nd_X3_leftOver [] rfl hl.1 rfl rfl (Nat.le_of_ble_eq_true rfl) ⟨Nat.le_of_ble_eq_true rfl, Nat.le_of_ble_eq_true rfl⟩ ⟨rfl, rfl⟩ ⟨Nat.zero_le _, Nat.zero_le _⟩ dX2_become_40 ?_
          refine lv_if_ne (tgt := 76) hx hb dX2_become_43 (by decide) (fun c_4 => ?_) (fun c_4 => ?_)
          · skip
            have hm1 : ¬ n % d = 0 := fun q => c_4 ((nI_mod0 (by omega) (by omega) (by omega)).mpr q)
            refine lv_iinc (v := nI (d + 1)) (lv' := [(2, .int (nI (d + 1))), (0, .ref aR), (1, .int (nI n))]) hx hb dX2_become_76 hl (k := 2) rfl ((nI_succ d).symm) (by decide) rfl (fun ls hl => ?_)
            refine lv_goto (tgt := 33) hx hb dX2_become_79 (by decide) ?_
            exact ih_33 (d + 1) _ (by omega) (by omega) (by rw [h2]; first | simp [bcL, bcS, hm1, hq1, hq2] | simp [bcL, bcS, hm1, hq1] | simp [bcL, bcS, hm1]) _ _ hP hD hS ls (lv_sub hl [1, 2, 0] rfl)
          · skip
            have hm1 : n % d = 0 := (nI_mod0 (by omega) (by omega) (by omega)).mp c_4
            have hnd : n / d < 1000 := Nat.lt_of_le_of_lt (Nat.div_le_self _ _) (by omega)
            refine lv_iload_n hx hb dX2_become_46 rfl (lv_at hl 1 rfl) ?_
            refine lv_iload_n hx hb dX2_become_47 rfl (lv_at hl 2 rfl) ?_
            refine ro_N (As := [.int (nI n), .int (nI d)]) (rest := []) ⟨hx, hb, hml, hown, hts⟩ hT hP (k_X3_cut l D cI cZ (nI n) (nI d)) (List.mem_of_getElem? (i := 7) rfl) gX2_become_X3_cut_n33 (hts (.initialized RX3) (List.mem_of_getElem? (i := 9) rfl)) (hts (.static yX3_cut) (List.mem_of_getElem? (i := 16) rfl)) rfl nd_X3_cut [] rfl hl.1 rfl rfl (Nat.le_of_ble_eq_true rfl) ⟨Nat.le_of_ble_eq_true rfl, Nat.le_of_ble_eq_true rfl⟩ ⟨rfl, rfl⟩ ⟨Nat.zero_le _, Nat.zero_le _⟩ dX2_become_48 ?_
            refine top_eq (z := (nI (n / d))) (by exact jCut_nI (by omega) (by omega) (by omega)) ?_
            refine ro_S (As := [.int (nI (n / d))]) (rest := []) ⟨hx, hb, hml, hown, hts⟩ hT hP (k_X2_moebius l D cI cZ (n / d) hnd) gX2_become_X2_moebius rfl nd_X2_moebius [] rfl hl.1 rfl rfl (Nat.le_of_ble_eq_true rfl) ⟨Nat.le_of_ble_eq_true rfl, Nat.le_of_ble_eq_true rfl⟩ ⟨rfl, rfl⟩ ⟨Nat.zero_le _, Nat.zero_le _⟩ dX2_become_51 ?_
            refine lv_istore_n (lv' := [(3, .int (mob (n / d))), (0, .ref aR), (1, .int (nI n)), (2, .int (nI d))]) hx hb dX2_become_54 rfl hl (by decide) rfl (fun ls hl => ?_)
            refine lv_iload_n hx hb dX2_become_55 rfl (lv_at hl 0 rfl) ?_
            refine lv_if_le (tgt := 67) hx hb dX2_become_56 (by decide) (fun c_5 => ?_) (fun c_5 => ?_)
            · skip
              have hq1 := c_5
              refine lv_iload_n hx hb dX2_become_67 rfl (lv_at hl 0 rfl) ?_
              refine lv_if_ge (tgt := 76) hx hb dX2_become_68 (by decide) (fun c_6 => ?_) (fun c_6 => ?_)
              · skip
                have hq2 := c_6
                refine lv_iinc (v := nI (d + 1)) (lv' := [(2, .int (nI (d + 1))), (3, .int (mob (n / d))), (0, .ref aR), (1, .int (nI n))]) hx hb dX2_become_76 hl (k := 3) rfl ((nI_succ d).symm) (by decide) rfl (fun ls hl => ?_)
                refine lv_goto (tgt := 33) hx hb dX2_become_79 (by decide) ?_
                exact ih_33 (d + 1) _ (by omega) (by omega) (by rw [h2]; first | simp [bcL, bcS, hm1, hq1, hq2] | simp [bcL, bcS, hm1, hq1] | simp [bcL, bcS, hm1]) _ _ hP hD hS ls (lv_sub hl [2, 3, 0] rfl)
              · skip
                have hq2 := c_6
                refine lv_aload_n hx hb dX2_become_71 rfl (lv_at hl 1 rfl) ?_
                refine lv_iload_n hx hb dX2_become_72 rfl (lv_at hl 3 rfl) ?_
                refine mu_V (As := [.int (nI d)]) (rest := []) (W1 := [(aR, .inr (2, [.ref aN, .int (nI dg), .int (nI n)])), (aN, .inl (cI, 49, .inl (divL d (n + 1 - d) d w)))]) (st1 := []) ⟨hx, hb, hml, hown, hts⟩ hT hP hD hS (k_X2_divideByOneLess l D cI cZ aR aN dg n w d hn (by omega) (by omega)) gX2_become_X2_divideByOneLess rfl rfl nd_X2_divideByOneLess [0, 1] (by decide) rfl rfl rfl rfl (ci := 2) rfl rfl (q0 := 0) rfl hl.1 rfl rfl (Nat.le_of_ble_eq_true rfl) ⟨Nat.le_of_ble_eq_true rfl, Nat.le_of_ble_eq_true rfl⟩ ⟨rfl, rfl⟩ ⟨Nat.zero_le _, Nat.zero_le _⟩ dX2_become_73 (fun H locs hP hD hS => ?_)
                refine lv_iinc (v := nI (d + 1)) (lv' := [(2, .int (nI (d + 1))), (3, .int (mob (n / d))), (0, .ref aR), (1, .int (nI n))]) hx hb dX2_become_76 hl (k := 3) rfl ((nI_succ d).symm) (by decide) rfl (fun ls hl => ?_)
                refine lv_goto (tgt := 33) hx hb dX2_become_79 (by decide) ?_
                exact ih_33 (d + 1) _ (by omega) (by omega) (by rw [h2]; first | simp [bcL, bcS, hm1, hq1, hq2] | simp [bcL, bcS, hm1, hq1] | simp [bcL, bcS, hm1]) _ _ hP hD hS ls (lv_sub hl [2, 3, 0] rfl)
            · skip
              have hq1 := c_5
              refine lv_aload_n hx hb dX2_become_59 rfl (lv_at hl 1 rfl) ?_
              refine lv_iload_n hx hb dX2_become_60 rfl (lv_at hl 3 rfl) ?_
              refine mu_V (As := [.int (nI d)]) (rest := []) (W1 := [(aR, .inr (2, [.ref aN, .int (nI dg), .int (nI n)])), (aN, .inl (cI, 49, .inl (mulL d (n + 1 - d) n w)))]) (st1 := []) ⟨hx, hb, hml, hown, hts⟩ hT hP hD hS (k_X2_multiplyByOneLess l D cI cZ aR aN dg n w d hn (by omega) (by omega)) gX2_become_X2_multiplyByOneLess rfl rfl nd_X2_multiplyByOneLess [0, 1] (by decide) rfl rfl rfl rfl (ci := 2) rfl rfl (q0 := 0) rfl hl.1 rfl rfl (Nat.le_of_ble_eq_true rfl) ⟨Nat.le_of_ble_eq_true rfl, Nat.le_of_ble_eq_true rfl⟩ ⟨rfl, rfl⟩ ⟨Nat.zero_le _, Nat.zero_le _⟩ dX2_become_61 (fun H locs hP hD hS => ?_)
              refine lv_goto (tgt := 76) hx hb dX2_become_64 (by decide) ?_
              refine lv_iinc (v := nI (d + 1)) (lv' := [(2, .int (nI (d + 1))), (3, .int (mob (n / d))), (0, .ref aR), (1, .int (nI n))]) hx hb dX2_become_76 hl (k := 3) rfl ((nI_succ d).symm) (by decide) rfl (fun ls hl => ?_)
              refine lv_goto (tgt := 33) hx hb dX2_become_79 (by decide) ?_
              exact ih_33 (d + 1) _ (by omega) (by omega) (by rw [h2]; first | simp [bcL, bcS, hm1, hq1, hq2] | simp [bcL, bcS, hm1, hq1] | simp [bcL, bcS, hm1]) _ _ hP hD hS ls (lv_sub hl [2, 3, 0] rfl)
    exact L_33 n 1 _ (by omega) (by decide) rfl _ _ hP hD hS ls (lv_sub hl [1, 2, 0] rfl)
  · skip
    refine lv_iconst (v := (-1)) hx hb dX2_become_23 (by decide) ?_
    refine top_eq (z := (if n = 1 then (-1) else 1)) (by rw [if_pos ((nI_eq1 (by omega)).mp c_1)]) ?_
    refine lv_goto (tgt := 28) hx hb dX2_become_24 (by decide) ?_
    refine mu_N (As := [.ref aN, .int 0, .int (if n = 1 then (-1) else 1)]) (rest := []) (W1 := [(aR, .inr (2, [.ref aN, .int (nI dg), .int (nI n)])), (aN, .inl (cI, 49, .inl (upd (fun _ => 0) 0 (if n = 1 then (-1) else 1))))]) (st1 := []) ⟨hx, hb, hml, hown, hts⟩ hT hP hD hS (k_X3_put l D cI cZ aN 49 (fun _ => 0) 0 (if n = 1 then (-1) else 1) (by decide) (by decide)) (List.mem_of_getElem? (i := 9) rfl) gX2_become_X3_put_n25 (hts (.initialized RX3) (List.mem_of_getElem? (i := 9) rfl)) (hts (.static yX3_put) (List.mem_of_getElem? (i := 8) rfl)) rfl nd_X3_put [1] (by decide) rfl rfl rfl rfl hl.1 rfl rfl (Nat.le_of_ble_eq_true rfl) ⟨Nat.le_of_ble_eq_true rfl, Nat.le_of_ble_eq_true rfl⟩ ⟨rfl, rfl⟩ ⟨Nat.zero_le _, Nat.zero_le _⟩ dX2_become_28 (fun H locs hP hD hS => ?_)
    refine lv_iconst (v := 1) hx hb dX2_become_31 (by decide) ?_
    refine lv_istore_n (lv' := [(2, .int 1), (0, .ref aR), (1, .int (nI n))]) hx hb dX2_become_32 rfl hl (by decide) rfl (fun ls hl => ?_)
    have L_33 : ∀ (f : Nat) (d : Nat) (w : Nat → Int32), d + f = n + 1 → 1 ≤ d → cyR n = bcL n f d w → ∀ (H : Heap) (locs : List Loc), va_P D cls5 [(aR, .inr (2, [.ref aN, .int (nI dg), .int (nI n)])), (aN, .inl (cI, 49, .inl w))] H → va_D (va_M [(aR, .inr (2, [.ref aN, .int (nI dg), .int (nI tr)])), (aN, .inl (cI, 49, .inl fN))]) [(aR, .inr (2, [.ref aN, .int (nI dg), .int (nI n)])), (aN, .inl (cI, 49, .inl w))] → va_S (va_M [(aR, .inr (2, [.ref aN, .int (nI dg), .int (nI tr)])), (aN, .inl (cI, 49, .inl fN))]) s.heap H locs → ∀ ls : Array Slot, lv_has ls 4 [(0, .ref aR), (1, .int (nI n)), (2, .int (nI d))] → W p l e (headSpec wsX2_become ({ frames := 3, cells := 0, slots := 0, locals := 66 } : Room)).room s m args below meth c H locs 0 0 (MQ below (QcM D [(aR, .inr (2, [.ref aN, .int (nI dg), .int (nI tr)])), (aN, .inl (cI, 49, .inl fN))] [(aR, .inr (2, [.ref aN, .int (nI (dgN n)), .int (nI n)])), (aN, .inl (cI, 49, .inl (cyR n)))] none) args s 0 0 (va_M [(aR, .inr (2, [.ref aN, .int (nI dg), .int (nI tr)])), (aN, .inl (cI, 49, .inl fN))])) (F0 m 33 ls []) := by
      intro f
      induction f with
      | zero =>
        intro d w h1 h3 h2 H locs hP hD hS ls hl
        refine lv_iload_n hx hb dX2_become_33 rfl (lv_at hl 2 rfl) ?_
        refine lv_iload_n hx hb dX2_become_34 rfl (lv_at hl 1 rfl) ?_
        refine lv_icmp_gt (tgt := 82) hx hb dX2_become_35 (by decide) (fun c_7 => ?_) (fun c_7 => ?_)
        · skip
          refine lv_aload_n hx hb dX2_become_82 rfl (lv_at hl 0 rfl) ?_
          refine lv_aload_n hx hb dX2_become_83 rfl (lv_at hl 0 rfl) ?_
          refine ro_V (As := []) (rest := [.ref aR]) ⟨hx, hb, hml, hown, hts⟩ hT hP (k_X2_highestPower l D cI cZ aR aN dg n w hn) gX2_become_X2_highestPower rfl rfl nd_X2_highestPower [0, 1] rfl (ci := 2) rfl rfl (q0 := 0) rfl hl.1 rfl rfl (Nat.le_of_ble_eq_true rfl) ⟨Nat.le_of_ble_eq_true rfl, Nat.le_of_ble_eq_true rfl⟩ ⟨rfl, rfl⟩ ⟨Nat.zero_le _, Nat.zero_le _⟩ dX2_become_84 ?_
          refine va_put (D := D) (ci := 2) (v := .int (nI (hpL w n))) (ty := .int) (C := RX2) (T := TX2) (N := 3) hx hb hts hi_X2_become_X2 tyX2 tyX2_ok nmX2 hown hT.1 hP hD hS 0 rfl rfl 1 (by decide) (hts (.fieldLink RX2 51 "SlotStar$Root" "degree" "I") (List.mem_of_getElem? (i := 3) rfl)) (fun _ h9 => h9) rfl (by decide +kernel) rfl rfl (Nat.le_of_ble_eq_true rfl) dX2_become_87 (fun H locs hP hD hS => ?_)
          have hP : va_P D cls5 [(aR, .inr (2, [.ref aN, .int (nI (hpL w n)), .int (nI n)])), (aN, .inl (cI, 49, .inl w))] H := hP
          have hD : va_D (va_M [(aR, .inr (2, [.ref aN, .int (nI dg), .int (nI tr)])), (aN, .inl (cI, 49, .inl fN))]) [(aR, .inr (2, [.ref aN, .int (nI (hpL w n)), .int (nI n)])), (aN, .inl (cI, 49, .inl w))] := hD
          exact mu_retv hx hb hr hlocks dX2_become_90 (by unfold dgN; rw [h2]; exact hP) hS
        · exfalso; exact c_7 (nI_lt (by omega) (by omega))
      | succ f ih_33 =>
        intro d w h1 h3 h2 H locs hP hD hS ls hl
        refine lv_iload_n hx hb dX2_become_33 rfl (lv_at hl 2 rfl) ?_
        refine lv_iload_n hx hb dX2_become_34 rfl (lv_at hl 1 rfl) ?_
        refine lv_icmp_gt (tgt := 82) hx hb dX2_become_35 (by decide) (fun c_8 => ?_) (fun c_8 => ?_)
        · exfalso; exact nI_nlt (show d ≤ n by omega) (by omega) c_8
        · skip
          refine lv_iload_n hx hb dX2_become_38 rfl (lv_at hl 1 rfl) ?_
          refine lv_iload_n hx hb dX2_become_39 rfl (lv_at hl 2 rfl) ?_
          refine ro_N (As := [.int (nI n), .int (nI d)]) (rest := []) ⟨hx, hb, hml, hown, hts⟩ hT hP (k_X3_leftOver l D cI cZ (nI n) (nI d)) (List.mem_of_getElem? (i := 8) rfl) gX2_become_X3_leftOver_n29 (hts (.initialized RX3) (List.mem_of_getElem? (i := 9) rfl)) (hts (.static yX3_leftOver) (List.mem_of_getElem? (i := 14) rfl)) rfl nd_X3_leftOver [] rfl hl.1 rfl rfl (Nat.le_of_ble_eq_true rfl) ⟨Nat.le_of_ble_eq_true rfl, Nat.le_of_ble_eq_true rfl⟩ ⟨rfl, rfl⟩ ⟨Nat.zero_le _, Nat.zero_le _⟩ dX2_become_40 ?_
          refine lv_if_ne (tgt := 76) hx hb dX2_become_43 (by decide) (fun c_9 => ?_) (fun c_9 => ?_)
          · skip
            have hm1 : ¬ n % d = 0 := fun q => c_9 ((nI_mod0 (by omega) (by omega) (by omega)).mpr q)
            refine lv_iinc (v := nI (d + 1)) (lv' := [(2, .int (nI (d + 1))), (0, .ref aR), (1, .int (nI n))]) hx hb dX2_become_76 hl (k := 2) rfl ((nI_succ d).symm) (by decide) rfl (fun ls hl => ?_)
            refine lv_goto (tgt := 33) hx hb dX2_become_79 (by decide) ?_
            exact ih_33 (d + 1) _ (by omega) (by omega) (by rw [h2]; first | simp [bcL, bcS, hm1, hq1, hq2] | simp [bcL, bcS, hm1, hq1] | simp [bcL, bcS, hm1]) _ _ hP hD hS ls (lv_sub hl [1, 2, 0] rfl)
          · skip
            have hm1 : n % d = 0 := (nI_mod0 (by omega) (by omega) (by omega)).mp c_9
            have hnd : n / d < 1000 := Nat.lt_of_le_of_lt (Nat.div_le_self _ _) (by omega)
            refine lv_iload_n hx hb dX2_become_46 rfl (lv_at hl 1 rfl) ?_
            refine lv_iload_n hx hb dX2_become_47 rfl (lv_at hl 2 rfl) ?_
            refine ro_N (As := [.int (nI n), .int (nI d)]) (rest := []) ⟨hx, hb, hml, hown, hts⟩ hT hP (k_X3_cut l D cI cZ (nI n) (nI d)) (List.mem_of_getElem? (i := 7) rfl) gX2_become_X3_cut_n33 (hts (.initialized RX3) (List.mem_of_getElem? (i := 9) rfl)) (hts (.static yX3_cut) (List.mem_of_getElem? (i := 16) rfl)) rfl nd_X3_cut [] rfl hl.1 rfl rfl (Nat.le_of_ble_eq_true rfl) ⟨Nat.le_of_ble_eq_true rfl, Nat.le_of_ble_eq_true rfl⟩ ⟨rfl, rfl⟩ ⟨Nat.zero_le _, Nat.zero_le _⟩ dX2_become_48 ?_
            refine top_eq (z := (nI (n / d))) (by exact jCut_nI (by omega) (by omega) (by omega)) ?_
            refine ro_S (As := [.int (nI (n / d))]) (rest := []) ⟨hx, hb, hml, hown, hts⟩ hT hP (k_X2_moebius l D cI cZ (n / d) hnd) gX2_become_X2_moebius rfl nd_X2_moebius [] rfl hl.1 rfl rfl (Nat.le_of_ble_eq_true rfl) ⟨Nat.le_of_ble_eq_true rfl, Nat.le_of_ble_eq_true rfl⟩ ⟨rfl, rfl⟩ ⟨Nat.zero_le _, Nat.zero_le _⟩ dX2_become_51 ?_
            refine lv_istore_n (lv' := [(3, .int (mob (n / d))), (0, .ref aR), (1, .int (nI n)), (2, .int (nI d))]) hx hb dX2_become_54 rfl hl (by decide) rfl (fun ls hl => ?_)
            refine lv_iload_n hx hb dX2_become_55 rfl (lv_at hl 0 rfl) ?_
            refine lv_if_le (tgt := 67) hx hb dX2_become_56 (by decide) (fun c_10 => ?_) (fun c_10 => ?_)
            · skip
              have hq1 := c_10
              refine lv_iload_n hx hb dX2_become_67 rfl (lv_at hl 0 rfl) ?_
              refine lv_if_ge (tgt := 76) hx hb dX2_become_68 (by decide) (fun c_11 => ?_) (fun c_11 => ?_)
              · skip
                have hq2 := c_11
                refine lv_iinc (v := nI (d + 1)) (lv' := [(2, .int (nI (d + 1))), (3, .int (mob (n / d))), (0, .ref aR), (1, .int (nI n))]) hx hb dX2_become_76 hl (k := 3) rfl ((nI_succ d).symm) (by decide) rfl (fun ls hl => ?_)
                refine lv_goto (tgt := 33) hx hb dX2_become_79 (by decide) ?_
                exact ih_33 (d + 1) _ (by omega) (by omega) (by rw [h2]; first | simp [bcL, bcS, hm1, hq1, hq2] | simp [bcL, bcS, hm1, hq1] | simp [bcL, bcS, hm1]) _ _ hP hD hS ls (lv_sub hl [2, 3, 0] rfl)
              · skip
                have hq2 := c_11
                refine lv_aload_n hx hb dX2_become_71 rfl (lv_at hl 1 rfl) ?_
                refine lv_iload_n hx hb dX2_become_72 rfl (lv_at hl 3 rfl) ?_
                refine mu_V (As := [.int (nI d)]) (rest := []) (W1 := [(aR, .inr (2, [.ref aN, .int (nI dg), .int (nI n)])), (aN, .inl (cI, 49, .inl (divL d (n + 1 - d) d w)))]) (st1 := []) ⟨hx, hb, hml, hown, hts⟩ hT hP hD hS (k_X2_divideByOneLess l D cI cZ aR aN dg n w d hn (by omega) (by omega)) gX2_become_X2_divideByOneLess rfl rfl nd_X2_divideByOneLess [0, 1] (by decide) rfl rfl rfl rfl (ci := 2) rfl rfl (q0 := 0) rfl hl.1 rfl rfl (Nat.le_of_ble_eq_true rfl) ⟨Nat.le_of_ble_eq_true rfl, Nat.le_of_ble_eq_true rfl⟩ ⟨rfl, rfl⟩ ⟨Nat.zero_le _, Nat.zero_le _⟩ dX2_become_73 (fun H locs hP hD hS => ?_)
                refine lv_iinc (v := nI (d + 1)) (lv' := [(2, .int (nI (d + 1))), (3, .int (mob (n / d))), (0, .ref aR), (1, .int (nI n))]) hx hb dX2_become_76 hl (k := 3) rfl ((nI_succ d).symm) (by decide) rfl (fun ls hl => ?_)
                refine lv_goto (tgt := 33) hx hb dX2_become_79 (by decide) ?_
                exact ih_33 (d + 1) _ (by omega) (by omega) (by rw [h2]; first | simp [bcL, bcS, hm1, hq1, hq2] | simp [bcL, bcS, hm1, hq1] | simp [bcL, bcS, hm1]) _ _ hP hD hS ls (lv_sub hl [2, 3, 0] rfl)
            · skip
              have hq1 := c_10
              refine lv_aload_n hx hb dX2_become_59 rfl (lv_at hl 1 rfl) ?_
              refine lv_iload_n hx hb dX2_become_60 rfl (lv_at hl 3 rfl) ?_
              refine mu_V (As := [.int (nI d)]) (rest := []) (W1 := [(aR, .inr (2, [.ref aN, .int (nI dg), .int (nI n)])), (aN, .inl (cI, 49, .inl (mulL d (n + 1 - d) n w)))]) (st1 := []) ⟨hx, hb, hml, hown, hts⟩ hT hP hD hS (k_X2_multiplyByOneLess l D cI cZ aR aN dg n w d hn (by omega) (by omega)) gX2_become_X2_multiplyByOneLess rfl rfl nd_X2_multiplyByOneLess [0, 1] (by decide) rfl rfl rfl rfl (ci := 2) rfl rfl (q0 := 0) rfl hl.1 rfl rfl (Nat.le_of_ble_eq_true rfl) ⟨Nat.le_of_ble_eq_true rfl, Nat.le_of_ble_eq_true rfl⟩ ⟨rfl, rfl⟩ ⟨Nat.zero_le _, Nat.zero_le _⟩ dX2_become_61 (fun H locs hP hD hS => ?_)
              refine lv_goto (tgt := 76) hx hb dX2_become_64 (by decide) ?_
              refine lv_iinc (v := nI (d + 1)) (lv' := [(2, .int (nI (d + 1))), (3, .int (mob (n / d))), (0, .ref aR), (1, .int (nI n))]) hx hb dX2_become_76 hl (k := 3) rfl ((nI_succ d).symm) (by decide) rfl (fun ls hl => ?_)
              refine lv_goto (tgt := 33) hx hb dX2_become_79 (by decide) ?_
              exact ih_33 (d + 1) _ (by omega) (by omega) (by rw [h2]; first | simp [bcL, bcS, hm1, hq1, hq2] | simp [bcL, bcS, hm1, hq1] | simp [bcL, bcS, hm1]) _ _ hP hD hS ls (lv_sub hl [2, 3, 0] rfl)
    exact L_33 n 1 _ (by omega) (by decide) rfl _ _ hP hD hS ls (lv_sub hl [1, 2, 0] rfl)

set_option maxRecDepth 20000 in
theorem hi_X2_reduce_X2 : ∀ w ∈ wsX20, w ∈ wsX2_reduce := by
  intro w h
  unfold wsX2_reduce
  simp only [List.mem_cons, List.mem_append, h, or_true, true_or]
theorem nd_X2_reduce : okName yX2_reduce 1 := by decide +kernel
set_option maxHeartbeats 4000000 in
set_option maxRecDepth 100000 in
theorem k_X2_reduce (l : Launch) (D : va_G) (cI cZ : ClassId) (aR : Nat) (aN : Nat) (dg : Nat) (tr : Nat) (fN : Nat → Int32) (aX : Nat) (fX : Nat → Int32) (hg : 1 ≤ dg) (hgt : dg ≤ tr) (ht : tr ≤ 48) : MU l yX2_reduce wsX2_reduce ({ frames := 2, cells := 0, slots := 0, locals := 44 } : Room) D cI cZ [(aR, .inr (2, [.ref aN, .int (nI dg), .int (nI tr)])), (aN, .inl (cI, 49, .inl fN)), (aX, .inl (cI, 48, .inl fX))] [.ref aR, .ref aX] none [(aR, .inr (2, [.ref aN, .int (nI dg), .int (nI tr)])), (aN, .inl (cI, 49, .inl fN)), (aX, .inl (cI, 48, .inl (rdO fN dg (tr - dg) (tr - 1) fX)))] := by
  refine mu_start (by decide) rfl (Nat.le_of_ble_eq_true rfl) ?_
  intro p e s m args below meth c hx hb hr hml hlocks hts hown hT hP hD hS ls hl
  have hown : s.vm.findClass RX2 = some m.cls := hown
  have hl : lv_has ls 6 [(0, .ref aR), (1, .ref aX)] := hl
  refine lv_aload_n hx hb dX2_reduce_0 rfl (lv_at hl 0 rfl) ?_
  refine va_get (D := D) (ci := 2) (v := .int (nI tr)) (C := RX2) (T := TX2) (N := 3) hx hb hts hi_X2_reduce_X2 hown hT.1 hP 0 rfl rfl 2 (by decide) (hts (.fieldLink RX2 15 "SlotStar$Root" "turns" "I") (List.mem_of_getElem? (i := 1) rfl)) (fun _ h9 => h9) rfl dX2_reduce_1 ?_
  refine lv_iconst (v := 1) hx hb dX2_reduce_4 (by decide) ?_
  refine lv_isub hx hb dX2_reduce_5 ?_
  refine top_eq (z := (nI (tr - 1))) (by exact nI_sub1 (by omega)) ?_
  refine lv_istore_n (lv' := [(2, .int (nI (tr - 1))), (0, .ref aR), (1, .ref aX)]) hx hb dX2_reduce_6 rfl hl (by decide) rfl (fun ls hl => ?_)
  have L_7 : ∀ (f : Nat) (i : Nat) (w : Nat → Int32), i + 1 = dg + f → i + 1 ≤ tr → rdO fN dg (tr - dg) (tr - 1) fX = rdO fN dg f i w → ∀ (H : Heap) (locs : List Loc), va_P D cls5 [(aR, .inr (2, [.ref aN, .int (nI dg), .int (nI tr)])), (aN, .inl (cI, 49, .inl fN)), (aX, .inl (cI, 48, .inl w))] H → va_D (va_M [(aR, .inr (2, [.ref aN, .int (nI dg), .int (nI tr)])), (aN, .inl (cI, 49, .inl fN)), (aX, .inl (cI, 48, .inl fX))]) [(aR, .inr (2, [.ref aN, .int (nI dg), .int (nI tr)])), (aN, .inl (cI, 49, .inl fN)), (aX, .inl (cI, 48, .inl w))] → va_S (va_M [(aR, .inr (2, [.ref aN, .int (nI dg), .int (nI tr)])), (aN, .inl (cI, 49, .inl fN)), (aX, .inl (cI, 48, .inl fX))]) s.heap H locs → ∀ ls : Array Slot, lv_has ls 6 [(0, .ref aR), (1, .ref aX), (2, .int (nI i))] → W p l e (headSpec wsX2_reduce ({ frames := 2, cells := 0, slots := 0, locals := 44 } : Room)).room s m args below meth c H locs 0 0 (MQ below (QcM D [(aR, .inr (2, [.ref aN, .int (nI dg), .int (nI tr)])), (aN, .inl (cI, 49, .inl fN)), (aX, .inl (cI, 48, .inl fX))] [(aR, .inr (2, [.ref aN, .int (nI dg), .int (nI tr)])), (aN, .inl (cI, 49, .inl fN)), (aX, .inl (cI, 48, .inl (rdO fN dg (tr - dg) (tr - 1) fX)))] none) args s 0 0 (va_M [(aR, .inr (2, [.ref aN, .int (nI dg), .int (nI tr)])), (aN, .inl (cI, 49, .inl fN)), (aX, .inl (cI, 48, .inl fX))])) (F0 m 7 ls []) := by
    intro f
    induction f with
    | zero =>
      intro i w h1 h3 h2 H locs hP hD hS ls hl
      refine lv_iload_n hx hb dX2_reduce_7 rfl (lv_at hl 2 rfl) ?_
      refine lv_aload_n hx hb dX2_reduce_8 rfl (lv_at hl 0 rfl) ?_
      refine va_get (D := D) (ci := 2) (v := .int (nI dg)) (C := RX2) (T := TX2) (N := 3) hx hb hts hi_X2_reduce_X2 hown hT.1 hP 0 rfl rfl 1 (by decide) (hts (.fieldLink RX2 51 "SlotStar$Root" "degree" "I") (List.mem_of_getElem? (i := 2) rfl)) (fun _ h9 => h9) rfl dX2_reduce_9 ?_
      refine lv_icmp_lt (tgt := 80) hx hb dX2_reduce_12 (by decide) (fun c_1 => ?_) (fun c_1 => ?_)
      · skip
        exact mu_retv hx hb hr hlocks dX2_reduce_80 (by rw [h2]; exact hP) hS
      · exfalso; exact c_1 (nI_lt (by omega) (by omega))
    | succ f ih_7 =>
      intro i w h1 h3 h2 H locs hP hD hS ls hl
      refine lv_iload_n hx hb dX2_reduce_7 rfl (lv_at hl 2 rfl) ?_
      refine lv_aload_n hx hb dX2_reduce_8 rfl (lv_at hl 0 rfl) ?_
      refine va_get (D := D) (ci := 2) (v := .int (nI dg)) (C := RX2) (T := TX2) (N := 3) hx hb hts hi_X2_reduce_X2 hown hT.1 hP 0 rfl rfl 1 (by decide) (hts (.fieldLink RX2 51 "SlotStar$Root" "degree" "I") (List.mem_of_getElem? (i := 2) rfl)) (fun _ h9 => h9) rfl dX2_reduce_9 ?_
      refine lv_icmp_lt (tgt := 80) hx hb dX2_reduce_12 (by decide) (fun c_2 => ?_) (fun c_2 => ?_)
      · exfalso; exact nI_nlt (show dg ≤ i by omega) (by omega) c_2
      · skip
        refine lv_aload_n hx hb dX2_reduce_15 rfl (lv_at hl 1 rfl) ?_
        refine lv_iload_n hx hb dX2_reduce_16 rfl (lv_at hl 2 rfl) ?_
        refine ro_N (As := [.ref aX, .int (nI i)]) (rest := []) ⟨hx, hb, hml, hown, hts⟩ hT hP (k_X3_at l D cI cZ aX 48 w i (by decide) (by omega)) (List.mem_of_getElem? (i := 6) rfl) gX2_reduce_X3_at_n54 (hts (.initialized RX3) (List.mem_of_getElem? (i := 5) rfl)) (hts (.static yX3_at) (List.mem_of_getElem? (i := 4) rfl)) rfl nd_X3_at [2] rfl hl.1 rfl rfl (Nat.le_of_ble_eq_true rfl) ⟨Nat.le_of_ble_eq_true rfl, Nat.le_of_ble_eq_true rfl⟩ ⟨rfl, rfl⟩ ⟨Nat.zero_le _, Nat.zero_le _⟩ dX2_reduce_17 ?_
        refine lv_istore_n (lv' := [(3, .int (w i)), (0, .ref aR), (1, .ref aX), (2, .int (nI i))]) hx hb dX2_reduce_20 rfl hl (by decide) rfl (fun ls hl => ?_)
        refine lv_iconst (v := 0) hx hb dX2_reduce_21 (by decide) ?_
        refine lv_istore (lv' := [(4, .int 0), (3, .int (w i)), (0, .ref aR), (1, .ref aX), (2, .int (nI i))]) hx hb dX2_reduce_22 hl (by decide) rfl (fun ls hl => ?_)
        have L_24 : ∀ (f2 : Nat) (j : Nat) (v : Nat → Int32), j + f2 = dg + 1 → rdI fN (i - dg) (w i) (dg + 1) 0 w = rdI fN (i - dg) (w i) f2 j v → ∀ (H : Heap) (locs : List Loc), va_P D cls5 [(aR, .inr (2, [.ref aN, .int (nI dg), .int (nI tr)])), (aN, .inl (cI, 49, .inl fN)), (aX, .inl (cI, 48, .inl v))] H → va_D (va_M [(aR, .inr (2, [.ref aN, .int (nI dg), .int (nI tr)])), (aN, .inl (cI, 49, .inl fN)), (aX, .inl (cI, 48, .inl fX))]) [(aR, .inr (2, [.ref aN, .int (nI dg), .int (nI tr)])), (aN, .inl (cI, 49, .inl fN)), (aX, .inl (cI, 48, .inl v))] → va_S (va_M [(aR, .inr (2, [.ref aN, .int (nI dg), .int (nI tr)])), (aN, .inl (cI, 49, .inl fN)), (aX, .inl (cI, 48, .inl fX))]) s.heap H locs → ∀ ls : Array Slot, lv_has ls 6 [(0, .ref aR), (1, .ref aX), (2, .int (nI i)), (3, .int (w i)), (4, .int (nI j))] → W p l e (headSpec wsX2_reduce ({ frames := 2, cells := 0, slots := 0, locals := 44 } : Room)).room s m args below meth c H locs 0 0 (MQ below (QcM D [(aR, .inr (2, [.ref aN, .int (nI dg), .int (nI tr)])), (aN, .inl (cI, 49, .inl fN)), (aX, .inl (cI, 48, .inl fX))] [(aR, .inr (2, [.ref aN, .int (nI dg), .int (nI tr)])), (aN, .inl (cI, 49, .inl fN)), (aX, .inl (cI, 48, .inl (rdO fN dg (tr - dg) (tr - 1) fX)))] none) args s 0 0 (va_M [(aR, .inr (2, [.ref aN, .int (nI dg), .int (nI tr)])), (aN, .inl (cI, 49, .inl fN)), (aX, .inl (cI, 48, .inl fX))])) (F0 m 24 ls []) := by
          intro f2
          induction f2 with
          | zero =>
            intro j v h5 h4 H locs hP hD hS ls hl
            refine lv_iload hx hb dX2_reduce_24 (lv_at hl 4 rfl) ?_
            refine lv_aload_n hx hb dX2_reduce_26 rfl (lv_at hl 0 rfl) ?_
            refine va_get (D := D) (ci := 2) (v := .int (nI dg)) (C := RX2) (T := TX2) (N := 3) hx hb hts hi_X2_reduce_X2 hown hT.1 hP 0 rfl rfl 1 (by decide) (hts (.fieldLink RX2 51 "SlotStar$Root" "degree" "I") (List.mem_of_getElem? (i := 2) rfl)) (fun _ h9 => h9) rfl dX2_reduce_27 ?_
            refine lv_icmp_gt (tgt := 74) hx hb dX2_reduce_30 (by decide) (fun c_3 => ?_) (fun c_3 => ?_)
            · skip
              refine lv_iinc (v := nI (i - 1)) (lv' := [(2, .int (nI (i - 1))), (0, .ref aR), (1, .ref aX), (3, .int (w i)), (4, .int (nI j))]) hx hb dX2_reduce_74 hl (k := 2) rfl (sb_m1 (by omega)) (by decide) rfl (fun ls hl => ?_)
              refine lv_goto (tgt := 7) hx hb dX2_reduce_77 (by decide) ?_
              exact ih_7 (i - 1) _ (by omega) (by omega) (by rw [h2]; simp only [rdO]; rw [h4]; rfl) _ _ hP hD hS ls (lv_sub hl [1, 2, 0] rfl)
            · exfalso; exact c_3 (nI_lt (by omega) (by omega))
          | succ f2 ih_24 =>
            intro j v h5 h4 H locs hP hD hS ls hl
            refine lv_iload hx hb dX2_reduce_24 (lv_at hl 4 rfl) ?_
            refine lv_aload_n hx hb dX2_reduce_26 rfl (lv_at hl 0 rfl) ?_
            refine va_get (D := D) (ci := 2) (v := .int (nI dg)) (C := RX2) (T := TX2) (N := 3) hx hb hts hi_X2_reduce_X2 hown hT.1 hP 0 rfl rfl 1 (by decide) (hts (.fieldLink RX2 51 "SlotStar$Root" "degree" "I") (List.mem_of_getElem? (i := 2) rfl)) (fun _ h9 => h9) rfl dX2_reduce_27 ?_
            refine lv_icmp_gt (tgt := 74) hx hb dX2_reduce_30 (by decide) (fun c_4 => ?_) (fun c_4 => ?_)
            · exfalso; exact nI_nlt (show j ≤ dg by omega) (by omega) c_4
            · skip
              refine lv_iload_n hx hb dX2_reduce_33 rfl (lv_at hl 2 rfl) ?_
              refine lv_aload_n hx hb dX2_reduce_34 rfl (lv_at hl 0 rfl) ?_
              refine va_get (D := D) (ci := 2) (v := .int (nI dg)) (C := RX2) (T := TX2) (N := 3) hx hb hts hi_X2_reduce_X2 hown hT.1 hP 0 rfl rfl 1 (by decide) (hts (.fieldLink RX2 51 "SlotStar$Root" "degree" "I") (List.mem_of_getElem? (i := 2) rfl)) (fun _ h9 => h9) rfl dX2_reduce_35 ?_
              refine lv_isub hx hb dX2_reduce_38 ?_
              refine top_eq (z := (nI (i - dg))) (by exact pk_sub (by omega)) ?_
              refine lv_iload hx hb dX2_reduce_39 (lv_at hl 4 rfl) ?_
              refine lv_iadd hx hb dX2_reduce_41 ?_
              refine top_eq (z := (nI (i - dg + j))) (by exact nI_add _ _) ?_
              refine lv_istore (lv' := [(5, .int (nI (i - dg + j))), (0, .ref aR), (1, .ref aX), (2, .int (nI i)), (3, .int (w i)), (4, .int (nI j))]) hx hb dX2_reduce_42 hl (by decide) rfl (fun ls hl => ?_)
              refine lv_aload_n hx hb dX2_reduce_44 rfl (lv_at hl 2 rfl) ?_
              refine lv_iload hx hb dX2_reduce_45 (lv_at hl 0 rfl) ?_
              refine lv_aload_n hx hb dX2_reduce_47 rfl (lv_at hl 2 rfl) ?_
              refine lv_iload hx hb dX2_reduce_48 (lv_at hl 0 rfl) ?_
              refine ro_N (As := [.ref aX, .int (nI (i - dg + j))]) (rest := [.int (nI (i - dg + j)), .ref aX]) ⟨hx, hb, hml, hown, hts⟩ hT hP (k_X3_at l D cI cZ aX 48 v (i - dg + j) (by decide) (by omega)) (List.mem_of_getElem? (i := 6) rfl) gX2_reduce_X3_at_n54 (hts (.initialized RX3) (List.mem_of_getElem? (i := 5) rfl)) (hts (.static yX3_at) (List.mem_of_getElem? (i := 4) rfl)) rfl nd_X3_at [2] rfl hl.1 rfl rfl (Nat.le_of_ble_eq_true rfl) ⟨Nat.le_of_ble_eq_true rfl, Nat.le_of_ble_eq_true rfl⟩ ⟨rfl, rfl⟩ ⟨Nat.zero_le _, Nat.zero_le _⟩ dX2_reduce_50 ?_
              refine lv_iload_n hx hb dX2_reduce_53 rfl (lv_at hl 4 rfl) ?_
              refine lv_aload_n hx hb dX2_reduce_54 rfl (lv_at hl 1 rfl) ?_
              refine va_get (D := D) (ci := 2) (v := .ref aN) (C := RX2) (T := TX2) (N := 3) hx hb hts hi_X2_reduce_X2 hown hT.1 hP 0 rfl rfl 0 (by decide) (hts (.fieldLink RX2 9 "SlotStar$Root" "numbers" "[I") (List.mem_of_getElem? (i := 3) rfl)) (fun _ h9 => h9) rfl dX2_reduce_55 ?_
              refine lv_iload hx hb dX2_reduce_58 (lv_at hl 5 rfl) ?_
              refine ro_N (As := [.ref aN, .int (nI j)]) (rest := [.int (w i), .int (v (i - dg + j)), .int (nI (i - dg + j)), .ref aX]) ⟨hx, hb, hml, hown, hts⟩ hT hP (k_X3_at l D cI cZ aN 49 fN j (by decide) (by omega)) (List.mem_of_getElem? (i := 6) rfl) gX2_reduce_X3_at_n54 (hts (.initialized RX3) (List.mem_of_getElem? (i := 5) rfl)) (hts (.static yX3_at) (List.mem_of_getElem? (i := 4) rfl)) rfl nd_X3_at [1] rfl hl.1 rfl rfl (Nat.le_of_ble_eq_true rfl) ⟨Nat.le_of_ble_eq_true rfl, Nat.le_of_ble_eq_true rfl⟩ ⟨rfl, rfl⟩ ⟨Nat.zero_le _, Nat.zero_le _⟩ dX2_reduce_60 ?_
              refine lv_imul hx hb dX2_reduce_63 ?_
              refine lv_isub hx hb dX2_reduce_64 ?_
              refine mu_N (As := [.ref aX, .int (nI (i - dg + j)), .int ((v (i - dg + j)) - ((w i) * (fN j)))]) (rest := []) (W1 := [(aR, .inr (2, [.ref aN, .int (nI dg), .int (nI tr)])), (aN, .inl (cI, 49, .inl fN)), (aX, .inl (cI, 48, .inl (upd v (i - dg + j) ((v (i - dg + j)) - ((w i) * (fN j))))))]) (st1 := []) ⟨hx, hb, hml, hown, hts⟩ hT hP hD hS (k_X3_put l D cI cZ aX 48 v (i - dg + j) ((v (i - dg + j)) - ((w i) * (fN j))) (by decide) (by omega)) (List.mem_of_getElem? (i := 9) rfl) gX2_reduce_X3_put_n25 (hts (.initialized RX3) (List.mem_of_getElem? (i := 5) rfl)) (hts (.static yX3_put) (List.mem_of_getElem? (i := 10) rfl)) rfl nd_X3_put [2] (by decide) rfl rfl rfl rfl hl.1 rfl rfl (Nat.le_of_ble_eq_true rfl) ⟨Nat.le_of_ble_eq_true rfl, Nat.le_of_ble_eq_true rfl⟩ ⟨rfl, rfl⟩ ⟨Nat.zero_le _, Nat.zero_le _⟩ dX2_reduce_65 (fun H locs hP hD hS => ?_)
              refine lv_iinc (v := nI (j + 1)) (lv' := [(4, .int (nI (j + 1))), (5, .int (nI (i - dg + j))), (0, .ref aR), (1, .ref aX), (2, .int (nI i)), (3, .int (w i))]) hx hb dX2_reduce_68 hl (k := 5) rfl ((nI_succ j).symm) (by decide) rfl (fun ls hl => ?_)
              refine lv_goto (tgt := 24) hx hb dX2_reduce_71 (by decide) ?_
              exact ih_24 (j + 1) _ (by omega) (by rw [h4]; rfl) _ _ hP hD hS ls (lv_sub hl [2, 3, 4, 5, 0] rfl)
        exact L_24 (dg + 1) 0 w (by omega) rfl _ _ hP hD hS ls (lv_sub hl [2, 3, 4, 1, 0] rfl)
  exact L_7 (tr - dg) (tr - 1) fX (by omega) (by omega) rfl _ _ hP hD hS ls (lv_sub hl [1, 2, 0] rfl)

set_option maxRecDepth 20000 in
theorem hi_X2_multiplyByX_X2 : ∀ w ∈ wsX20, w ∈ wsX2_multiplyByX := by
  intro w h
  unfold wsX2_multiplyByX
  simp only [List.mem_cons, List.mem_append, h, or_true, true_or]
theorem nd_X2_multiplyByX : okName yX2_multiplyByX 1 := by decide +kernel
set_option maxHeartbeats 4000000 in
set_option maxRecDepth 100000 in
theorem k_X2_multiplyByX (l : Launch) (D : va_G) (cI cZ : ClassId) (aR : Nat) (aN : Nat) (dg : Nat) (tr : Nat) (fN : Nat → Int32) (aX : Nat) (fX : Nat → Int32) (hg : 1 ≤ dg) (hgt : dg ≤ tr) (ht : tr ≤ 48) (hg2 : dg ≤ 48) : MU l yX2_multiplyByX wsX2_multiplyByX ({ frames := 2, cells := 0, slots := 0, locals := 44 } : Room) D cI cZ [(aR, .inr (2, [.ref aN, .int (nI dg), .int (nI tr)])), (aN, .inl (cI, 49, .inl fN)), (aX, .inl (cI, 48, .inl fX))] [.ref aR, .ref aX] none [(aR, .inr (2, [.ref aN, .int (nI dg), .int (nI tr)])), (aN, .inl (cI, 49, .inl fN)), (aX, .inl (cI, 48, .inl (rmx fN dg fX)))] := by
  refine mu_start (by decide) rfl (Nat.le_of_ble_eq_true rfl) ?_
  intro p e s m args below meth c hx hb hr hml hlocks hts hown hT hP hD hS ls hl
  have hown : s.vm.findClass RX2 = some m.cls := hown
  have hl : lv_has ls 4 [(0, .ref aR), (1, .ref aX)] := hl
  refine lv_aload_n hx hb dX2_multiplyByX_0 rfl (lv_at hl 1 rfl) ?_
  refine lv_aload_n hx hb dX2_multiplyByX_1 rfl (lv_at hl 0 rfl) ?_
  refine va_get (D := D) (ci := 2) (v := .int (nI dg)) (C := RX2) (T := TX2) (N := 3) hx hb hts hi_X2_multiplyByX_X2 hown hT.1 hP 0 rfl rfl 1 (by decide) (hts (.fieldLink RX2 51 "SlotStar$Root" "degree" "I") (List.mem_of_getElem? (i := 1) rfl)) (fun _ h9 => h9) rfl dX2_multiplyByX_2 ?_
  refine lv_iconst (v := 1) hx hb dX2_multiplyByX_5 (by decide) ?_
  refine lv_isub hx hb dX2_multiplyByX_6 ?_
  refine top_eq (z := (nI (dg - 1))) (by exact nI_sub1 (by omega)) ?_
  refine ro_N (As := [.ref aX, .int (nI (dg - 1))]) (rest := []) ⟨hx, hb, hml, hown, hts⟩ hT hP (k_X3_at l D cI cZ aX 48 fX (dg - 1) (by decide) (by omega)) (List.mem_of_getElem? (i := 6) rfl) gX2_multiplyByX_X3_at_n54 (hts (.initialized RX3) (List.mem_of_getElem? (i := 4) rfl)) (hts (.static yX3_at) (List.mem_of_getElem? (i := 3) rfl)) rfl nd_X3_at [2] rfl hl.1 rfl rfl (Nat.le_of_ble_eq_true rfl) ⟨Nat.le_of_ble_eq_true rfl, Nat.le_of_ble_eq_true rfl⟩ ⟨rfl, rfl⟩ ⟨Nat.zero_le _, Nat.zero_le _⟩ dX2_multiplyByX_7 ?_
  refine lv_istore_n (lv' := [(2, .int (fX (dg - 1))), (0, .ref aR), (1, .ref aX)]) hx hb dX2_multiplyByX_10 rfl hl (by decide) rfl (fun ls hl => ?_)
  refine lv_aload_n hx hb dX2_multiplyByX_11 rfl (lv_at hl 1 rfl) ?_
  refine va_get (D := D) (ci := 2) (v := .int (nI dg)) (C := RX2) (T := TX2) (N := 3) hx hb hts hi_X2_multiplyByX_X2 hown hT.1 hP 0 rfl rfl 1 (by decide) (hts (.fieldLink RX2 51 "SlotStar$Root" "degree" "I") (List.mem_of_getElem? (i := 1) rfl)) (fun _ h9 => h9) rfl dX2_multiplyByX_12 ?_
  refine lv_iconst (v := 1) hx hb dX2_multiplyByX_15 (by decide) ?_
  refine lv_isub hx hb dX2_multiplyByX_16 ?_
  refine top_eq (z := (nI (dg - 1))) (by exact nI_sub1 (by omega)) ?_
  refine lv_istore_n (lv' := [(3, .int (nI (dg - 1))), (2, .int (fX (dg - 1))), (0, .ref aR), (1, .ref aX)]) hx hb dX2_multiplyByX_17 rfl hl (by decide) rfl (fun ls hl => ?_)
  have L_18 : ∀ (i : Nat) (w : Nat → Int32), i + 1 ≤ dg → mxL fN (fX (dg - 1)) (dg - 1) fX = mxL fN (fX (dg - 1)) i w → ∀ (H : Heap) (locs : List Loc), va_P D cls5 [(aR, .inr (2, [.ref aN, .int (nI dg), .int (nI tr)])), (aN, .inl (cI, 49, .inl fN)), (aX, .inl (cI, 48, .inl w))] H → va_D (va_M [(aR, .inr (2, [.ref aN, .int (nI dg), .int (nI tr)])), (aN, .inl (cI, 49, .inl fN)), (aX, .inl (cI, 48, .inl fX))]) [(aR, .inr (2, [.ref aN, .int (nI dg), .int (nI tr)])), (aN, .inl (cI, 49, .inl fN)), (aX, .inl (cI, 48, .inl w))] → va_S (va_M [(aR, .inr (2, [.ref aN, .int (nI dg), .int (nI tr)])), (aN, .inl (cI, 49, .inl fN)), (aX, .inl (cI, 48, .inl fX))]) s.heap H locs → ∀ ls : Array Slot, lv_has ls 4 [(0, .ref aR), (1, .ref aX), (2, .int (fX (dg - 1))), (3, .int (nI i))] → W p l e (headSpec wsX2_multiplyByX ({ frames := 2, cells := 0, slots := 0, locals := 44 } : Room)).room s m args below meth c H locs 0 0 (MQ below (QcM D [(aR, .inr (2, [.ref aN, .int (nI dg), .int (nI tr)])), (aN, .inl (cI, 49, .inl fN)), (aX, .inl (cI, 48, .inl fX))] [(aR, .inr (2, [.ref aN, .int (nI dg), .int (nI tr)])), (aN, .inl (cI, 49, .inl fN)), (aX, .inl (cI, 48, .inl (rmx fN dg fX)))] none) args s 0 0 (va_M [(aR, .inr (2, [.ref aN, .int (nI dg), .int (nI tr)])), (aN, .inl (cI, 49, .inl fN)), (aX, .inl (cI, 48, .inl fX))])) (F0 m 18 ls []) := by
    intro i
    induction i with
    | zero =>
      intro w h3 h2 H locs hP hD hS ls hl
      refine lv_iload_n hx hb dX2_multiplyByX_18 rfl (lv_at hl 3 rfl) ?_
      refine lv_if_le (tgt := 51) hx hb dX2_multiplyByX_19 (by decide) (fun c_1 => ?_) (fun c_1 => ?_)
      · skip
        refine lv_aload_n hx hb dX2_multiplyByX_51 rfl (lv_at hl 1 rfl) ?_
        refine lv_iconst (v := 0) hx hb dX2_multiplyByX_52 (by decide) ?_
        refine lv_iload_n hx hb dX2_multiplyByX_53 rfl (lv_at hl 2 rfl) ?_
        refine lv_ineg hx hb dX2_multiplyByX_54 ?_
        refine lv_aload_n hx hb dX2_multiplyByX_55 rfl (lv_at hl 0 rfl) ?_
        refine va_get (D := D) (ci := 2) (v := .ref aN) (C := RX2) (T := TX2) (N := 3) hx hb hts hi_X2_multiplyByX_X2 hown hT.1 hP 0 rfl rfl 0 (by decide) (hts (.fieldLink RX2 9 "SlotStar$Root" "numbers" "[I") (List.mem_of_getElem? (i := 2) rfl)) (fun _ h9 => h9) rfl dX2_multiplyByX_56 ?_
        refine lv_iconst (v := 0) hx hb dX2_multiplyByX_59 (by decide) ?_
        refine ro_N (As := [.ref aN, .int 0]) (rest := [.int (-(fX (dg - 1))), .int 0, .ref aX]) ⟨hx, hb, hml, hown, hts⟩ hT hP (k_X3_at l D cI cZ aN 49 fN 0 (by decide) (by omega)) (List.mem_of_getElem? (i := 6) rfl) gX2_multiplyByX_X3_at_n54 (hts (.initialized RX3) (List.mem_of_getElem? (i := 4) rfl)) (hts (.static yX3_at) (List.mem_of_getElem? (i := 3) rfl)) rfl nd_X3_at [1] rfl hl.1 rfl rfl (Nat.le_of_ble_eq_true rfl) ⟨Nat.le_of_ble_eq_true rfl, Nat.le_of_ble_eq_true rfl⟩ ⟨rfl, rfl⟩ ⟨Nat.zero_le _, Nat.zero_le _⟩ dX2_multiplyByX_60 ?_
        refine lv_imul hx hb dX2_multiplyByX_63 ?_
        refine mu_N (As := [.ref aX, .int 0, .int ((-(fX (dg - 1))) * (fN 0))]) (rest := []) (W1 := [(aR, .inr (2, [.ref aN, .int (nI dg), .int (nI tr)])), (aN, .inl (cI, 49, .inl fN)), (aX, .inl (cI, 48, .inl (upd w 0 ((-(fX (dg - 1))) * (fN 0)))))]) (st1 := []) ⟨hx, hb, hml, hown, hts⟩ hT hP hD hS (k_X3_put l D cI cZ aX 48 w 0 ((-(fX (dg - 1))) * (fN 0)) (by decide) (by omega)) (List.mem_of_getElem? (i := 9) rfl) gX2_multiplyByX_X3_put_n25 (hts (.initialized RX3) (List.mem_of_getElem? (i := 4) rfl)) (hts (.static yX3_put) (List.mem_of_getElem? (i := 9) rfl)) rfl nd_X3_put [2] (by decide) rfl rfl rfl rfl hl.1 rfl rfl (Nat.le_of_ble_eq_true rfl) ⟨Nat.le_of_ble_eq_true rfl, Nat.le_of_ble_eq_true rfl⟩ ⟨rfl, rfl⟩ ⟨Nat.zero_le _, Nat.zero_le _⟩ dX2_multiplyByX_64 (fun H locs hP hD hS => ?_)
        exact mu_retv hx hb hr hlocks dX2_multiplyByX_67 (by unfold rmx; rw [h2]; exact hP) hS
      · exfalso; exact c_1 (by decide)
    | succ i ih_18 =>
      intro w h3 h2 H locs hP hD hS ls hl
      refine lv_iload_n hx hb dX2_multiplyByX_18 rfl (lv_at hl 3 rfl) ?_
      refine lv_if_le (tgt := 51) hx hb dX2_multiplyByX_19 (by decide) (fun c_2 => ?_) (fun c_2 => ?_)
      · exfalso; exact nI_nle (by omega) (by omega) c_2
      · skip
        refine lv_aload_n hx hb dX2_multiplyByX_22 rfl (lv_at hl 1 rfl) ?_
        refine lv_iload_n hx hb dX2_multiplyByX_23 rfl (lv_at hl 3 rfl) ?_
        refine lv_aload_n hx hb dX2_multiplyByX_24 rfl (lv_at hl 1 rfl) ?_
        refine lv_iload_n hx hb dX2_multiplyByX_25 rfl (lv_at hl 3 rfl) ?_
        refine lv_iconst (v := 1) hx hb dX2_multiplyByX_26 (by decide) ?_
        refine lv_isub hx hb dX2_multiplyByX_27 ?_
        refine top_eq (z := (nI i)) (by exact nI_pred i) ?_
        refine ro_N (As := [.ref aX, .int (nI i)]) (rest := [.int (nI (i + 1)), .ref aX]) ⟨hx, hb, hml, hown, hts⟩ hT hP (k_X3_at l D cI cZ aX 48 w i (by decide) (by omega)) (List.mem_of_getElem? (i := 6) rfl) gX2_multiplyByX_X3_at_n54 (hts (.initialized RX3) (List.mem_of_getElem? (i := 4) rfl)) (hts (.static yX3_at) (List.mem_of_getElem? (i := 3) rfl)) rfl nd_X3_at [2] rfl hl.1 rfl rfl (Nat.le_of_ble_eq_true rfl) ⟨Nat.le_of_ble_eq_true rfl, Nat.le_of_ble_eq_true rfl⟩ ⟨rfl, rfl⟩ ⟨Nat.zero_le _, Nat.zero_le _⟩ dX2_multiplyByX_28 ?_
        refine lv_iload_n hx hb dX2_multiplyByX_31 rfl (lv_at hl 2 rfl) ?_
        refine lv_aload_n hx hb dX2_multiplyByX_32 rfl (lv_at hl 0 rfl) ?_
        refine va_get (D := D) (ci := 2) (v := .ref aN) (C := RX2) (T := TX2) (N := 3) hx hb hts hi_X2_multiplyByX_X2 hown hT.1 hP 0 rfl rfl 0 (by decide) (hts (.fieldLink RX2 9 "SlotStar$Root" "numbers" "[I") (List.mem_of_getElem? (i := 2) rfl)) (fun _ h9 => h9) rfl dX2_multiplyByX_33 ?_
        refine lv_iload_n hx hb dX2_multiplyByX_36 rfl (lv_at hl 3 rfl) ?_
        refine ro_N (As := [.ref aN, .int (nI (i + 1))]) (rest := [.int (fX (dg - 1)), .int (w i), .int (nI (i + 1)), .ref aX]) ⟨hx, hb, hml, hown, hts⟩ hT hP (k_X3_at l D cI cZ aN 49 fN (i + 1) (by decide) (by omega)) (List.mem_of_getElem? (i := 6) rfl) gX2_multiplyByX_X3_at_n54 (hts (.initialized RX3) (List.mem_of_getElem? (i := 4) rfl)) (hts (.static yX3_at) (List.mem_of_getElem? (i := 3) rfl)) rfl nd_X3_at [1] rfl hl.1 rfl rfl (Nat.le_of_ble_eq_true rfl) ⟨Nat.le_of_ble_eq_true rfl, Nat.le_of_ble_eq_true rfl⟩ ⟨rfl, rfl⟩ ⟨Nat.zero_le _, Nat.zero_le _⟩ dX2_multiplyByX_37 ?_
        refine lv_imul hx hb dX2_multiplyByX_40 ?_
        refine lv_isub hx hb dX2_multiplyByX_41 ?_
        refine mu_N (As := [.ref aX, .int (nI (i + 1)), .int ((w i) - ((fX (dg - 1)) * (fN (i + 1))))]) (rest := []) (W1 := [(aR, .inr (2, [.ref aN, .int (nI dg), .int (nI tr)])), (aN, .inl (cI, 49, .inl fN)), (aX, .inl (cI, 48, .inl (upd w (i + 1) ((w i) - ((fX (dg - 1)) * (fN (i + 1)))))))]) (st1 := []) ⟨hx, hb, hml, hown, hts⟩ hT hP hD hS (k_X3_put l D cI cZ aX 48 w (i + 1) ((w i) - ((fX (dg - 1)) * (fN (i + 1)))) (by decide) (by omega)) (List.mem_of_getElem? (i := 9) rfl) gX2_multiplyByX_X3_put_n25 (hts (.initialized RX3) (List.mem_of_getElem? (i := 4) rfl)) (hts (.static yX3_put) (List.mem_of_getElem? (i := 9) rfl)) rfl nd_X3_put [2] (by decide) rfl rfl rfl rfl hl.1 rfl rfl (Nat.le_of_ble_eq_true rfl) ⟨Nat.le_of_ble_eq_true rfl, Nat.le_of_ble_eq_true rfl⟩ ⟨rfl, rfl⟩ ⟨Nat.zero_le _, Nat.zero_le _⟩ dX2_multiplyByX_42 (fun H locs hP hD hS => ?_)
        refine lv_iinc (v := nI i) (lv' := [(3, .int (nI i)), (0, .ref aR), (1, .ref aX), (2, .int (fX (dg - 1)))]) hx hb dX2_multiplyByX_45 hl (k := 3) rfl (pk_m1 i) (by decide) rfl (fun ls hl => ?_)
        refine lv_goto (tgt := 18) hx hb dX2_multiplyByX_48 (by decide) ?_
        exact ih_18 _ (by omega) (by rw [h2]; rfl) _ _ hP hD hS ls (lv_sub hl [1, 2, 3, 0] rfl)
  exact L_18 (dg - 1) fX (by omega) rfl _ _ hP hD hS ls (lv_sub hl [2, 3, 1, 0] rfl)

set_option maxRecDepth 20000 in
theorem hi_X2_isZero_X2 : ∀ w ∈ wsX20, w ∈ wsX2_isZero := by
  intro w h
  unfold wsX2_isZero
  simp only [List.mem_cons, List.mem_append, h, or_true, true_or]
theorem nd_X2_isZero : okName yX2_isZero 1 := by decide +kernel
set_option maxHeartbeats 4000000 in
set_option maxRecDepth 100000 in
theorem k_X2_isZero (l : Launch) (D : va_G) (cI cZ : ClassId) (aR : Nat) (aN : Nat) (dg : Nat) (tr : Nat) (aX : Nat) (fX : Nat → Int32) (hg : dg ≤ 48) : RO l yX2_isZero wsX2_isZero ({ frames := 2, cells := 0, slots := 0, locals := 43 } : Room) D cI cZ [(aR, .inr (2, [.ref aN, .int (nI dg), .int (nI tr)])), (aX, .inl (cI, 48, .inl fX))] [.ref aR, .ref aX] (zrL fX dg 0) := by
  refine ro_start (by decide) rfl (Nat.le_of_ble_eq_true rfl) ?_
  intro p e s m args below meth c hx hb hr hml hlocks hts hown hT hP ls hl
  have hown : s.vm.findClass RX2 = some m.cls := hown
  have hl : lv_has ls 3 [(0, .ref aR), (1, .ref aX)] := hl
  refine lv_iconst (v := 0) hx hb dX2_isZero_0 (by decide) ?_
  refine lv_istore_n (lv' := [(2, .int 0), (0, .ref aR), (1, .ref aX)]) hx hb dX2_isZero_1 rfl hl (by decide) rfl (fun ls hl => ?_)
  have L_2 : ∀ (f : Nat) (i : Nat), i + f = dg → zrL fX dg 0 = zrL fX f i → ∀ ls : Array Slot, lv_has ls 3 [(0, .ref aR), (1, .ref aX), (2, .int (nI i))] → W p l e (headSpec wsX2_isZero ({ frames := 2, cells := 0, slots := 0, locals := 43 } : Room)).room s m args below meth c s.heap [] 0 0 (MQ below (QcRead (zrL fX dg 0)) args s 0 0 (fun _ => False)) (F0 m 2 ls []) := by
    intro f
    induction f with
    | zero =>
      intro i h1 h2 ls hl
      refine lv_iload_n hx hb dX2_isZero_2 rfl (lv_at hl 2 rfl) ?_
      refine lv_aload_n hx hb dX2_isZero_3 rfl (lv_at hl 0 rfl) ?_
      refine va_get (D := D) (ci := 2) (v := .int (nI dg)) (C := RX2) (T := TX2) (N := 3) hx hb hts hi_X2_isZero_X2 hown hT.1 hP 0 rfl rfl 1 (by decide) (hts (.fieldLink RX2 51 "SlotStar$Root" "degree" "I") (List.mem_of_getElem? (i := 1) rfl)) (fun _ h9 => h9) rfl dX2_isZero_4 ?_
      refine lv_icmp_ge (tgt := 26) hx hb dX2_isZero_7 (by decide) (fun c_1 => ?_) (fun c_1 => ?_)
      · skip
        refine lv_iconst (v := 1) hx hb dX2_isZero_26 (by decide) ?_
        exact ro_retz hx hb hr hlocks dX2_isZero_27 (by rw [h2]; rfl) (by exact zrL01 _ _ _)
      · exfalso; exact c_1 (nI_le (by omega) (by omega))
    | succ f ih_2 =>
      intro i h1 h2 ls hl
      refine lv_iload_n hx hb dX2_isZero_2 rfl (lv_at hl 2 rfl) ?_
      refine lv_aload_n hx hb dX2_isZero_3 rfl (lv_at hl 0 rfl) ?_
      refine va_get (D := D) (ci := 2) (v := .int (nI dg)) (C := RX2) (T := TX2) (N := 3) hx hb hts hi_X2_isZero_X2 hown hT.1 hP 0 rfl rfl 1 (by decide) (hts (.fieldLink RX2 51 "SlotStar$Root" "degree" "I") (List.mem_of_getElem? (i := 1) rfl)) (fun _ h9 => h9) rfl dX2_isZero_4 ?_
      refine lv_icmp_ge (tgt := 26) hx hb dX2_isZero_7 (by decide) (fun c_2 => ?_) (fun c_2 => ?_)
      · exfalso; exact nI_ge (show i < dg by omega) (by omega) c_2
      · skip
        refine lv_aload_n hx hb dX2_isZero_10 rfl (lv_at hl 1 rfl) ?_
        refine lv_iload_n hx hb dX2_isZero_11 rfl (lv_at hl 2 rfl) ?_
        refine ro_N (As := [.ref aX, .int (nI i)]) (rest := []) ⟨hx, hb, hml, hown, hts⟩ hT hP (k_X3_at l D cI cZ aX 48 fX i (by decide) (by omega)) (List.mem_of_getElem? (i := 6) rfl) gX2_isZero_X3_at_n54 (hts (.initialized RX3) (List.mem_of_getElem? (i := 3) rfl)) (hts (.static yX3_at) (List.mem_of_getElem? (i := 2) rfl)) rfl nd_X3_at [1] rfl hl.1 rfl rfl (Nat.le_of_ble_eq_true rfl) ⟨Nat.le_of_ble_eq_true rfl, Nat.le_of_ble_eq_true rfl⟩ ⟨rfl, rfl⟩ ⟨Nat.zero_le _, Nat.zero_le _⟩ dX2_isZero_12 ?_
        refine lv_if_eq (tgt := 20) hx hb dX2_isZero_15 (by decide) (fun c_3 => ?_) (fun c_3 => ?_)
        · skip
          refine lv_iinc (v := nI (i + 1)) (lv' := [(2, .int (nI (i + 1))), (0, .ref aR), (1, .ref aX)]) hx hb dX2_isZero_20 hl (k := 2) rfl ((nI_succ i).symm) (by decide) rfl (fun ls hl => ?_)
          refine lv_goto (tgt := 2) hx hb dX2_isZero_23 (by decide) ?_
          exact ih_2 (i + 1) (by omega) (by rw [h2]; simp [zrL, c_2, c_3]) ls (lv_sub hl [1, 2, 0] rfl)
        · skip
          refine lv_iconst (v := 0) hx hb dX2_isZero_18 (by decide) ?_
          exact ro_retz hx hb hr hlocks dX2_isZero_19 (by rw [h2]; simp [zrL, c_2, c_3]) (by exact zrL01 _ _ _)
  exact L_2 dg 0 (by omega) rfl ls (lv_sub hl [1, 2, 0] rfl)

set_option maxRecDepth 20000 in
theorem hi_X2_areSame_X2 : ∀ w ∈ wsX20, w ∈ wsX2_areSame := by
  intro w h
  unfold wsX2_areSame
  simp only [List.mem_cons, List.mem_append, h, or_true, true_or]
theorem nd_X2_areSame : okName yX2_areSame 2 := by decide +kernel
set_option maxHeartbeats 4000000 in
set_option maxRecDepth 100000 in
theorem k_X2_areSame (l : Launch) (D : va_G) (cI cZ : ClassId) (aR : Nat) (aN : Nat) (dg : Nat) (tr : Nat) (aX : Nat) (fX : Nat → Int32) (aY : Nat) (fY : Nat → Int32) (hg : dg ≤ 48) : RO l yX2_areSame wsX2_areSame ({ frames := 2, cells := 0, slots := 0, locals := 43 } : Room) D cI cZ [(aR, .inr (2, [.ref aN, .int (nI dg), .int (nI tr)])), (aX, .inl (cI, 48, .inl fX)), (aY, .inl (cI, 48, .inl fY))] [.ref aR, .ref aX, .ref aY] (smL fX fY dg 0) := by
  refine ro_start (by decide) rfl (Nat.le_of_ble_eq_true rfl) ?_
  intro p e s m args below meth c hx hb hr hml hlocks hts hown hT hP ls hl
  have hown : s.vm.findClass RX2 = some m.cls := hown
  have hl : lv_has ls 4 [(0, .ref aR), (1, .ref aX), (2, .ref aY)] := hl
  refine lv_iconst (v := 0) hx hb dX2_areSame_0 (by decide) ?_
  refine lv_istore_n (lv' := [(3, .int 0), (0, .ref aR), (1, .ref aX), (2, .ref aY)]) hx hb dX2_areSame_1 rfl hl (by decide) rfl (fun ls hl => ?_)
  have L_2 : ∀ (f : Nat) (i : Nat), i + f = dg → smL fX fY dg 0 = smL fX fY f i → ∀ ls : Array Slot, lv_has ls 4 [(0, .ref aR), (1, .ref aX), (2, .ref aY), (3, .int (nI i))] → W p l e (headSpec wsX2_areSame ({ frames := 2, cells := 0, slots := 0, locals := 43 } : Room)).room s m args below meth c s.heap [] 0 0 (MQ below (QcRead (smL fX fY dg 0)) args s 0 0 (fun _ => False)) (F0 m 2 ls []) := by
    intro f
    induction f with
    | zero =>
      intro i h1 h2 ls hl
      refine lv_iload_n hx hb dX2_areSame_2 rfl (lv_at hl 3 rfl) ?_
      refine lv_aload_n hx hb dX2_areSame_3 rfl (lv_at hl 0 rfl) ?_
      refine va_get (D := D) (ci := 2) (v := .int (nI dg)) (C := RX2) (T := TX2) (N := 3) hx hb hts hi_X2_areSame_X2 hown hT.1 hP 0 rfl rfl 1 (by decide) (hts (.fieldLink RX2 51 "SlotStar$Root" "degree" "I") (List.mem_of_getElem? (i := 1) rfl)) (fun _ h9 => h9) rfl dX2_areSame_4 ?_
      refine lv_icmp_ge (tgt := 31) hx hb dX2_areSame_7 (by decide) (fun c_1 => ?_) (fun c_1 => ?_)
      · skip
        refine lv_iconst (v := 1) hx hb dX2_areSame_31 (by decide) ?_
        exact ro_retz hx hb hr hlocks dX2_areSame_32 (by rw [h2]; rfl) (by exact smL01 _ _ _ _)
      · exfalso; exact c_1 (nI_le (by omega) (by omega))
    | succ f ih_2 =>
      intro i h1 h2 ls hl
      refine lv_iload_n hx hb dX2_areSame_2 rfl (lv_at hl 3 rfl) ?_
      refine lv_aload_n hx hb dX2_areSame_3 rfl (lv_at hl 0 rfl) ?_
      refine va_get (D := D) (ci := 2) (v := .int (nI dg)) (C := RX2) (T := TX2) (N := 3) hx hb hts hi_X2_areSame_X2 hown hT.1 hP 0 rfl rfl 1 (by decide) (hts (.fieldLink RX2 51 "SlotStar$Root" "degree" "I") (List.mem_of_getElem? (i := 1) rfl)) (fun _ h9 => h9) rfl dX2_areSame_4 ?_
      refine lv_icmp_ge (tgt := 31) hx hb dX2_areSame_7 (by decide) (fun c_2 => ?_) (fun c_2 => ?_)
      · exfalso; exact nI_ge (show i < dg by omega) (by omega) c_2
      · skip
        refine lv_aload_n hx hb dX2_areSame_10 rfl (lv_at hl 1 rfl) ?_
        refine lv_iload_n hx hb dX2_areSame_11 rfl (lv_at hl 3 rfl) ?_
        refine ro_N (As := [.ref aX, .int (nI i)]) (rest := []) ⟨hx, hb, hml, hown, hts⟩ hT hP (k_X3_at l D cI cZ aX 48 fX i (by decide) (by omega)) (List.mem_of_getElem? (i := 6) rfl) gX2_areSame_X3_at_n54 (hts (.initialized RX3) (List.mem_of_getElem? (i := 3) rfl)) (hts (.static yX3_at) (List.mem_of_getElem? (i := 2) rfl)) rfl nd_X3_at [1] rfl hl.1 rfl rfl (Nat.le_of_ble_eq_true rfl) ⟨Nat.le_of_ble_eq_true rfl, Nat.le_of_ble_eq_true rfl⟩ ⟨rfl, rfl⟩ ⟨Nat.zero_le _, Nat.zero_le _⟩ dX2_areSame_12 ?_
        refine lv_aload_n hx hb dX2_areSame_15 rfl (lv_at hl 2 rfl) ?_
        refine lv_iload_n hx hb dX2_areSame_16 rfl (lv_at hl 3 rfl) ?_
        refine ro_N (As := [.ref aY, .int (nI i)]) (rest := [.int (fX i)]) ⟨hx, hb, hml, hown, hts⟩ hT hP (k_X3_at l D cI cZ aY 48 fY i (by decide) (by omega)) (List.mem_of_getElem? (i := 6) rfl) gX2_areSame_X3_at_n54 (hts (.initialized RX3) (List.mem_of_getElem? (i := 3) rfl)) (hts (.static yX3_at) (List.mem_of_getElem? (i := 2) rfl)) rfl nd_X3_at [2] rfl hl.1 rfl rfl (Nat.le_of_ble_eq_true rfl) ⟨Nat.le_of_ble_eq_true rfl, Nat.le_of_ble_eq_true rfl⟩ ⟨rfl, rfl⟩ ⟨Nat.zero_le _, Nat.zero_le _⟩ dX2_areSame_17 ?_
        refine lv_icmp_eq (tgt := 25) hx hb dX2_areSame_20 (by decide) (fun c_3 => ?_) (fun c_3 => ?_)
        · skip
          refine lv_iinc (v := nI (i + 1)) (lv' := [(3, .int (nI (i + 1))), (0, .ref aR), (1, .ref aX), (2, .ref aY)]) hx hb dX2_areSame_25 hl (k := 3) rfl ((nI_succ i).symm) (by decide) rfl (fun ls hl => ?_)
          refine lv_goto (tgt := 2) hx hb dX2_areSame_28 (by decide) ?_
          exact ih_2 (i + 1) (by omega) (by rw [h2]; simp [smL, c_2, c_3]) ls (lv_sub hl [1, 2, 3, 0] rfl)
        · skip
          refine lv_iconst (v := 0) hx hb dX2_areSame_23 (by decide) ?_
          exact ro_retz hx hb hr hlocks dX2_areSame_24 (by rw [h2]; simp [smL, c_2, c_3]) (by exact smL01 _ _ _ _)
  exact L_2 dg 0 (by omega) rfl ls (lv_sub hl [1, 2, 3, 0] rfl)
