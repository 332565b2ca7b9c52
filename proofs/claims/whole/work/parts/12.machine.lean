theorem nd_X3_isWithin : okName yX3_isWithin 3 := by decide +kernel
set_option maxHeartbeats 4000000 in
set_option maxRecDepth 100000 in
theorem k_X3_isWithin (l : Launch) (D : va_G) (cI cZ : ClassId) (n : Int32) (lo : Int32) (hi : Int32) : RO l yX3_isWithin wsX3_isWithin ({ frames := 0, cells := 0, slots := 0, locals := 0 } : Room) D cI cZ [] [.int n, .int lo, .int hi] (jIn n lo hi) := by
  refine ro_start (by decide) rfl (Nat.le_of_ble_eq_true rfl) ?_
  intro p e s m args below meth c hx hb hr hml hlocks hts hown hT hP ls hl
  have hown : s.vm.findClass RX3 = some m.cls := hown
  have hl : lv_has ls 3 [(0, .int n), (1, .int lo), (2, .int hi)] := hl
  refine lv_iload_n hx hb dX3_isWithin_0 rfl (lv_at hl 0 rfl) ?_
  refine lv_iload_n hx hb dX3_isWithin_1 rfl (lv_at hl 1 rfl) ?_
  refine lv_icmp_lt (tgt := 14) hx hb dX3_isWithin_2 (by decide) (fun c_1 => ?_) (fun c_1 => ?_)
  · skip
    refine lv_iconst (v := 0) hx hb dX3_isWithin_14 (by decide) ?_
    exact ro_retz hx hb hr hlocks dX3_isWithin_15 (by simp [jIn, c_1]) (by first | exact jIn01 _ _ _)
  · skip
    refine lv_iload_n hx hb dX3_isWithin_5 rfl (lv_at hl 0 rfl) ?_
    refine lv_iload_n hx hb dX3_isWithin_6 rfl (lv_at hl 2 rfl) ?_
    refine lv_icmp_gt (tgt := 14) hx hb dX3_isWithin_7 (by decide) (fun c_2 => ?_) (fun c_2 => ?_)
    · skip
      refine lv_iconst (v := 0) hx hb dX3_isWithin_14 (by decide) ?_
      exact ro_retz hx hb hr hlocks dX3_isWithin_15 (by simp [jIn, c_1, c_2]) (by first | exact jIn01 _ _ _)
    · skip
      refine lv_iconst (v := 1) hx hb dX3_isWithin_10 (by decide) ?_
      refine lv_goto (tgt := 15) hx hb dX3_isWithin_11 (by decide) ?_
      exact ro_retz hx hb hr hlocks dX3_isWithin_15 (by simp [jIn, c_1, c_2]) (by first | exact jIn01 _ _ _)

theorem nd_X3_leftOver : okName yX3_leftOver 2 := by decide +kernel
set_option maxHeartbeats 4000000 in
set_option maxRecDepth 100000 in
theorem k_X3_leftOver (l : Launch) (D : va_G) (cI cZ : ClassId) (n : Int32) (b : Int32) : RO l yX3_leftOver wsX3_leftOver ({ frames := 0, cells := 0, slots := 0, locals := 0 } : Room) D cI cZ [] [.int n, .int b] (jLO n b) := by
  refine ro_start (by decide) rfl (Nat.le_of_ble_eq_true rfl) ?_
  intro p e s m args below meth c hx hb hr hml hlocks hts hown hT hP ls hl
  have hown : s.vm.findClass RX3 = some m.cls := hown
  have hl : lv_has ls 3 [(0, .int n), (1, .int b)] := hl
  refine lv_iload_n hx hb dX3_leftOver_0 rfl (lv_at hl 1 rfl) ?_
  refine lv_iconst (v := 1) hx hb dX3_leftOver_1 (by decide) ?_
  refine lv_icmp_ge (tgt := 7) hx hb dX3_leftOver_2 (by decide) (fun c_1 => ?_) (fun c_1 => ?_)
  · skip
    refine lv_iload_n hx hb dX3_leftOver_7 rfl (lv_at hl 0 rfl) ?_
    refine lv_iload_n hx hb dX3_leftOver_8 rfl (lv_at hl 1 rfl) ?_
    refine lv_irem hx hb dX3_leftOver_9 (fun q => absurd c_1 (by rw [q]; decide)) ?_
    refine lv_istore_n (lv' := [(2, .int (n - n / b * b)), (0, .int n), (1, .int b)]) hx hb dX3_leftOver_10 rfl hl (by decide) rfl (fun ls hl => ?_)
    refine lv_iload_n hx hb dX3_leftOver_11 rfl (lv_at hl 0 rfl) ?_
    refine lv_if_ge (tgt := 21) hx hb dX3_leftOver_12 (by decide) (fun c_2 => ?_) (fun c_2 => ?_)
    · skip
      refine lv_iload_n hx hb dX3_leftOver_21 rfl (lv_at hl 0 rfl) ?_
      exact ro_ret hx hb hr hlocks dX3_leftOver_22 (by simp [jLO, c_1, c_2])
    · skip
      refine lv_iload_n hx hb dX3_leftOver_15 rfl (lv_at hl 0 rfl) ?_
      refine lv_iload_n hx hb dX3_leftOver_16 rfl (lv_at hl 2 rfl) ?_
      refine lv_iadd hx hb dX3_leftOver_17 ?_
      refine lv_goto (tgt := 22) hx hb dX3_leftOver_18 (by decide) ?_
      exact ro_ret hx hb hr hlocks dX3_leftOver_22 (by simp [jLO, c_1, c_2])
  · skip
    refine lv_iconst (v := 0) hx hb dX3_leftOver_5 (by decide) ?_
    exact ro_ret hx hb hr hlocks dX3_leftOver_6 (by simp [jLO, c_1])

theorem nd_X3_cut : okName yX3_cut 2 := by decide +kernel
set_option maxHeartbeats 4000000 in
set_option maxRecDepth 100000 in
theorem k_X3_cut (l : Launch) (D : va_G) (cI cZ : ClassId) (n : Int32) (b : Int32) : RO l yX3_cut wsX3_cut ({ frames := 0, cells := 0, slots := 0, locals := 0 } : Room) D cI cZ [] [.int n, .int b] (jCut n b) := by
  refine ro_start (by decide) rfl (Nat.le_of_ble_eq_true rfl) ?_
  intro p e s m args below meth c hx hb hr hml hlocks hts hown hT hP ls hl
  have hown : s.vm.findClass RX3 = some m.cls := hown
  have hl : lv_has ls 2 [(0, .int n), (1, .int b)] := hl
  refine lv_iload_n hx hb dX3_cut_0 rfl (lv_at hl 1 rfl) ?_
  refine lv_iconst (v := 1) hx hb dX3_cut_1 (by decide) ?_
  refine lv_icmp_ge (tgt := 9) hx hb dX3_cut_2 (by decide) (fun c_1 => ?_) (fun c_1 => ?_)
  · skip
    refine lv_iload_n hx hb dX3_cut_9 rfl (lv_at hl 0 rfl) ?_
    refine lv_iload_n hx hb dX3_cut_10 rfl (lv_at hl 1 rfl) ?_
    refine lv_idiv hx hb dX3_cut_11 (fun q => absurd c_1 (by rw [q]; decide)) ?_
    exact ro_ret hx hb hr hlocks dX3_cut_12 (by simp [jCut, c_1])
  · skip
    refine lv_iconst (v := 0) hx hb dX3_cut_5 (by decide) ?_
    refine lv_goto (tgt := 12) hx hb dX3_cut_6 (by decide) ?_
    exact ro_ret hx hb hr hlocks dX3_cut_12 (by simp [jCut, c_1])

theorem nd_X3_commonDivisor : okName yX3_commonDivisor 2 := by decide +kernel
set_option maxHeartbeats 4000000 in
set_option maxRecDepth 100000 in
theorem k_X3_commonDivisor (l : Launch) (D : va_G) (cI cZ : ClassId) (a : Int32) (b : Int32) : RO l yX3_commonDivisor wsX3_commonDivisor ({ frames := 1, cells := 0, slots := 0, locals := 22 } : Room) D cI cZ [] [.int a, .int b] (jCD a b) := by
  refine ro_start (by decide) rfl (Nat.le_of_ble_eq_true rfl) ?_
  intro p e s m args below meth c hx hb hr hml hlocks hts hown hT hP ls hl
  have hown : s.vm.findClass RX3 = some m.cls := hown
  have hl : lv_has ls 3 [(0, .int a), (1, .int b)] := hl
  refine lv_iload_n hx hb dX3_commonDivisor_0 rfl (lv_at hl 0 rfl) ?_
  refine lv_iload_n hx hb dX3_commonDivisor_1 rfl (lv_at hl 1 rfl) ?_
  refine va_mmin hx hb (hml.trans hl.1.symm) hown (hts (.methodLink RX3 200 Lib.Math.min.name) (List.mem_of_getElem? (i := 1) rfl)) (hts (.static Lib.Math.min.name) (List.mem_of_getElem? (i := 2) rfl)) (hts (.initialized "java/lang/Math") (List.mem_of_getElem? (i := 3) rfl)) (hts (.code Lib.Math.min.name Lib.Math.min.code 2 (some .int)) (List.mem_of_getElem? (i := 4) rfl)) (Nat.le_of_ble_eq_true rfl) (Nat.le_of_ble_eq_true rfl) (Nat.zero_le _) (Nat.zero_le _) dX3_commonDivisor_2 ?_
  refine lv_istore_n (lv' := [(2, .int (if b < a then b else a)), (0, .int a), (1, .int b)]) hx hb dX3_commonDivisor_5 rfl hl (by decide) rfl (fun ls hl => ?_)
  have L_6 : ∀ (k : Nat) (d : Int32), d.toNatClampNeg = k → jCD a b = cdL a b k d → ∀ ls : Array Slot, lv_has ls 3 [(0, .int a), (1, .int b), (2, .int d)] → W p l e (headSpec wsX3_commonDivisor ({ frames := 1, cells := 0, slots := 0, locals := 22 } : Room)).room s m args below meth c s.heap [] 0 0 (MQ below (QcRead (jCD a b)) args s 0 0 (fun _ => False)) (F0 m 6 ls []) := by
    intro k
    induction k with
    | zero =>
      intro d hk hr0 ls hl
      refine lv_iload_n hx hb dX3_commonDivisor_6 rfl (lv_at hl 2 rfl) ?_
      refine lv_iconst (v := 1) hx hb dX3_commonDivisor_7 (by decide) ?_
      refine lv_icmp_le (tgt := 35) hx hb dX3_commonDivisor_8 (by decide) (fun c_1 => ?_) (fun c_1 => ?_)
      · skip
        refine lv_iconst (v := 1) hx hb dX3_commonDivisor_35 (by decide) ?_
        exact ro_ret hx hb hr hlocks dX3_commonDivisor_36 (by rw [hr0]; first | rfl | simp [cdL, c_1])
      · exfalso; exact c_1 (clamp0 hk)
    | succ k ih_6 =>
      intro d hk hr0 ls hl
      refine lv_iload_n hx hb dX3_commonDivisor_6 rfl (lv_at hl 2 rfl) ?_
      refine lv_iconst (v := 1) hx hb dX3_commonDivisor_7 (by decide) ?_
      refine lv_icmp_le (tgt := 35) hx hb dX3_commonDivisor_8 (by decide) (fun c_2 => ?_) (fun c_2 => ?_)
      · skip
        refine lv_iconst (v := 1) hx hb dX3_commonDivisor_35 (by decide) ?_
        exact ro_ret hx hb hr hlocks dX3_commonDivisor_36 (by rw [hr0]; first | rfl | simp [cdL, c_2])
      · skip
        refine lv_iload_n hx hb dX3_commonDivisor_11 rfl (lv_at hl 0 rfl) ?_
        refine lv_iload_n hx hb dX3_commonDivisor_12 rfl (lv_at hl 2 rfl) ?_
        refine ro_S (As := [.int a, .int d]) (rest := []) ⟨hx, hb, hml, hown, hts⟩ hT hP (k_X3_leftOver l D cI cZ a d) gX3_commonDivisor_X3_leftOver rfl nd_X3_leftOver [] rfl hl.1 rfl rfl (Nat.le_of_ble_eq_true rfl) ⟨Nat.le_of_ble_eq_true rfl, Nat.le_of_ble_eq_true rfl⟩ ⟨rfl, rfl⟩ ⟨Nat.zero_le _, Nat.zero_le _⟩ dX3_commonDivisor_13 ?_
        refine lv_if_ne (tgt := 29) hx hb dX3_commonDivisor_16 (by decide) (fun c_3 => ?_) (fun c_3 => ?_)
        · skip
          refine lv_iinc (v := (d + (-1))) (lv' := [(2, .int (d + (-1))), (0, .int a), (1, .int b)]) hx hb dX3_commonDivisor_29 hl (k := 2) rfl rfl (by decide) rfl (fun ls hl => ?_)
          refine lv_goto (tgt := 6) hx hb dX3_commonDivisor_32 (by decide) ?_
          exact ih_6 _ (clamp_dec hk) (by rw [hr0]; simp [cdL, c_2, c_3]) ls (lv_sub hl [1, 2, 0] rfl)
        · skip
          refine lv_iload_n hx hb dX3_commonDivisor_19 rfl (lv_at hl 1 rfl) ?_
          refine lv_iload_n hx hb dX3_commonDivisor_20 rfl (lv_at hl 2 rfl) ?_
          refine ro_S (As := [.int b, .int d]) (rest := []) ⟨hx, hb, hml, hown, hts⟩ hT hP (k_X3_leftOver l D cI cZ b d) gX3_commonDivisor_X3_leftOver rfl nd_X3_leftOver [] rfl hl.1 rfl rfl (Nat.le_of_ble_eq_true rfl) ⟨Nat.le_of_ble_eq_true rfl, Nat.le_of_ble_eq_true rfl⟩ ⟨rfl, rfl⟩ ⟨Nat.zero_le _, Nat.zero_le _⟩ dX3_commonDivisor_21 ?_
          refine lv_if_ne (tgt := 29) hx hb dX3_commonDivisor_24 (by decide) (fun c_4 => ?_) (fun c_4 => ?_)
          · skip
            refine lv_iinc (v := (d + (-1))) (lv' := [(2, .int (d + (-1))), (0, .int a), (1, .int b)]) hx hb dX3_commonDivisor_29 hl (k := 2) rfl rfl (by decide) rfl (fun ls hl => ?_)
            refine lv_goto (tgt := 6) hx hb dX3_commonDivisor_32 (by decide) ?_
            exact ih_6 _ (clamp_dec hk) (by rw [hr0]; simp [cdL, c_2, c_3, c_4]) ls (lv_sub hl [1, 2, 0] rfl)
          · skip
            refine lv_iload_n hx hb dX3_commonDivisor_27 rfl (lv_at hl 2 rfl) ?_
            exact ro_ret hx hb hr hlocks dX3_commonDivisor_28 (by rw [hr0]; simp [cdL, c_2, c_3, c_4])
  exact L_6 _ _ rfl rfl ls (lv_sub hl [1, 2, 0] rfl)

theorem nd_X3_at : okName yX3_at 2 := by decide +kernel
set_option maxHeartbeats 4000000 in
set_option maxRecDepth 100000 in
theorem k_X3_at (l : Launch) (D : va_G) (cI cZ : ClassId) (aX : Nat) (nX : Nat) (fX : Nat → Int32) (k : Nat) (hz : nX < 2 ^ 31) (hk : k < nX) : RO l yX3_at wsX3_at ({ frames := 1, cells := 0, slots := 0, locals := 22 } : Room) D cI cZ [(aX, .inl (cI, nX, .inl fX))] [.ref aX, .int (nI k)] (fX k) := by
  refine ro_start (by decide) rfl (Nat.le_of_ble_eq_true rfl) ?_
  intro p e s m args below meth c hx hb hr hml hlocks hts hown hT hP ls hl
  have hown : s.vm.findClass RX3 = some m.cls := hown
  have hl : lv_has ls 2 [(0, .ref aX), (1, .int (nI k))] := hl
  refine lv_iload_n hx hb dX3_at_0 rfl (lv_at hl 1 rfl) ?_
  refine lv_iconst (v := 0) hx hb dX3_at_1 (by decide) ?_
  refine lv_aload_n hx hb dX3_at_2 rfl (lv_at hl 0 rfl) ?_
  refine va_alen hx hb hT.1 hP 0 0 (v := (nI nX)) rfl rfl rfl dX3_at_3 ?_
  refine lv_iconst (v := 1) hx hb dX3_at_4 (by decide) ?_
  refine lv_isub hx hb dX3_at_5 ?_
  refine ro_S (As := [.int (nI k), .int 0, .int ((nI nX) - 1)]) (rest := []) ⟨hx, hb, hml, hown, hts⟩ hT hP (k_X3_isWithin l D cI cZ (nI k) 0 ((nI nX) - 1)) gX3_at_X3_isWithin rfl nd_X3_isWithin [] rfl hl.1 rfl rfl (Nat.le_of_ble_eq_true rfl) ⟨Nat.le_of_ble_eq_true rfl, Nat.le_of_ble_eq_true rfl⟩ ⟨rfl, rfl⟩ ⟨Nat.zero_le _, Nat.zero_le _⟩ dX3_at_6 ?_
  refine lv_if_eq (tgt := 18) hx hb dX3_at_9 (by decide) (fun c_1 => ?_) (fun c_1 => ?_)
  · exfalso; exact absurd c_1 (jIn_ok hk hz)
  · skip
    refine lv_aload_n hx hb dX3_at_12 rfl (lv_at hl 0 rfl) ?_
    refine lv_iload_n hx hb dX3_at_13 rfl (lv_at hl 1 rfl) ?_
    refine ld_i hx hb hT hP 0 rfl dX3_at_14 (k := k) rfl hk (by omega) ?_
    refine lv_goto (tgt := 19) hx hb dX3_at_15 (by decide) ?_
    exact ro_ret hx hb hr hlocks dX3_at_19 (by rfl)

theorem nd_X3_put : okName yX3_put 3 := by decide +kernel
set_option maxHeartbeats 4000000 in
set_option maxRecDepth 100000 in
theorem k_X3_put (l : Launch) (D : va_G) (cI cZ : ClassId) (aX : Nat) (nX : Nat) (fX : Nat → Int32) (k : Nat) (x : Int32) (hz : nX < 2 ^ 31) (hk : k < nX) : MU l yX3_put wsX3_put ({ frames := 1, cells := 0, slots := 0, locals := 22 } : Room) D cI cZ [(aX, .inl (cI, nX, .inl fX))] [.ref aX, .int (nI k), .int x] none [(aX, .inl (cI, nX, .inl (upd fX k x)))] := by
  refine mu_start (by decide) rfl (Nat.le_of_ble_eq_true rfl) ?_
  intro p e s m args below meth c hx hb hr hml hlocks hts hown hT hP hD hS ls hl
  have hown : s.vm.findClass RX3 = some m.cls := hown
  have hl : lv_has ls 3 [(0, .ref aX), (1, .int (nI k)), (2, .int x)] := hl
  refine lv_iload_n hx hb dX3_put_0 rfl (lv_at hl 1 rfl) ?_
  refine lv_iconst (v := 0) hx hb dX3_put_1 (by decide) ?_
  refine lv_aload_n hx hb dX3_put_2 rfl (lv_at hl 0 rfl) ?_
  refine va_alen hx hb hT.1 hP 0 0 (v := (nI nX)) rfl rfl rfl dX3_put_3 ?_
  refine lv_iconst (v := 1) hx hb dX3_put_4 (by decide) ?_
  refine lv_isub hx hb dX3_put_5 ?_
  refine ro_S (As := [.int (nI k), .int 0, .int ((nI nX) - 1)]) (rest := []) ⟨hx, hb, hml, hown, hts⟩ hT hP (k_X3_isWithin l D cI cZ (nI k) 0 ((nI nX) - 1)) gX3_put_X3_isWithin rfl nd_X3_isWithin [] rfl hl.1 rfl rfl (Nat.le_of_ble_eq_true rfl) ⟨Nat.le_of_ble_eq_true rfl, Nat.le_of_ble_eq_true rfl⟩ ⟨rfl, rfl⟩ ⟨Nat.zero_le _, Nat.zero_le _⟩ dX3_put_6 ?_
  refine lv_if_eq (tgt := 16) hx hb dX3_put_9 (by decide) (fun c_1 => ?_) (fun c_1 => ?_)
  · exfalso; exact absurd c_1 (jIn_ok hk hz)
  · skip
    refine lv_aload_n hx hb dX3_put_12 rfl (lv_at hl 0 rfl) ?_
    refine lv_iload_n hx hb dX3_put_13 rfl (lv_at hl 1 rfl) ?_
    refine lv_iload_n hx hb dX3_put_14 rfl (lv_at hl 2 rfl) ?_
    refine st_i hx hb hT hP hD hS 0 rfl dX3_put_15 (k := k) (W1 := [(aX, .inl (cI, nX, .inl (upd fX k x)))]) rfl hk (by omega) rfl (fun H locs hP hD hS => ?_)
    exact mu_retv hx hb hr hlocks dX3_put_16 (hP) hS

theorem nd_X3_poleWidth : okName yX3_poleWidth 2 := by decide +kernel
set_option maxHeartbeats 4000000 in
set_option maxRecDepth 100000 in
theorem k_X3_poleWidth (l : Launch) (D : va_G) (cI cZ : ClassId) (Q : Nat) (P : Nat) (hq : Q < 1000) (hp : 0 < P ∧ P < 1000) : RO l yX3_poleWidth wsX3_poleWidth ({ frames := 1, cells := 0, slots := 0, locals := 21 } : Room) D cI cZ [] [.int (nI Q), .int (nI P)] (nI (pw Q P)) := by
  refine ro_start (by decide) rfl (Nat.le_of_ble_eq_true rfl) ?_
  intro p e s m args below meth c hx hb hr hml hlocks hts hown hT hP ls hl
  have hown : s.vm.findClass RX3 = some m.cls := hown
  have hl : lv_has ls 2 [(0, .int (nI Q)), (1, .int (nI P))] := hl
  refine lv_iconst (v := 1) hx hb dX3_poleWidth_0 (by decide) ?_
  refine lv_iload_n hx hb dX3_poleWidth_1 rfl (lv_at hl 0 rfl) ?_
  refine lv_iconst (v := 2) hx hb dX3_poleWidth_2 (by decide) ?_
  refine lv_iload_n hx hb dX3_poleWidth_3 rfl (lv_at hl 1 rfl) ?_
  refine lv_imul hx hb dX3_poleWidth_4 ?_
  refine ro_S (As := [.int (nI Q), .int (2 * (nI P))]) (rest := [.int 1]) ⟨hx, hb, hml, hown, hts⟩ hT hP (k_X3_cut l D cI cZ (nI Q) (2 * (nI P))) gX3_poleWidth_X3_cut rfl nd_X3_cut [] rfl hl.1 rfl rfl (Nat.le_of_ble_eq_true rfl) ⟨Nat.le_of_ble_eq_true rfl, Nat.le_of_ble_eq_true rfl⟩ ⟨rfl, rfl⟩ ⟨Nat.zero_le _, Nat.zero_le _⟩ dX3_poleWidth_5 ?_
  refine va_mmax hx hb (hml.trans hl.1.symm) hown (hts (.methodLink RX3 195 Lib.Math.max.name) (List.mem_of_getElem? (i := 1) rfl)) (hts (.static Lib.Math.max.name) (List.mem_of_getElem? (i := 2) rfl)) (hts (.initialized "java/lang/Math") (List.mem_of_getElem? (i := 3) rfl)) (hts (.code Lib.Math.max.name Lib.Math.max.code 2 (some .int)) (List.mem_of_getElem? (i := 4) rfl)) (Nat.le_of_ble_eq_true rfl) (Nat.le_of_ble_eq_true rfl) (Nat.zero_le _) (Nat.zero_le _) dX3_poleWidth_8 ?_
  exact ro_ret hx hb hr hlocks dX3_poleWidth_11 (by exact j_pw hq hp)

theorem nd_X3_isWave : okName yX3_isWave 1 := by decide +kernel
set_option maxHeartbeats 4000000 in
set_option maxRecDepth 100000 in
theorem k_X3_isWave (l : Launch) (D : va_G) (cI cZ : ClassId) (n : Int32) : RO l yX3_isWave wsX3_isWave ({ frames := 1, cells := 0, slots := 0, locals := 22 } : Room) D cI cZ [] [.int n] (jIn n 1 99) := by
  refine ro_start (by decide) rfl (Nat.le_of_ble_eq_true rfl) ?_
  intro p e s m args below meth c hx hb hr hml hlocks hts hown hT hP ls hl
  have hown : s.vm.findClass RX3 = some m.cls := hown
  have hl : lv_has ls 1 [(0, .int n)] := hl
  refine lv_iload_n hx hb dX3_isWave_0 rfl (lv_at hl 0 rfl) ?_
  refine lv_iconst (v := 1) hx hb dX3_isWave_1 (by decide) ?_
  refine lv_bipush (v := 99) hx hb dX3_isWave_2 (by decide) ?_
  refine ro_S (As := [.int n, .int 1, .int 99]) (rest := []) ⟨hx, hb, hml, hown, hts⟩ hT hP (k_X3_isWithin l D cI cZ n 1 99) gX3_isWave_X3_isWithin rfl nd_X3_isWithin [] rfl hl.1 rfl rfl (Nat.le_of_ble_eq_true rfl) ⟨Nat.le_of_ble_eq_true rfl, Nat.le_of_ble_eq_true rfl⟩ ⟨rfl, rfl⟩ ⟨Nat.zero_le _, Nat.zero_le _⟩ dX3_isWave_4 ?_
  exact ro_retz hx hb hr hlocks dX3_isWave_7 (by rfl) (by exact jIn01 _ _ _)

set_option maxRecDepth 20000 in
theorem hi_X1_turnOf_X1 : ∀ w ∈ wsX10, w ∈ wsX1_turnOf := by
  intro w h
  unfold wsX1_turnOf
  simp only [List.mem_cons, List.mem_append, h, or_true, true_or]
theorem nd_X1_turnOf : okName yX1_turnOf 1 := by decide +kernel
set_option maxHeartbeats 4000000 in
set_option maxRecDepth 100000 in
theorem k_X1_turnOf (l : Launch) (D : va_G) (cI cZ : ClassId) (aM : Nat) (Q : Nat) (P : Nat) (M : Nat) (Wd : Nat) (k : Nat) (hv : MV Q P M Wd) (hk : k < 1000) : RO l yX1_turnOf wsX1_turnOf ({ frames := 1, cells := 0, slots := 0, locals := 22 } : Room) D cI cZ [(aM, .inr (1, [.int (nI Q), .int (nI P), .int (nI M), .int (nI Wd), .int (nI (tT Q P)), .int (nI (tN Q P))]))] [.ref aM, .int (nI k)] (nI (tn Q P k)) := by
  refine ro_start (by decide) rfl (Nat.le_of_ble_eq_true rfl) ?_
  intro p e s m args below meth c hx hb hr hml hlocks hts hown hT hP ls hl
  have hown : s.vm.findClass RX1 = some m.cls := hown
  have hl : lv_has ls 2 [(0, .ref aM), (1, .int (nI k))] := hl
  refine lv_iload_n hx hb dX1_turnOf_0 rfl (lv_at hl 1 rfl) ?_
  refine lv_aload_n hx hb dX1_turnOf_1 rfl (lv_at hl 0 rfl) ?_
  refine va_get (D := D) (ci := 1) (v := .int (nI P)) (C := RX1) (T := TX1) (N := 6) hx hb hts hi_X1_turnOf_X1 hown hT.1 hP 0 rfl rfl 1 (by decide) (hts (.fieldLink RX1 13 "SlotStar$Machine" "pairs" "I") (List.mem_of_getElem? (i := 1) rfl)) (fun _ h9 => h9) rfl dX1_turnOf_2 ?_
  refine lv_imul hx hb dX1_turnOf_5 ?_
  refine lv_aload_n hx hb dX1_turnOf_6 rfl (lv_at hl 0 rfl) ?_
  refine va_get (D := D) (ci := 1) (v := .int (nI Q)) (C := RX1) (T := TX1) (N := 6) hx hb hts hi_X1_turnOf_X1 hown hT.1 hP 0 rfl rfl 0 (by decide) (hts (.fieldLink RX1 7 "SlotStar$Machine" "slots" "I") (List.mem_of_getElem? (i := 2) rfl)) (fun _ h9 => h9) rfl dX1_turnOf_7 ?_
  refine ro_N (As := [.int ((nI k) * (nI P)), .int (nI Q)]) (rest := []) ⟨hx, hb, hml, hown, hts⟩ hT hP (k_X3_leftOver l D cI cZ ((nI k) * (nI P)) (nI Q)) (List.mem_of_getElem? (i := 5) rfl) gX1_turnOf_X3_leftOver_n41 (hts (.initialized RX3) (List.mem_of_getElem? (i := 5) rfl)) (hts (.static yX3_leftOver) (List.mem_of_getElem? (i := 4) rfl)) rfl nd_X3_leftOver [] rfl hl.1 rfl rfl (Nat.le_of_ble_eq_true rfl) ⟨Nat.le_of_ble_eq_true rfl, Nat.le_of_ble_eq_true rfl⟩ ⟨rfl, rfl⟩ ⟨Nat.zero_le _, Nat.zero_le _⟩ dX1_turnOf_10 ?_
  refine lv_aload_n hx hb dX1_turnOf_13 rfl (lv_at hl 0 rfl) ?_
  refine va_get (D := D) (ci := 1) (v := .int (nI (tT Q P))) (C := RX1) (T := TX1) (N := 6) hx hb hts hi_X1_turnOf_X1 hown hT.1 hP 0 rfl rfl 4 (by decide) (hts (.fieldLink RX1 28 "SlotStar$Machine" "copies" "I") (List.mem_of_getElem? (i := 3) rfl)) (fun _ h9 => h9) rfl dX1_turnOf_14 ?_
  refine ro_N (As := [.int (jLO ((nI k) * (nI P)) (nI Q)), .int (nI (tT Q P))]) (rest := []) ⟨hx, hb, hml, hown, hts⟩ hT hP (k_X3_cut l D cI cZ (jLO ((nI k) * (nI P)) (nI Q)) (nI (tT Q P))) (List.mem_of_getElem? (i := 4) rfl) gX1_turnOf_X3_cut_n31 (hts (.initialized RX3) (List.mem_of_getElem? (i := 5) rfl)) (hts (.static yX3_cut) (List.mem_of_getElem? (i := 7) rfl)) rfl nd_X3_cut [] rfl hl.1 rfl rfl (Nat.le_of_ble_eq_true rfl) ⟨Nat.le_of_ble_eq_true rfl, Nat.le_of_ble_eq_true rfl⟩ ⟨rfl, rfl⟩ ⟨Nat.zero_le _, Nat.zero_le _⟩ dX1_turnOf_17 ?_
  exact ro_ret hx hb hr hlocks dX1_turnOf_20 (by exact j_turn hv hk)

set_option maxRecDepth 20000 in
theorem hi_X1_copyOf_X1 : ∀ w ∈ wsX10, w ∈ wsX1_copyOf := by
  intro w h
  unfold wsX1_copyOf
  simp only [List.mem_cons, List.mem_append, h, or_true, true_or]
theorem nd_X1_copyOf : okName yX1_copyOf 1 := by decide +kernel
set_option maxHeartbeats 4000000 in
set_option maxRecDepth 100000 in
theorem k_X1_copyOf (l : Launch) (D : va_G) (cI cZ : ClassId) (aM : Nat) (Q : Nat) (P : Nat) (M : Nat) (Wd : Nat) (k : Nat) (hv : MV Q P M Wd) (hk : k < 1000) : RO l yX1_copyOf wsX1_copyOf ({ frames := 1, cells := 0, slots := 0, locals := 21 } : Room) D cI cZ [(aM, .inr (1, [.int (nI Q), .int (nI P), .int (nI M), .int (nI Wd), .int (nI (tT Q P)), .int (nI (tN Q P))]))] [.ref aM, .int (nI k)] (nI (k / tN Q P)) := by
  refine ro_start (by decide) rfl (Nat.le_of_ble_eq_true rfl) ?_
  intro p e s m args below meth c hx hb hr hml hlocks hts hown hT hP ls hl
  have hown : s.vm.findClass RX1 = some m.cls := hown
  have hl : lv_has ls 2 [(0, .ref aM), (1, .int (nI k))] := hl
  refine lv_iload_n hx hb dX1_copyOf_0 rfl (lv_at hl 1 rfl) ?_
  refine lv_aload_n hx hb dX1_copyOf_1 rfl (lv_at hl 0 rfl) ?_
  refine va_get (D := D) (ci := 1) (v := .int (nI (tN Q P))) (C := RX1) (T := TX1) (N := 6) hx hb hts hi_X1_copyOf_X1 hown hT.1 hP 0 rfl rfl 5 (by decide) (hts (.fieldLink RX1 34 "SlotStar$Machine" "turns" "I") (List.mem_of_getElem? (i := 1) rfl)) (fun _ h9 => h9) rfl dX1_copyOf_2 ?_
  refine ro_N (As := [.int (nI k), .int (nI (tN Q P))]) (rest := []) ⟨hx, hb, hml, hown, hts⟩ hT hP (k_X3_cut l D cI cZ (nI k) (nI (tN Q P))) (List.mem_of_getElem? (i := 4) rfl) gX1_copyOf_X3_cut_n31 (hts (.initialized RX3) (List.mem_of_getElem? (i := 3) rfl)) (hts (.static yX3_cut) (List.mem_of_getElem? (i := 2) rfl)) rfl nd_X3_cut [] rfl hl.1 rfl rfl (Nat.le_of_ble_eq_true rfl) ⟨Nat.le_of_ble_eq_true rfl, Nat.le_of_ble_eq_true rfl⟩ ⟨rfl, rfl⟩ ⟨Nat.zero_le _, Nat.zero_le _⟩ dX1_copyOf_5 ?_
  exact ro_ret hx hb hr hlocks dX1_copyOf_8 (by exact jCut_nI (by omega) (tN_pos hv) (by have := tN_le hv; omega))

set_option maxRecDepth 20000 in
theorem hi_X1_zoneOf_X1 : ∀ w ∈ wsX10, w ∈ wsX1_zoneOf := by
  intro w h
  unfold wsX1_zoneOf
  simp only [List.mem_cons, List.mem_append, h, or_true, true_or]
theorem nd_X1_zoneOf : okName yX1_zoneOf 1 := by decide +kernel
set_option maxHeartbeats 4000000 in
set_option maxRecDepth 100000 in
theorem k_X1_zoneOf (l : Launch) (D : va_G) (cI cZ : ClassId) (aM : Nat) (Q : Nat) (P : Nat) (M : Nat) (Wd : Nat) (k : Nat) (hv : MV Q P M Wd) (hk : k < 1000) : RO l yX1_zoneOf wsX1_zoneOf ({ frames := 2, cells := 0, slots := 0, locals := 43 } : Room) D cI cZ [(aM, .inr (1, [.int (nI Q), .int (nI P), .int (nI M), .int (nI Wd), .int (nI (tT Q P)), .int (nI (tN Q P))]))] [.ref aM, .int (nI k)] (nI (zn Q P M k)) := by
  refine ro_start (by decide) rfl (Nat.le_of_ble_eq_true rfl) ?_
  intro p e s m args below meth c hx hb hr hml hlocks hts hown hT hP ls hl
  have hown : s.vm.findClass RX1 = some m.cls := hown
  have hl : lv_has ls 2 [(0, .ref aM), (1, .int (nI k))] := hl
  refine lv_iconst (v := 2) hx hb dX1_zoneOf_0 (by decide) ?_
  refine lv_aload_n hx hb dX1_zoneOf_1 rfl (lv_at hl 0 rfl) ?_
  refine va_get (D := D) (ci := 1) (v := .int (nI M)) (C := RX1) (T := TX1) (N := 6) hx hb hts hi_X1_zoneOf_X1 hown hT.1 hP 0 rfl rfl 2 (by decide) (hts (.fieldLink RX1 16 "SlotStar$Machine" "phases" "I") (List.mem_of_getElem? (i := 1) rfl)) (fun _ h9 => h9) rfl dX1_zoneOf_2 ?_
  refine lv_imul hx hb dX1_zoneOf_5 ?_
  refine lv_aload_n hx hb dX1_zoneOf_6 rfl (lv_at hl 0 rfl) ?_
  refine lv_iload_n hx hb dX1_zoneOf_7 rfl (lv_at hl 1 rfl) ?_
  refine ro_V (As := [.int (nI k)]) (rest := [.int (2 * (nI M))]) ⟨hx, hb, hml, hown, hts⟩ hT hP (k_X1_turnOf l D cI cZ aM Q P M Wd k hv hk) gX1_zoneOf_X1_turnOf rfl rfl nd_X1_turnOf [0] rfl (ci := 1) rfl rfl (q0 := 0) rfl hl.1 rfl rfl (Nat.le_of_ble_eq_true rfl) ⟨Nat.le_of_ble_eq_true rfl, Nat.le_of_ble_eq_true rfl⟩ ⟨rfl, rfl⟩ ⟨Nat.zero_le _, Nat.zero_le _⟩ dX1_zoneOf_8 ?_
  refine lv_imul hx hb dX1_zoneOf_11 ?_
  refine lv_aload_n hx hb dX1_zoneOf_12 rfl (lv_at hl 0 rfl) ?_
  refine va_get (D := D) (ci := 1) (v := .int (nI (tN Q P))) (C := RX1) (T := TX1) (N := 6) hx hb hts hi_X1_zoneOf_X1 hown hT.1 hP 0 rfl rfl 5 (by decide) (hts (.fieldLink RX1 34 "SlotStar$Machine" "turns" "I") (List.mem_of_getElem? (i := 2) rfl)) (fun _ h9 => h9) rfl dX1_zoneOf_13 ?_
  refine ro_N (As := [.int ((2 * (nI M)) * (nI (tn Q P k))), .int (nI (tN Q P))]) (rest := []) ⟨hx, hb, hml, hown, hts⟩ hT hP (k_X3_cut l D cI cZ ((2 * (nI M)) * (nI (tn Q P k))) (nI (tN Q P))) (List.mem_of_getElem? (i := 4) rfl) gX1_zoneOf_X3_cut_n31 (hts (.initialized RX3) (List.mem_of_getElem? (i := 12) rfl)) (hts (.static yX3_cut) (List.mem_of_getElem? (i := 14) rfl)) rfl nd_X3_cut [] rfl hl.1 rfl rfl (Nat.le_of_ble_eq_true rfl) ⟨Nat.le_of_ble_eq_true rfl, Nat.le_of_ble_eq_true rfl⟩ ⟨rfl, rfl⟩ ⟨Nat.zero_le _, Nat.zero_le _⟩ dX1_zoneOf_16 ?_
  exact ro_ret hx hb hr hlocks dX1_zoneOf_19 (by exact j_zone hv)

theorem nd_X1_isForward : okName yX1_isForward 1 := by decide +kernel
set_option maxHeartbeats 4000000 in
set_option maxRecDepth 100000 in
theorem k_X1_isForward (l : Launch) (D : va_G) (cI cZ : ClassId) (aM : Nat) (Q : Nat) (P : Nat) (M : Nat) (Wd : Nat) (k : Nat) (hv : MV Q P M Wd) (hk : k < 1000) : RO l yX1_isForward wsX1_isForward ({ frames := 3, cells := 0, slots := 0, locals := 64 } : Room) D cI cZ [(aM, .inr (1, [.int (nI Q), .int (nI P), .int (nI M), .int (nI Wd), .int (nI (tT Q P)), .int (nI (tN Q P))]))] [.ref aM, .int (nI k)] (fwd Q P M k) := by
  refine ro_start (by decide) rfl (Nat.le_of_ble_eq_true rfl) ?_
  intro p e s m args below meth c hx hb hr hml hlocks hts hown hT hP ls hl
  have hown : s.vm.findClass RX1 = some m.cls := hown
  have hl : lv_has ls 2 [(0, .ref aM), (1, .int (nI k))] := hl
  refine lv_aload_n hx hb dX1_isForward_0 rfl (lv_at hl 0 rfl) ?_
  refine lv_iload_n hx hb dX1_isForward_1 rfl (lv_at hl 1 rfl) ?_
  refine ro_V (As := [.int (nI k)]) (rest := []) ⟨hx, hb, hml, hown, hts⟩ hT hP (k_X1_zoneOf l D cI cZ aM Q P M Wd k hv hk) gX1_isForward_X1_zoneOf rfl rfl nd_X1_zoneOf [0] rfl (ci := 1) rfl rfl (q0 := 0) rfl hl.1 rfl rfl (Nat.le_of_ble_eq_true rfl) ⟨Nat.le_of_ble_eq_true rfl, Nat.le_of_ble_eq_true rfl⟩ ⟨rfl, rfl⟩ ⟨Nat.zero_le _, Nat.zero_le _⟩ dX1_isForward_2 ?_
  refine lv_iconst (v := 2) hx hb dX1_isForward_5 (by decide) ?_
  refine ro_N (As := [.int (nI (zn Q P M k)), .int 2]) (rest := []) ⟨hx, hb, hml, hown, hts⟩ hT hP (k_X3_leftOver l D cI cZ (nI (zn Q P M k)) 2) (List.mem_of_getElem? (i := 5) rfl) gX1_isForward_X3_leftOver_n41 (hts (.initialized RX3) (List.mem_of_getElem? (i := 16) rfl)) (hts (.static yX3_leftOver) (List.mem_of_getElem? (i := 15) rfl)) rfl nd_X3_leftOver [] rfl hl.1 rfl rfl (Nat.le_of_ble_eq_true rfl) ⟨Nat.le_of_ble_eq_true rfl, Nat.le_of_ble_eq_true rfl⟩ ⟨rfl, rfl⟩ ⟨Nat.zero_le _, Nat.zero_le _⟩ dX1_isForward_6 ?_
  refine lv_if_ne (tgt := 16) hx hb dX1_isForward_9 (by decide) (fun c_1 => ?_) (fun c_1 => ?_)
  · skip
    refine lv_iconst (v := 0) hx hb dX1_isForward_16 (by decide) ?_
    exact ro_retz hx hb hr hlocks dX1_isForward_17 (by first | exact j_fwd1 hv c_1 | exact j_fwd0 hv c_1) (by exact fwd01 _ _ _ _)
  · skip
    refine lv_iconst (v := 1) hx hb dX1_isForward_12 (by decide) ?_
    refine lv_goto (tgt := 17) hx hb dX1_isForward_13 (by decide) ?_
    exact ro_retz hx hb hr hlocks dX1_isForward_17 (by first | exact j_fwd1 hv c_1 | exact j_fwd0 hv c_1) (by exact fwd01 _ _ _ _)

set_option maxRecDepth 20000 in
theorem hi_X1_phaseOf_X1 : ∀ w ∈ wsX10, w ∈ wsX1_phaseOf := by
  intro w h
  unfold wsX1_phaseOf
  simp only [List.mem_cons, List.mem_append, h, or_true, true_or]
theorem nd_X1_phaseOf : okName yX1_phaseOf 1 := by decide +kernel
set_option maxHeartbeats 4000000 in
set_option maxRecDepth 100000 in
theorem k_X1_phaseOf (l : Launch) (D : va_G) (cI cZ : ClassId) (aM : Nat) (Q : Nat) (P : Nat) (M : Nat) (Wd : Nat) (k : Nat) (hv : MV Q P M Wd) (hk : k < 1000) : RO l yX1_phaseOf wsX1_phaseOf ({ frames := 3, cells := 0, slots := 0, locals := 64 } : Room) D cI cZ [(aM, .inr (1, [.int (nI Q), .int (nI P), .int (nI M), .int (nI Wd), .int (nI (tT Q P)), .int (nI (tN Q P))]))] [.ref aM, .int (nI k)] (nI (ph Q P M k)) := by
  refine ro_start (by decide) rfl (Nat.le_of_ble_eq_true rfl) ?_
  intro p e s m args below meth c hx hb hr hml hlocks hts hown hT hP ls hl
  have hown : s.vm.findClass RX1 = some m.cls := hown
  have hl : lv_has ls 3 [(0, .ref aM), (1, .int (nI k))] := hl
  refine lv_aload_n hx hb dX1_phaseOf_0 rfl (lv_at hl 0 rfl) ?_
  refine lv_iload_n hx hb dX1_phaseOf_1 rfl (lv_at hl 1 rfl) ?_
  refine ro_V (As := [.int (nI k)]) (rest := []) ⟨hx, hb, hml, hown, hts⟩ hT hP (k_X1_zoneOf l D cI cZ aM Q P M Wd k hv hk) gX1_phaseOf_X1_zoneOf rfl rfl nd_X1_zoneOf [0] rfl (ci := 1) rfl rfl (q0 := 0) rfl hl.1 rfl rfl (Nat.le_of_ble_eq_true rfl) ⟨Nat.le_of_ble_eq_true rfl, Nat.le_of_ble_eq_true rfl⟩ ⟨rfl, rfl⟩ ⟨Nat.zero_le _, Nat.zero_le _⟩ dX1_phaseOf_2 ?_
  refine lv_istore_n (lv' := [(2, .int (nI (zn Q P M k))), (0, .ref aM), (1, .int (nI k))]) hx hb dX1_phaseOf_5 rfl hl (by decide) rfl (fun ls hl => ?_)
  refine lv_iload_n hx hb dX1_phaseOf_6 rfl (lv_at hl 0 rfl) ?_
  refine lv_iconst (v := 2) hx hb dX1_phaseOf_7 (by decide) ?_
  refine ro_N (As := [.int (nI (zn Q P M k)), .int 2]) (rest := []) ⟨hx, hb, hml, hown, hts⟩ hT hP (k_X3_leftOver l D cI cZ (nI (zn Q P M k)) 2) (List.mem_of_getElem? (i := 5) rfl) gX1_phaseOf_X3_leftOver_n41 (hts (.initialized RX3) (List.mem_of_getElem? (i := 16) rfl)) (hts (.static yX3_leftOver) (List.mem_of_getElem? (i := 15) rfl)) rfl nd_X3_leftOver [] rfl hl.1 rfl rfl (Nat.le_of_ble_eq_true rfl) ⟨Nat.le_of_ble_eq_true rfl, Nat.le_of_ble_eq_true rfl⟩ ⟨rfl, rfl⟩ ⟨Nat.zero_le _, Nat.zero_le _⟩ dX1_phaseOf_8 ?_
  refine lv_if_ne (tgt := 22) hx hb dX1_phaseOf_11 (by decide) (fun c_1 => ?_) (fun c_1 => ?_)
  · skip
    refine lv_iload_n hx hb dX1_phaseOf_22 rfl (lv_at hl 0 rfl) ?_
    refine lv_aload_n hx hb dX1_phaseOf_23 rfl (lv_at hl 1 rfl) ?_
    refine va_get (D := D) (ci := 1) (v := .int (nI M)) (C := RX1) (T := TX1) (N := 6) hx hb hts hi_X1_phaseOf_X1 hown hT.1 hP 0 rfl rfl 2 (by decide) (hts (.fieldLink RX1 16 "SlotStar$Machine" "phases" "I") (List.mem_of_getElem? (i := 1) rfl)) (fun _ h9 => h9) rfl dX1_phaseOf_24 ?_
    refine lv_iadd hx hb dX1_phaseOf_27 ?_
    refine lv_iconst (v := 2) hx hb dX1_phaseOf_28 (by decide) ?_
    refine ro_N (As := [.int ((nI (zn Q P M k)) + (nI M)), .int 2]) (rest := []) ⟨hx, hb, hml, hown, hts⟩ hT hP (k_X3_cut l D cI cZ ((nI (zn Q P M k)) + (nI M)) 2) (List.mem_of_getElem? (i := 4) rfl) gX1_phaseOf_X3_cut_n31 (hts (.initialized RX3) (List.mem_of_getElem? (i := 16) rfl)) (hts (.static yX3_cut) (List.mem_of_getElem? (i := 18) rfl)) rfl nd_X3_cut [] rfl hl.1 rfl rfl (Nat.le_of_ble_eq_true rfl) ⟨Nat.le_of_ble_eq_true rfl, Nat.le_of_ble_eq_true rfl⟩ ⟨rfl, rfl⟩ ⟨Nat.zero_le _, Nat.zero_le _⟩ dX1_phaseOf_29 ?_
    refine lv_aload_n hx hb dX1_phaseOf_32 rfl (lv_at hl 1 rfl) ?_
    refine va_get (D := D) (ci := 1) (v := .int (nI M)) (C := RX1) (T := TX1) (N := 6) hx hb hts hi_X1_phaseOf_X1 hown hT.1 hP 0 rfl rfl 2 (by decide) (hts (.fieldLink RX1 16 "SlotStar$Machine" "phases" "I") (List.mem_of_getElem? (i := 1) rfl)) (fun _ h9 => h9) rfl dX1_phaseOf_33 ?_
    refine ro_N (As := [.int (jCut ((nI (zn Q P M k)) + (nI M)) 2), .int (nI M)]) (rest := []) ⟨hx, hb, hml, hown, hts⟩ hT hP (k_X3_leftOver l D cI cZ (jCut ((nI (zn Q P M k)) + (nI M)) 2) (nI M)) (List.mem_of_getElem? (i := 5) rfl) gX1_phaseOf_X3_leftOver_n41 (hts (.initialized RX3) (List.mem_of_getElem? (i := 16) rfl)) (hts (.static yX3_leftOver) (List.mem_of_getElem? (i := 15) rfl)) rfl nd_X3_leftOver [] rfl hl.1 rfl rfl (Nat.le_of_ble_eq_true rfl) ⟨Nat.le_of_ble_eq_true rfl, Nat.le_of_ble_eq_true rfl⟩ ⟨rfl, rfl⟩ ⟨Nat.zero_le _, Nat.zero_le _⟩ dX1_phaseOf_36 ?_
    exact ro_ret hx hb hr hlocks dX1_phaseOf_39 (by first | exact j_ph0 hv c_1 | exact j_ph1 hv c_1)
  · skip
    refine lv_iload_n hx hb dX1_phaseOf_14 rfl (lv_at hl 0 rfl) ?_
    refine lv_iconst (v := 2) hx hb dX1_phaseOf_15 (by decide) ?_
    refine ro_N (As := [.int (nI (zn Q P M k)), .int 2]) (rest := []) ⟨hx, hb, hml, hown, hts⟩ hT hP (k_X3_cut l D cI cZ (nI (zn Q P M k)) 2) (List.mem_of_getElem? (i := 4) rfl) gX1_phaseOf_X3_cut_n31 (hts (.initialized RX3) (List.mem_of_getElem? (i := 16) rfl)) (hts (.static yX3_cut) (List.mem_of_getElem? (i := 18) rfl)) rfl nd_X3_cut [] rfl hl.1 rfl rfl (Nat.le_of_ble_eq_true rfl) ⟨Nat.le_of_ble_eq_true rfl, Nat.le_of_ble_eq_true rfl⟩ ⟨rfl, rfl⟩ ⟨Nat.zero_le _, Nat.zero_le _⟩ dX1_phaseOf_16 ?_
    refine lv_goto (tgt := 39) hx hb dX1_phaseOf_19 (by decide) ?_
    exact ro_ret hx hb hr hlocks dX1_phaseOf_39 (by first | exact j_ph0 hv c_1 | exact j_ph1 hv c_1)

set_option maxRecDepth 20000 in
theorem hi_X1_endOf_X1 : ∀ w ∈ wsX10, w ∈ wsX1_endOf := by
  intro w h
  unfold wsX1_endOf
  simp only [List.mem_cons, List.mem_append, h, or_true, true_or]
theorem nd_X1_endOf : okName yX1_endOf 2 := by decide +kernel
set_option maxHeartbeats 4000000 in
set_option maxRecDepth 100000 in
theorem k_X1_endOf (l : Launch) (D : va_G) (cI cZ : ClassId) (aM : Nat) (Q : Nat) (P : Nat) (M : Nat) (Wd : Nat) (k : Nat) (w : Nat) (hv : MV Q P M Wd) (hk : k < 1000) (hw : w < 1000) : RO l yX1_endOf wsX1_endOf ({ frames := 1, cells := 0, slots := 0, locals := 22 } : Room) D cI cZ [(aM, .inr (1, [.int (nI Q), .int (nI P), .int (nI M), .int (nI Wd), .int (nI (tT Q P)), .int (nI (tN Q P))]))] [.ref aM, .int (nI k), .int (nI w)] (nI (en Q k w)) := by
  refine ro_start (by decide) rfl (Nat.le_of_ble_eq_true rfl) ?_
  intro p e s m args below meth c hx hb hr hml hlocks hts hown hT hP ls hl
  have hown : s.vm.findClass RX1 = some m.cls := hown
  have hl : lv_has ls 3 [(0, .ref aM), (1, .int (nI k)), (2, .int (nI w))] := hl
  refine lv_iload_n hx hb dX1_endOf_0 rfl (lv_at hl 1 rfl) ?_
  refine lv_iload_n hx hb dX1_endOf_1 rfl (lv_at hl 2 rfl) ?_
  refine lv_iadd hx hb dX1_endOf_2 ?_
  refine lv_aload_n hx hb dX1_endOf_3 rfl (lv_at hl 0 rfl) ?_
  refine va_get (D := D) (ci := 1) (v := .int (nI Q)) (C := RX1) (T := TX1) (N := 6) hx hb hts hi_X1_endOf_X1 hown hT.1 hP 0 rfl rfl 0 (by decide) (hts (.fieldLink RX1 7 "SlotStar$Machine" "slots" "I") (List.mem_of_getElem? (i := 1) rfl)) (fun _ h9 => h9) rfl dX1_endOf_4 ?_
  refine ro_N (As := [.int ((nI k) + (nI w)), .int (nI Q)]) (rest := []) ⟨hx, hb, hml, hown, hts⟩ hT hP (k_X3_leftOver l D cI cZ ((nI k) + (nI w)) (nI Q)) (List.mem_of_getElem? (i := 5) rfl) gX1_endOf_X3_leftOver_n41 (hts (.initialized RX3) (List.mem_of_getElem? (i := 3) rfl)) (hts (.static yX3_leftOver) (List.mem_of_getElem? (i := 2) rfl)) rfl nd_X3_leftOver [] rfl hl.1 rfl rfl (Nat.le_of_ble_eq_true rfl) ⟨Nat.le_of_ble_eq_true rfl, Nat.le_of_ble_eq_true rfl⟩ ⟨rfl, rfl⟩ ⟨Nat.zero_le _, Nat.zero_le _⟩ dX1_endOf_7 ?_
  exact ro_ret hx hb hr hlocks dX1_endOf_10 (by exact j_en hv hk hw)

set_option maxRecDepth 20000 in
theorem hi_X1_coilEndingIn_X1 : ∀ w ∈ wsX10, w ∈ wsX1_coilEndingIn := by
  intro w h
  unfold wsX1_coilEndingIn
  simp only [List.mem_cons, List.mem_append, h, or_true, true_or]
theorem nd_X1_coilEndingIn : okName yX1_coilEndingIn 1 := by decide +kernel
set_option maxHeartbeats 4000000 in
set_option maxRecDepth 100000 in
theorem k_X1_coilEndingIn (l : Launch) (D : va_G) (cI cZ : ClassId) (aM : Nat) (Q : Nat) (P : Nat) (M : Nat) (Wd : Nat) (k : Nat) (hv : MV Q P M Wd) (hk : k < Q) : RO l yX1_coilEndingIn wsX1_coilEndingIn ({ frames := 1, cells := 0, slots := 0, locals := 22 } : Room) D cI cZ [(aM, .inr (1, [.int (nI Q), .int (nI P), .int (nI M), .int (nI Wd), .int (nI (tT Q P)), .int (nI (tN Q P))]))] [.ref aM, .int (nI k)] (nI (be Q Wd k)) := by
  refine ro_start (by decide) rfl (Nat.le_of_ble_eq_true rfl) ?_
  intro p e s m args below meth c hx hb hr hml hlocks hts hown hT hP ls hl
  have hown : s.vm.findClass RX1 = some m.cls := hown
  have hl : lv_has ls 2 [(0, .ref aM), (1, .int (nI k))] := hl
  refine lv_iload_n hx hb dX1_coilEndingIn_0 rfl (lv_at hl 1 rfl) ?_
  refine lv_aload_n hx hb dX1_coilEndingIn_1 rfl (lv_at hl 0 rfl) ?_
  refine va_get (D := D) (ci := 1) (v := .int (nI Wd)) (C := RX1) (T := TX1) (N := 6) hx hb hts hi_X1_coilEndingIn_X1 hown hT.1 hP 0 rfl rfl 3 (by decide) (hts (.fieldLink RX1 19 "SlotStar$Machine" "width" "I") (List.mem_of_getElem? (i := 1) rfl)) (fun _ h9 => h9) rfl dX1_coilEndingIn_2 ?_
  refine lv_isub hx hb dX1_coilEndingIn_5 ?_
  refine lv_aload_n hx hb dX1_coilEndingIn_6 rfl (lv_at hl 0 rfl) ?_
  refine va_get (D := D) (ci := 1) (v := .int (nI Q)) (C := RX1) (T := TX1) (N := 6) hx hb hts hi_X1_coilEndingIn_X1 hown hT.1 hP 0 rfl rfl 0 (by decide) (hts (.fieldLink RX1 7 "SlotStar$Machine" "slots" "I") (List.mem_of_getElem? (i := 2) rfl)) (fun _ h9 => h9) rfl dX1_coilEndingIn_7 ?_
  refine ro_N (As := [.int ((nI k) - (nI Wd)), .int (nI Q)]) (rest := []) ⟨hx, hb, hml, hown, hts⟩ hT hP (k_X3_leftOver l D cI cZ ((nI k) - (nI Wd)) (nI Q)) (List.mem_of_getElem? (i := 5) rfl) gX1_coilEndingIn_X3_leftOver_n41 (hts (.initialized RX3) (List.mem_of_getElem? (i := 4) rfl)) (hts (.static yX3_leftOver) (List.mem_of_getElem? (i := 3) rfl)) rfl nd_X3_leftOver [] rfl hl.1 rfl rfl (Nat.le_of_ble_eq_true rfl) ⟨Nat.le_of_ble_eq_true rfl, Nat.le_of_ble_eq_true rfl⟩ ⟨rfl, rfl⟩ ⟨Nat.zero_le _, Nat.zero_le _⟩ dX1_coilEndingIn_10 ?_
  exact ro_ret hx hb hr hlocks dX1_coilEndingIn_13 (by exact j_be hv hk)

set_option maxRecDepth 20000 in
theorem hi_X1_lackingDivisor_X1 : ∀ w ∈ wsX10, w ∈ wsX1_lackingDivisor := by
  intro w h
  unfold wsX1_lackingDivisor
  simp only [List.mem_cons, List.mem_append, h, or_true, true_or]
theorem nd_X1_lackingDivisor : okName yX1_lackingDivisor 0 := by decide +kernel
set_option maxHeartbeats 4000000 in
set_option maxRecDepth 100000 in
theorem k_X1_lackingDivisor (l : Launch) (D : va_G) (cI cZ : ClassId) (aM : Nat) (Q : Nat) (P : Nat) (M : Nat) (Wd : Nat) (hv : MV Q P M Wd) : RO l yX1_lackingDivisor wsX1_lackingDivisor ({ frames := 2, cells := 0, slots := 0, locals := 44 } : Room) D cI cZ [(aM, .inr (1, [.int (nI Q), .int (nI P), .int (nI M), .int (nI Wd), .int (nI (tT Q P)), .int (nI (tN Q P))]))] [.ref aM] (nI (lck Q P M)) := by
  refine ro_start (by decide) rfl (Nat.le_of_ble_eq_true rfl) ?_
  intro p e s m args below meth c hx hb hr hml hlocks hts hown hT hP ls hl
  have hown : s.vm.findClass RX1 = some m.cls := hown
  have hl : lv_has ls 1 [(0, .ref aM)] := hl
  refine lv_aload_n hx hb dX1_lackingDivisor_0 rfl (lv_at hl 0 rfl) ?_
  refine va_get (D := D) (ci := 1) (v := .int (nI M)) (C := RX1) (T := TX1) (N := 6) hx hb hts hi_X1_lackingDivisor_X1 hown hT.1 hP 0 rfl rfl 2 (by decide) (hts (.fieldLink RX1 16 "SlotStar$Machine" "phases" "I") (List.mem_of_getElem? (i := 1) rfl)) (fun _ h9 => h9) rfl dX1_lackingDivisor_1 ?_
  refine lv_aload_n hx hb dX1_lackingDivisor_4 rfl (lv_at hl 0 rfl) ?_
  refine va_get (D := D) (ci := 1) (v := .int (nI (tN Q P))) (C := RX1) (T := TX1) (N := 6) hx hb hts hi_X1_lackingDivisor_X1 hown hT.1 hP 0 rfl rfl 5 (by decide) (hts (.fieldLink RX1 34 "SlotStar$Machine" "turns" "I") (List.mem_of_getElem? (i := 2) rfl)) (fun _ h9 => h9) rfl dX1_lackingDivisor_5 ?_
  refine lv_aload_n hx hb dX1_lackingDivisor_8 rfl (lv_at hl 0 rfl) ?_
  refine va_get (D := D) (ci := 1) (v := .int (nI M)) (C := RX1) (T := TX1) (N := 6) hx hb hts hi_X1_lackingDivisor_X1 hown hT.1 hP 0 rfl rfl 2 (by decide) (hts (.fieldLink RX1 16 "SlotStar$Machine" "phases" "I") (List.mem_of_getElem? (i := 1) rfl)) (fun _ h9 => h9) rfl dX1_lackingDivisor_9 ?_
  refine ro_N (As := [.int (nI (tN Q P)), .int (nI M)]) (rest := [.int (nI M)]) ⟨hx, hb, hml, hown, hts⟩ hT hP (k_X3_commonDivisor l D cI cZ (nI (tN Q P)) (nI M)) (List.mem_of_getElem? (i := 3) rfl) gX1_lackingDivisor_X3_commonDivisor_n22 (hts (.initialized RX3) (List.mem_of_getElem? (i := 4) rfl)) (hts (.static yX3_commonDivisor) (List.mem_of_getElem? (i := 3) rfl)) rfl nd_X3_commonDivisor [] rfl hl.1 rfl rfl (Nat.le_of_ble_eq_true rfl) ⟨Nat.le_of_ble_eq_true rfl, Nat.le_of_ble_eq_true rfl⟩ ⟨rfl, rfl⟩ ⟨Nat.zero_le _, Nat.zero_le _⟩ dX1_lackingDivisor_12 ?_
  refine ro_N (As := [.int (nI M), .int (jCD (nI (tN Q P)) (nI M))]) (rest := []) ⟨hx, hb, hml, hown, hts⟩ hT hP (k_X3_cut l D cI cZ (nI M) (jCD (nI (tN Q P)) (nI M))) (List.mem_of_getElem? (i := 4) rfl) gX1_lackingDivisor_X3_cut_n31 (hts (.initialized RX3) (List.mem_of_getElem? (i := 4) rfl)) (hts (.static yX3_cut) (List.mem_of_getElem? (i := 13) rfl)) rfl nd_X3_cut [] rfl hl.1 rfl rfl (Nat.le_of_ble_eq_true rfl) ⟨Nat.le_of_ble_eq_true rfl, Nat.le_of_ble_eq_true rfl⟩ ⟨rfl, rfl⟩ ⟨Nat.zero_le _, Nat.zero_le _⟩ dX1_lackingDivisor_15 ?_
  exact ro_ret hx hb hr hlocks dX1_lackingDivisor_18 (by exact j_lck hv)

theorem nd_X1_isBalanced : okName yX1_isBalanced 0 := by decide +kernel
set_option maxHeartbeats 4000000 in
set_option maxRecDepth 100000 in
theorem k_X1_isBalanced (l : Launch) (D : va_G) (cI cZ : ClassId) (aM : Nat) (Q : Nat) (P : Nat) (M : Nat) (Wd : Nat) (hv : MV Q P M Wd) : RO l yX1_isBalanced wsX1_isBalanced ({ frames := 3, cells := 0, slots := 0, locals := 64 } : Room) D cI cZ [(aM, .inr (1, [.int (nI Q), .int (nI P), .int (nI M), .int (nI Wd), .int (nI (tT Q P)), .int (nI (tN Q P))]))] [.ref aM] (bal Q P M) := by
  refine ro_start (by decide) rfl (Nat.le_of_ble_eq_true rfl) ?_
  intro p e s m args below meth c hx hb hr hml hlocks hts hown hT hP ls hl
  have hown : s.vm.findClass RX1 = some m.cls := hown
  have hl : lv_has ls 1 [(0, .ref aM)] := hl
  refine lv_aload_n hx hb dX1_isBalanced_0 rfl (lv_at hl 0 rfl) ?_
  refine ro_V (As := []) (rest := []) ⟨hx, hb, hml, hown, hts⟩ hT hP (k_X1_lackingDivisor l D cI cZ aM Q P M Wd hv) gX1_isBalanced_X1_lackingDivisor rfl rfl nd_X1_lackingDivisor [0] rfl (ci := 1) rfl rfl (q0 := 0) rfl hl.1 rfl rfl (Nat.le_of_ble_eq_true rfl) ⟨Nat.le_of_ble_eq_true rfl, Nat.le_of_ble_eq_true rfl⟩ ⟨rfl, rfl⟩ ⟨Nat.zero_le _, Nat.zero_le _⟩ dX1_isBalanced_1 ?_
  refine lv_iconst (v := 1) hx hb dX1_isBalanced_4 (by decide) ?_
  refine lv_icmp_ne (tgt := 12) hx hb dX1_isBalanced_5 (by decide) (fun c_1 => ?_) (fun c_1 => ?_)
  · skip
    refine lv_iconst (v := 0) hx hb dX1_isBalanced_12 (by decide) ?_
    exact ro_retz hx hb hr hlocks dX1_isBalanced_13 (by first | exact j_bal hv c_1 | exact j_nbal hv c_1) (by exact bal01 _ _ _)
  · skip
    refine lv_iconst (v := 1) hx hb dX1_isBalanced_8 (by decide) ?_
    refine lv_goto (tgt := 13) hx hb dX1_isBalanced_9 (by decide) ?_
    exact ro_retz hx hb hr hlocks dX1_isBalanced_13 (by first | exact j_bal hv c_1 | exact j_nbal hv c_1) (by exact bal01 _ _ _)

set_option maxRecDepth 20000 in
theorem hi_X1_countSides_X1 : ∀ w ∈ wsX10, w ∈ wsX1_countSides := by
  intro w h
  unfold wsX1_countSides
  simp only [List.mem_cons, List.mem_append, h, or_true, true_or]
theorem nd_X1_countSides : okName yX1_countSides 2 := by decide +kernel
set_option maxHeartbeats 4000000 in
set_option maxRecDepth 100000 in
theorem k_X1_countSides (l : Launch) (D : va_G) (cI cZ : ClassId) (aM : Nat) (Q : Nat) (P : Nat) (M : Nat) (Wd : Nat) (a : Int32) (b : Int32) (hv : MV Q P M Wd) : RO l yX1_countSides wsX1_countSides ({ frames := 4, cells := 0, slots := 0, locals := 86 } : Room) D cI cZ [(aM, .inr (1, [.int (nI Q), .int (nI P), .int (nI M), .int (nI Wd), .int (nI (tT Q P)), .int (nI (tN Q P))]))] [.ref aM, .int a, .int b] (csL Q P M a b Q 0 0) := by
  refine ro_start (by decide) rfl (Nat.le_of_ble_eq_true rfl) ?_
  intro p e s m args below meth c hx hb hr hml hlocks hts hown hT hP ls hl
  have hown : s.vm.findClass RX1 = some m.cls := hown
  have hl : lv_has ls 5 [(0, .ref aM), (1, .int a), (2, .int b)] := hl
  have hv' := hv
  unfold MV at hv'
  refine lv_iconst (v := 0) hx hb dX1_countSides_0 (by decide) ?_
  refine lv_istore_n (lv' := [(3, .int 0), (0, .ref aM), (1, .int a), (2, .int b)]) hx hb dX1_countSides_1 rfl hl (by decide) rfl (fun ls hl => ?_)
  refine lv_iconst (v := 0) hx hb dX1_countSides_2 (by decide) ?_
  refine lv_istore (lv' := [(4, .int 0), (3, .int 0), (0, .ref aM), (1, .int a), (2, .int b)]) hx hb dX1_countSides_3 hl (by decide) rfl (fun ls hl => ?_)
  have L_5 : ∀ (f : Nat) (i : Nat) (n : Int32), i + f = Q → csL Q P M a b Q 0 0 = csL Q P M a b f i n → ∀ ls : Array Slot, lv_has ls 5 [(0, .ref aM), (1, .int a), (2, .int b), (3, .int n), (4, .int (nI i))] → W p l e (headSpec wsX1_countSides ({ frames := 4, cells := 0, slots := 0, locals := 86 } : Room)).room s m args below meth c s.heap [] 0 0 (MQ below (QcRead (csL Q P M a b Q 0 0)) args s 0 0 (fun _ => False)) (F0 m 5 ls []) := by
    intro f
    induction f with
    | zero =>
      intro i n h1 h2 ls hl
      refine lv_iload hx hb dX1_countSides_5 (lv_at hl 4 rfl) ?_
      refine lv_aload_n hx hb dX1_countSides_7 rfl (lv_at hl 0 rfl) ?_
      refine va_get (D := D) (ci := 1) (v := .int (nI Q)) (C := RX1) (T := TX1) (N := 6) hx hb hts hi_X1_countSides_X1 hown hT.1 hP 0 rfl rfl 0 (by decide) (hts (.fieldLink RX1 7 "SlotStar$Machine" "slots" "I") (List.mem_of_getElem? (i := 1) rfl)) (fun _ h9 => h9) rfl dX1_countSides_8 ?_
      refine lv_icmp_ge (tgt := 43) hx hb dX1_countSides_11 (by decide) (fun c_1 => ?_) (fun c_1 => ?_)
      · skip
        refine lv_iload_n hx hb dX1_countSides_43 rfl (lv_at hl 3 rfl) ?_
        exact ro_ret hx hb hr hlocks dX1_countSides_44 (by rw [h2]; rfl)
      · exfalso; exact c_1 (nI_le (by omega) (by omega))
    | succ f ih_5 =>
      intro i n h1 h2 ls hl
      refine lv_iload hx hb dX1_countSides_5 (lv_at hl 4 rfl) ?_
      refine lv_aload_n hx hb dX1_countSides_7 rfl (lv_at hl 0 rfl) ?_
      refine va_get (D := D) (ci := 1) (v := .int (nI Q)) (C := RX1) (T := TX1) (N := 6) hx hb hts hi_X1_countSides_X1 hown hT.1 hP 0 rfl rfl 0 (by decide) (hts (.fieldLink RX1 7 "SlotStar$Machine" "slots" "I") (List.mem_of_getElem? (i := 1) rfl)) (fun _ h9 => h9) rfl dX1_countSides_8 ?_
      refine lv_icmp_ge (tgt := 43) hx hb dX1_countSides_11 (by decide) (fun c_2 => ?_) (fun c_2 => ?_)
      · exfalso; exact nI_ge (show i < Q by omega) (by omega) c_2
      · skip
        refine lv_aload_n hx hb dX1_countSides_14 rfl (lv_at hl 0 rfl) ?_
        refine lv_iload hx hb dX1_countSides_15 (lv_at hl 4 rfl) ?_
        refine ro_V (As := [.int (nI i)]) (rest := []) ⟨hx, hb, hml, hown, hts⟩ hT hP (k_X1_phaseOf l D cI cZ aM Q P M Wd i hv (by omega)) gX1_countSides_X1_phaseOf rfl rfl nd_X1_phaseOf [0] rfl (ci := 1) rfl rfl (q0 := 0) rfl hl.1 rfl rfl (Nat.le_of_ble_eq_true rfl) ⟨Nat.le_of_ble_eq_true rfl, Nat.le_of_ble_eq_true rfl⟩ ⟨rfl, rfl⟩ ⟨Nat.zero_le _, Nat.zero_le _⟩ dX1_countSides_17 ?_
        refine lv_iload_n hx hb dX1_countSides_20 rfl (lv_at hl 1 rfl) ?_
        refine lv_icmp_ne (tgt := 37) hx hb dX1_countSides_21 (by decide) (fun c_3 => ?_) (fun c_3 => ?_)
        · skip
          refine lv_iinc (v := nI (i + 1)) (lv' := [(4, .int (nI (i + 1))), (0, .ref aM), (1, .int a), (2, .int b), (3, .int n)]) hx hb dX1_countSides_37 hl (k := 4) rfl ((nI_succ i).symm) (by decide) rfl (fun ls hl => ?_)
          refine lv_goto (tgt := 5) hx hb dX1_countSides_40 (by decide) ?_
          exact ih_5 (i + 1) n (by omega) (by rw [h2]; simp [csL, c_2, c_3]) ls (lv_sub hl [1, 2, 3, 4, 0] rfl)
        · skip
          refine lv_aload_n hx hb dX1_countSides_24 rfl (lv_at hl 0 rfl) ?_
          refine lv_iload hx hb dX1_countSides_25 (lv_at hl 4 rfl) ?_
          refine ro_V (As := [.int (nI i)]) (rest := []) ⟨hx, hb, hml, hown, hts⟩ hT hP (k_X1_isForward l D cI cZ aM Q P M Wd i hv (by omega)) gX1_countSides_X1_isForward rfl rfl nd_X1_isForward [0] rfl (ci := 1) rfl rfl (q0 := 0) rfl hl.1 rfl rfl (Nat.le_of_ble_eq_true rfl) ⟨Nat.le_of_ble_eq_true rfl, Nat.le_of_ble_eq_true rfl⟩ ⟨rfl, rfl⟩ ⟨Nat.zero_le _, Nat.zero_le _⟩ dX1_countSides_27 ?_
          refine lv_iload_n hx hb dX1_countSides_30 rfl (lv_at hl 2 rfl) ?_
          refine lv_icmp_ne (tgt := 37) hx hb dX1_countSides_31 (by decide) (fun c_4 => ?_) (fun c_4 => ?_)
          · skip
            refine lv_iinc (v := nI (i + 1)) (lv' := [(4, .int (nI (i + 1))), (0, .ref aM), (1, .int a), (2, .int b), (3, .int n)]) hx hb dX1_countSides_37 hl (k := 4) rfl ((nI_succ i).symm) (by decide) rfl (fun ls hl => ?_)
            refine lv_goto (tgt := 5) hx hb dX1_countSides_40 (by decide) ?_
            exact ih_5 (i + 1) n (by omega) (by rw [h2]; simp [csL, c_2, c_3, c_4]) ls (lv_sub hl [1, 2, 3, 4, 0] rfl)
          · skip
            refine lv_iinc (v := (n + 1)) (lv' := [(3, .int (n + 1)), (0, .ref aM), (1, .int a), (2, .int b), (4, .int (nI i))]) hx hb dX1_countSides_34 hl (k := 3) rfl rfl (by decide) rfl (fun ls hl => ?_)
            refine lv_iinc (v := nI (i + 1)) (lv' := [(4, .int (nI (i + 1))), (3, .int (n + 1)), (0, .ref aM), (1, .int a), (2, .int b)]) hx hb dX1_countSides_37 hl (k := 4) rfl ((nI_succ i).symm) (by decide) rfl (fun ls hl => ?_)
            refine lv_goto (tgt := 5) hx hb dX1_countSides_40 (by decide) ?_
            exact ih_5 (i + 1) (n + 1) (by omega) (by rw [h2]; simp [csL, c_2, c_3, c_4]) ls (lv_sub hl [2, 3, 4, 1, 0] rfl)
  exact L_5 Q 0 0 (by omega) rfl ls (lv_sub hl [2, 3, 4, 1, 0] rfl)

set_option maxRecDepth 20000 in
theorem hi_X1_wayBetween_X1 : ∀ w ∈ wsX10, w ∈ wsX1_wayBetween := by
  intro w h
  unfold wsX1_wayBetween
  simp only [List.mem_cons, List.mem_append, h, or_true, true_or]
theorem nd_X1_wayBetween : okName yX1_wayBetween 2 := by decide +kernel
set_option maxHeartbeats 4000000 in
set_option maxRecDepth 100000 in
theorem k_X1_wayBetween (l : Launch) (D : va_G) (cI cZ : ClassId) (aM : Nat) (Q : Nat) (P : Nat) (M : Nat) (Wd : Nat) (a : Nat) (b : Nat) (hQ : Q ≤ 48) (ha : a < Q) (hbb : b < Q) : RO l yX1_wayBetween wsX1_wayBetween ({ frames := 1, cells := 0, slots := 0, locals := 21 } : Room) D cI cZ [(aM, .inr (1, [.int (nI Q), .int (nI P), .int (nI M), .int (nI Wd), .int (nI (tT Q P)), .int (nI (tN Q P))]))] [.ref aM, .int (nI a), .int (nI b)] (nI (wB Q a b)) := by
  refine ro_start (by decide) rfl (Nat.le_of_ble_eq_true rfl) ?_
  intro p e s m args below meth c hx hb hr hml hlocks hts hown hT hP ls hl
  have hown : s.vm.findClass RX1 = some m.cls := hown
  have hl : lv_has ls 4 [(0, .ref aM), (1, .int (nI a)), (2, .int (nI b))] := hl
  refine lv_iload_n hx hb dX1_wayBetween_0 rfl (lv_at hl 1 rfl) ?_
  refine lv_iload_n hx hb dX1_wayBetween_1 rfl (lv_at hl 2 rfl) ?_
  refine lv_isub hx hb dX1_wayBetween_2 ?_
  refine va_mabs hx hb (hml.trans hl.1.symm) hown (hts (.methodLink RX1 58 Lib.Math.abs.name) (List.mem_of_getElem? (i := 1) rfl)) (hts (.static Lib.Math.abs.name) (List.mem_of_getElem? (i := 2) rfl)) (hts (.initialized "java/lang/Math") (List.mem_of_getElem? (i := 3) rfl)) (hts (.code Lib.Math.abs.name Lib.Math.abs.code 1 (some .int)) (List.mem_of_getElem? (i := 4) rfl)) (Nat.le_of_ble_eq_true rfl) (Nat.le_of_ble_eq_true rfl) (Nat.zero_le _) (Nat.zero_le _) dX1_wayBetween_3 ?_
  refine lv_istore_n (lv' := [(3, .int (if 0 ≤ ((nI a) - (nI b)) then ((nI a) - (nI b)) else 0 - ((nI a) - (nI b)))), (0, .ref aM), (1, .int (nI a)), (2, .int (nI b))]) hx hb dX1_wayBetween_6 rfl hl (by decide) rfl (fun ls hl => ?_)
  refine lv_iload_n hx hb dX1_wayBetween_7 rfl (lv_at hl 0 rfl) ?_
  refine lv_aload_n hx hb dX1_wayBetween_8 rfl (lv_at hl 1 rfl) ?_
  refine va_get (D := D) (ci := 1) (v := .int (nI Q)) (C := RX1) (T := TX1) (N := 6) hx hb hts hi_X1_wayBetween_X1 hown hT.1 hP 0 rfl rfl 0 (by decide) (hts (.fieldLink RX1 7 "SlotStar$Machine" "slots" "I") (List.mem_of_getElem? (i := 5) rfl)) (fun _ h9 => h9) rfl dX1_wayBetween_9 ?_
  refine lv_iload_n hx hb dX1_wayBetween_12 rfl (lv_at hl 0 rfl) ?_
  refine lv_isub hx hb dX1_wayBetween_13 ?_
  refine va_mmin hx hb (hml.trans hl.1.symm) hown (hts (.methodLink RX1 63 Lib.Math.min.name) (List.mem_of_getElem? (i := 6) rfl)) (hts (.static Lib.Math.min.name) (List.mem_of_getElem? (i := 7) rfl)) (hts (.initialized "java/lang/Math") (List.mem_of_getElem? (i := 3) rfl)) (hts (.code Lib.Math.min.name Lib.Math.min.code 2 (some .int)) (List.mem_of_getElem? (i := 8) rfl)) (Nat.le_of_ble_eq_true rfl) (Nat.le_of_ble_eq_true rfl) (Nat.zero_le _) (Nat.zero_le _) dX1_wayBetween_14 ?_
  exact ro_ret hx hb hr hlocks dX1_wayBetween_17 (by exact j_way hQ ha hbb)

set_option maxRecDepth 20000 in
theorem hi_X1_become_X1 : ∀ w ∈ wsX10, w ∈ wsX1_become := by
  intro w h
  unfold wsX1_become
  simp only [List.mem_cons, List.mem_append, h, or_true, true_or]
theorem nd_X1_become : okName yX1_become 4 := by decide +kernel
set_option maxHeartbeats 4000000 in
set_option maxRecDepth 100000 in
theorem k_X1_become (l : Launch) (D : va_G) (cI cZ : ClassId) (aM : Nat) (x0 : Int32) (x1 : Int32) (x2 : Int32) (x3 : Int32) (x4 : Int32) (x5 : Int32) (Q : Nat) (P : Nat) (M : Nat) (Wd : Nat) (hv : MV Q P M Wd) : MU l yX1_become wsX1_become ({ frames := 2, cells := 0, slots := 0, locals := 44 } : Room) D cI cZ [(aM, .inr (1, [.int x0, .int x1, .int x2, .int x3, .int x4, .int x5]))] [.ref aM, .int (nI Q), .int (nI P), .int (nI M), .int (nI Wd)] none [(aM, .inr (1, [.int (nI Q), .int (nI P), .int (nI M), .int (nI Wd), .int (nI (tT Q P)), .int (nI (tN Q P))]))] := by
  refine mu_start (by decide) rfl (Nat.le_of_ble_eq_true rfl) ?_
  intro p e s m args below meth c hx hb hr hml hlocks hts hown hT hP hD hS ls hl
  have hown : s.vm.findClass RX1 = some m.cls := hown
  have hl : lv_has ls 5 [(0, .ref aM), (1, .int (nI Q)), (2, .int (nI P)), (3, .int (nI M)), (4, .int (nI Wd))] := hl
  refine lv_aload_n hx hb dX1_become_0 rfl (lv_at hl 0 rfl) ?_
  refine lv_iload_n hx hb dX1_become_1 rfl (lv_at hl 1 rfl) ?_
  refine va_put (D := D) (ci := 1) (v := .int (nI Q)) (ty := .int) (C := RX1) (T := TX1) (N := 6) hx hb hts hi_X1_become_X1 tyX1 tyX1_ok nmX1 hown hT.1 hP hD hS 0 rfl rfl 0 (by decide) (hts (.fieldLink RX1 7 "SlotStar$Machine" "slots" "I") (List.mem_of_getElem? (i := 1) rfl)) (fun _ h9 => h9) rfl (by decide +kernel) rfl rfl (Nat.le_of_ble_eq_true rfl) dX1_become_2 (fun H locs hP hD hS => ?_)
  have hP : va_P D cls5 [(aM, .inr (1, [.int (nI Q), .int x1, .int x2, .int x3, .int x4, .int x5]))] H := hP
  have hD : va_D (va_M [(aM, .inr (1, [.int x0, .int x1, .int x2, .int x3, .int x4, .int x5]))]) [(aM, .inr (1, [.int (nI Q), .int x1, .int x2, .int x3, .int x4, .int x5]))] := hD
  refine lv_aload_n hx hb dX1_become_5 rfl (lv_at hl 0 rfl) ?_
  refine lv_iload_n hx hb dX1_become_6 rfl (lv_at hl 2 rfl) ?_
  refine va_put (D := D) (ci := 1) (v := .int (nI P)) (ty := .int) (C := RX1) (T := TX1) (N := 6) hx hb hts hi_X1_become_X1 tyX1 tyX1_ok nmX1 hown hT.1 hP hD hS 0 rfl rfl 1 (by decide) (hts (.fieldLink RX1 13 "SlotStar$Machine" "pairs" "I") (List.mem_of_getElem? (i := 2) rfl)) (fun _ h9 => h9) rfl (by decide +kernel) rfl rfl (Nat.le_of_ble_eq_true rfl) dX1_become_7 (fun H locs hP hD hS => ?_)
  have hP : va_P D cls5 [(aM, .inr (1, [.int (nI Q), .int (nI P), .int x2, .int x3, .int x4, .int x5]))] H := hP
  have hD : va_D (va_M [(aM, .inr (1, [.int x0, .int x1, .int x2, .int x3, .int x4, .int x5]))]) [(aM, .inr (1, [.int (nI Q), .int (nI P), .int x2, .int x3, .int x4, .int x5]))] := hD
  refine lv_aload_n hx hb dX1_become_10 rfl (lv_at hl 0 rfl) ?_
  refine lv_iload_n hx hb dX1_become_11 rfl (lv_at hl 3 rfl) ?_
  refine va_put (D := D) (ci := 1) (v := .int (nI M)) (ty := .int) (C := RX1) (T := TX1) (N := 6) hx hb hts hi_X1_become_X1 tyX1 tyX1_ok nmX1 hown hT.1 hP hD hS 0 rfl rfl 2 (by decide) (hts (.fieldLink RX1 16 "SlotStar$Machine" "phases" "I") (List.mem_of_getElem? (i := 3) rfl)) (fun _ h9 => h9) rfl (by decide +kernel) rfl rfl (Nat.le_of_ble_eq_true rfl) dX1_become_12 (fun H locs hP hD hS => ?_)
  have hP : va_P D cls5 [(aM, .inr (1, [.int (nI Q), .int (nI P), .int (nI M), .int x3, .int x4, .int x5]))] H := hP
  have hD : va_D (va_M [(aM, .inr (1, [.int x0, .int x1, .int x2, .int x3, .int x4, .int x5]))]) [(aM, .inr (1, [.int (nI Q), .int (nI P), .int (nI M), .int x3, .int x4, .int x5]))] := hD
  refine lv_aload_n hx hb dX1_become_15 rfl (lv_at hl 0 rfl) ?_
  refine lv_iload hx hb dX1_become_16 (lv_at hl 4 rfl) ?_
  refine va_put (D := D) (ci := 1) (v := .int (nI Wd)) (ty := .int) (C := RX1) (T := TX1) (N := 6) hx hb hts hi_X1_become_X1 tyX1 tyX1_ok nmX1 hown hT.1 hP hD hS 0 rfl rfl 3 (by decide) (hts (.fieldLink RX1 19 "SlotStar$Machine" "width" "I") (List.mem_of_getElem? (i := 4) rfl)) (fun _ h9 => h9) rfl (by decide +kernel) rfl rfl (Nat.le_of_ble_eq_true rfl) dX1_become_18 (fun H locs hP hD hS => ?_)
  have hP : va_P D cls5 [(aM, .inr (1, [.int (nI Q), .int (nI P), .int (nI M), .int (nI Wd), .int x4, .int x5]))] H := hP
  have hD : va_D (va_M [(aM, .inr (1, [.int x0, .int x1, .int x2, .int x3, .int x4, .int x5]))]) [(aM, .inr (1, [.int (nI Q), .int (nI P), .int (nI M), .int (nI Wd), .int x4, .int x5]))] := hD
  refine lv_aload_n hx hb dX1_become_21 rfl (lv_at hl 0 rfl) ?_
  refine lv_iload_n hx hb dX1_become_22 rfl (lv_at hl 1 rfl) ?_
  refine lv_iload_n hx hb dX1_become_23 rfl (lv_at hl 2 rfl) ?_
  refine ro_N (As := [.int (nI Q), .int (nI P)]) (rest := [.ref aM]) ⟨hx, hb, hml, hown, hts⟩ hT hP (k_X3_commonDivisor l D cI cZ (nI Q) (nI P)) (List.mem_of_getElem? (i := 3) rfl) gX1_become_X3_commonDivisor_n22 (hts (.initialized RX3) (List.mem_of_getElem? (i := 8) rfl)) (hts (.static yX3_commonDivisor) (List.mem_of_getElem? (i := 7) rfl)) rfl nd_X3_commonDivisor [] rfl hl.1 rfl rfl (Nat.le_of_ble_eq_true rfl) ⟨Nat.le_of_ble_eq_true rfl, Nat.le_of_ble_eq_true rfl⟩ ⟨rfl, rfl⟩ ⟨Nat.zero_le _, Nat.zero_le _⟩ dX1_become_24 ?_
  refine top_eq (z := (nI (tT Q P))) (by exact j_tT hv) ?_
  refine va_put (D := D) (ci := 1) (v := .int (nI (tT Q P))) (ty := .int) (C := RX1) (T := TX1) (N := 6) hx hb hts hi_X1_become_X1 tyX1 tyX1_ok nmX1 hown hT.1 hP hD hS 0 rfl rfl 4 (by decide) (hts (.fieldLink RX1 28 "SlotStar$Machine" "copies" "I") (List.mem_of_getElem? (i := 5) rfl)) (fun _ h9 => h9) rfl (by decide +kernel) rfl rfl (Nat.le_of_ble_eq_true rfl) dX1_become_27 (fun H locs hP hD hS => ?_)
  have hP : va_P D cls5 [(aM, .inr (1, [.int (nI Q), .int (nI P), .int (nI M), .int (nI Wd), .int (nI (tT Q P)), .int x5]))] H := hP
  have hD : va_D (va_M [(aM, .inr (1, [.int x0, .int x1, .int x2, .int x3, .int x4, .int x5]))]) [(aM, .inr (1, [.int (nI Q), .int (nI P), .int (nI M), .int (nI Wd), .int (nI (tT Q P)), .int x5]))] := hD
  refine lv_aload_n hx hb dX1_become_30 rfl (lv_at hl 0 rfl) ?_
  refine lv_iload_n hx hb dX1_become_31 rfl (lv_at hl 1 rfl) ?_
  refine lv_aload_n hx hb dX1_become_32 rfl (lv_at hl 0 rfl) ?_
  refine va_get (D := D) (ci := 1) (v := .int (nI (tT Q P))) (C := RX1) (T := TX1) (N := 6) hx hb hts hi_X1_become_X1 hown hT.1 hP 0 rfl rfl 4 (by decide) (hts (.fieldLink RX1 28 "SlotStar$Machine" "copies" "I") (List.mem_of_getElem? (i := 5) rfl)) (fun _ h9 => h9) rfl dX1_become_33 ?_
  refine ro_N (As := [.int (nI Q), .int (nI (tT Q P))]) (rest := [.ref aM]) ⟨hx, hb, hml, hown, hts⟩ hT hP (k_X3_cut l D cI cZ (nI Q) (nI (tT Q P))) (List.mem_of_getElem? (i := 4) rfl) gX1_become_X3_cut_n31 (hts (.initialized RX3) (List.mem_of_getElem? (i := 8) rfl)) (hts (.static yX3_cut) (List.mem_of_getElem? (i := 17) rfl)) rfl nd_X3_cut [] rfl hl.1 rfl rfl (Nat.le_of_ble_eq_true rfl) ⟨Nat.le_of_ble_eq_true rfl, Nat.le_of_ble_eq_true rfl⟩ ⟨rfl, rfl⟩ ⟨Nat.zero_le _, Nat.zero_le _⟩ dX1_become_36 ?_
  refine top_eq (z := (nI (tN Q P))) (by exact j_tN hv) ?_
  refine va_put (D := D) (ci := 1) (v := .int (nI (tN Q P))) (ty := .int) (C := RX1) (T := TX1) (N := 6) hx hb hts hi_X1_become_X1 tyX1 tyX1_ok nmX1 hown hT.1 hP hD hS 0 rfl rfl 5 (by decide) (hts (.fieldLink RX1 34 "SlotStar$Machine" "turns" "I") (List.mem_of_getElem? (i := 6) rfl)) (fun _ h9 => h9) rfl (by decide +kernel) rfl rfl (Nat.le_of_ble_eq_true rfl) dX1_become_39 (fun H locs hP hD hS => ?_)
  have hP : va_P D cls5 [(aM, .inr (1, [.int (nI Q), .int (nI P), .int (nI M), .int (nI Wd), .int (nI (tT Q P)), .int (nI (tN Q P))]))] H := hP
  have hD : va_D (va_M [(aM, .inr (1, [.int x0, .int x1, .int x2, .int x3, .int x4, .int x5]))]) [(aM, .inr (1, [.int (nI Q), .int (nI P), .int (nI M), .int (nI Wd), .int (nI (tT Q P)), .int (nI (tN Q P))]))] := hD
  exact mu_retv hx hb hr hlocks dX1_become_42 (hP) hS
