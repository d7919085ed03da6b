-- an edition of no rows
set_option maxHeartbeats 1000000 in
set_option maxRecDepth 100000 in
theorem c_Ed_ways_0 (l : Launch) (dC : Nat → ClassId) (dI : Nat → Nat → Nat) (k : Nat → ClassId) (sz : Nat) (h0 : Nat) (e1 : Nat) (e2 : Nat) : Met l y_Ed_waysByJumps (Cond.code y_Ed_waysByJumps b_Ed_waysByJumps 4 (some (.array .long)) :: z_T) (z_rm 1 1 61) (z_Pc dC dI k sz [.ref h0] [(h0, .inr (3, [.ref e1, .ref e2, .int 0, .long 0, .long 0, .long 0])), (e1, .inl (k 3, 61, .inr (.inr (.inr (.inr (fun _ => none)))))), (e2, .inl (k 4, 10, .inr (.inr (.inr (.inr (fun _ => none))))))]) (va_Qq (fun (r : Option Nat) (u : Nat) => r = some u) (fun (u : Nat) t => z_B dC dI k (va_A [(h0, .inr (3, [.ref e1, .ref e2, .int 0, .long 0, .long 0, .long 0])), (e1, .inl (k 3, 61, .inr (.inr (.inr (.inr (fun _ => none)))))), (e2, .inl (k 4, 10, .inr (.inr (.inr (.inr (fun _ => none))))))] sz) [(h0, .inr (3, [.ref e1, .ref e2, .int 0, .long 0, .long 0, .long 0])), (e1, .inl (k 3, 61, .inr (.inr (.inr (.inr (fun _ => none)))))), (e2, .inl (k 4, 10, .inr (.inr (.inr (.inr (fun _ => none)))))), (u, .inl (k 1, 61, .inr (.inl (fun _ => 0))))] t) (va_A [(h0, .inr (3, [.ref e1, .ref e2, .int 0, .long 0, .long 0, .long 0])), (e1, .inl (k 3, 61, .inr (.inr (.inr (.inr (fun _ => none)))))), (e2, .inl (k 4, 10, .inr (.inr (.inr (.inr (fun _ => none))))))] sz)) 1 61 (va_A [(h0, .inr (3, [.ref e1, .ref e2, .int 0, .long 0, .long 0, .long 0])), (e1, .inl (k 3, 61, .inr (.inr (.inr (.inr (fun _ => none)))))), (e2, .inl (k 4, 10, .inr (.inr (.inr (.inr (fun _ => none))))))] sz) := by
  refine Met.ofW (cc := b_Ed_waysByJumps) (maxL := 4) (ret := (some (.array .long))) (by decide) rfl ?_
  intro p e s m args below meth c s₁ B hml hv
  obtain ⟨rfl, hsz, hE, hP, hK, hD0⟩ := hv
  have hx := B.exec
  have hb := B.bytes
  have hr := B.returns
  have hts := atoms_spec (ws := Cond.code y_Ed_waysByJumps b_Ed_waysByJumps 4 (some (.array .long)) :: z_T) B.pre
  have htz : ∀ w ∈ z_T, w.before _ s = true := fun w h => hts w (z_cons w h)
  have hown : s.vm.findClass "QuestionText$Edition" = some m.cls := findClass_of_methodNamed B.named
  have hlocks := B.notSynchronized
  subst hsz
  have hD := hD0.self (sz := s.heap.size)
  generalize hAe : va_A [(h0, .inr (3, [.ref e1, .ref e2, .int 0, .long 0, .long 0, .long 0])), (e1, .inl (k 3, 61, .inr (.inr (.inr (.inr (fun _ => none)))))), (e2, .inl (k 4, 10, .inr (.inr (.inr (.inr (fun _ => none))))))] s.heap.size = A at hD hE ⊢
  have hA : ∀ q : Nat, s.heap.size ≤ q → A q := fun q h => by rw [← hAe]; exact Or.inr h
  have hS : va_S A s.heap s.heap [] := va_S.rf
  have hP : va_P (dC, dI) classes [(h0, .inr (3, [.ref e1, .ref e2, .int 0, .long 0, .long 0, .long 0])), (e1, .inl (k 3, 61, .inr (.inr (.inr (.inr (fun _ => none)))))), (e2, .inl (k 4, 10, .inr (.inr (.inr (.inr (fun _ => none))))))] s.heap := hP
  have hl := lv_entry ([.ref h0]) (n := 4) (Nat.le_of_ble_eq_true rfl)
  rw [lg_entry_eq]
  generalize (lg_sl ([.ref h0]) ++ List.replicate (4 - (lg_sl ([.ref h0])).length) Slot.unset).toArray = ls at hl ⊢
  have hl : lv_has ls 4 [(0, .ref h0)] := hl
  refine lv_bipush (v := 61) hx hb d_Ed_waysByJumps_0 (by decide) ?_
  refine z_newa (atype := .long) (n := 61) (a0 := (61, .inr (.inl (fun _ => 0)))) hx hb (htz (.arrayClass .long) az_long) (ty := .long) rfl hK hP hD hS hA 1 rfl (N' := 61) (fun _ => rfl) (by decide) (by decide) (Nat.le_of_ble_eq_true rfl) (Nat.le_of_ble_eq_true rfl) (Nat.le_of_ble_eq_true rfl) d_Ed_waysByJumps_2 (fun wy H hP hD hS => ?_)
  have hP : va_P (dC, dI) classes [(h0, .inr (3, [.ref e1, .ref e2, .int 0, .long 0, .long 0, .long 0])), (e1, .inl (k 3, 61, .inr (.inr (.inr (.inr (fun _ => none)))))), (e2, .inl (k 4, 10, .inr (.inr (.inr (.inr (fun _ => none)))))), (wy, .inl (k 1, 61, .inr (.inl (fun _ => 0))))] H := hP
  have hD : va_D A [(h0, .inr (3, [.ref e1, .ref e2, .int 0, .long 0, .long 0, .long 0])), (e1, .inl (k 3, 61, .inr (.inr (.inr (.inr (fun _ => none)))))), (e2, .inl (k 4, 10, .inr (.inr (.inr (.inr (fun _ => none)))))), (wy, .inl (k 1, 61, .inr (.inl (fun _ => 0))))] := hD
  refine W.widen (k := 1) (n := 61) (Nat.le_of_ble_eq_true rfl) (Nat.le_of_ble_eq_true rfl) ?_
  refine lv_astore_n (lv' := [(1, .ref wy), (0, .ref h0)]) hx hb d_Ed_waysByJumps_4 rfl hl (by decide) rfl (fun ls hl => ?_)
  refine lv_iconst (v := 1) hx hb d_Ed_waysByJumps_5 (by decide) ?_
  refine lv_istore_n (lv' := [(2, .int 1), (1, .ref wy), (0, .ref h0)]) hx hb d_Ed_waysByJumps_6 rfl hl (by decide) rfl (fun ls hl => ?_)
  have loop_7 : ∀ (d_i1 i1 : Nat) (H : Heap) (locs : List Loc) (ls : Array Slot), i1 + d_i1 = 61 → va_P (dC, dI) classes [(h0, .inr (3, [.ref e1, .ref e2, .int 0, .long 0, .long 0, .long 0])), (e1, .inl (k 3, 61, .inr (.inr (.inr (.inr (fun _ => none)))))), (e2, .inl (k 4, 10, .inr (.inr (.inr (.inr (fun _ => none)))))), (wy, .inl (k 1, 61, .inr (.inl (fun _ => 0))))] H → va_D A [(h0, .inr (3, [.ref e1, .ref e2, .int 0, .long 0, .long 0, .long 0])), (e1, .inl (k 3, 61, .inr (.inr (.inr (.inr (fun _ => none)))))), (e2, .inl (k 4, 10, .inr (.inr (.inr (.inr (fun _ => none)))))), (wy, .inl (k 1, 61, .inr (.inl (fun _ => 0))))] → va_S A s.heap H locs → lv_has ls 4 [(0, .ref h0), (1, .ref wy), (2, .int (nI i1))] → W p l e (headSpec (Cond.code y_Ed_waysByJumps b_Ed_waysByJumps 4 (some (.array .long)) :: z_T) (z_rm 1 1 61)).room s m ([.ref h0] : List Value).toArray below meth c H locs 1 61 (MQ below (va_Qq (fun (r : Option Nat) (u : Nat) => r = some u) (fun (u : Nat) t => z_B dC dI k A [(h0, .inr (3, [.ref e1, .ref e2, .int 0, .long 0, .long 0, .long 0])), (e1, .inl (k 3, 61, .inr (.inr (.inr (.inr (fun _ => none)))))), (e2, .inl (k 4, 10, .inr (.inr (.inr (.inr (fun _ => none)))))), (u, .inl (k 1, 61, .inr (.inl (fun _ => 0))))] t) A) ([.ref h0] : List Value).toArray s 1 61 A) (F0 m 7 ls []) := by
    intro d_i1
    induction d_i1 with
    | zero =>
      intro i1 H locs ls hi_i1 hP hD hS hl
      refine lv_iload_n hx hb d_Ed_waysByJumps_7 rfl (lv_at hl 2 rfl) ?_
      refine lv_bipush (v := 60) hx hb d_Ed_waysByJumps_8 (by decide) ?_
      refine lv_icmp_gt (tgt := 45) hx hb d_Ed_waysByJumps_10 (by decide) (fun c_10 => ?_) (fun c_10 => ?_)
      · refine lv_iconst (v := 1) hx hb d_Ed_waysByJumps_45 (by decide) ?_
        refine lv_istore_n (lv' := [(2, .int 1), (0, .ref h0), (1, .ref wy)]) hx hb d_Ed_waysByJumps_46 rfl hl (by decide) rfl (fun ls hl => ?_)
        have loop_47 : ∀ (d_i2 i2 : Nat) (H : Heap) (locs : List Loc) (ls : Array Slot), i2 + d_i2 = 61 → va_P (dC, dI) classes [(h0, .inr (3, [.ref e1, .ref e2, .int 0, .long 0, .long 0, .long 0])), (e1, .inl (k 3, 61, .inr (.inr (.inr (.inr (fun _ => none)))))), (e2, .inl (k 4, 10, .inr (.inr (.inr (.inr (fun _ => none)))))), (wy, .inl (k 1, 61, .inr (.inl (fun _ => 0))))] H → va_D A [(h0, .inr (3, [.ref e1, .ref e2, .int 0, .long 0, .long 0, .long 0])), (e1, .inl (k 3, 61, .inr (.inr (.inr (.inr (fun _ => none)))))), (e2, .inl (k 4, 10, .inr (.inr (.inr (.inr (fun _ => none)))))), (wy, .inl (k 1, 61, .inr (.inl (fun _ => 0))))] → va_S A s.heap H locs → lv_has ls 4 [(0, .ref h0), (1, .ref wy), (2, .int (nI i2))] → W p l e (headSpec (Cond.code y_Ed_waysByJumps b_Ed_waysByJumps 4 (some (.array .long)) :: z_T) (z_rm 1 1 61)).room s m ([.ref h0] : List Value).toArray below meth c H locs 1 61 (MQ below (va_Qq (fun (r : Option Nat) (u : Nat) => r = some u) (fun (u : Nat) t => z_B dC dI k A [(h0, .inr (3, [.ref e1, .ref e2, .int 0, .long 0, .long 0, .long 0])), (e1, .inl (k 3, 61, .inr (.inr (.inr (.inr (fun _ => none)))))), (e2, .inl (k 4, 10, .inr (.inr (.inr (.inr (fun _ => none)))))), (u, .inl (k 1, 61, .inr (.inl (fun _ => 0))))] t) A) ([.ref h0] : List Value).toArray s 1 61 A) (F0 m 47 ls []) := by
          intro d_i2
          induction d_i2 with
          | zero =>
            intro i2 H locs ls hi_i2 hP hD hS hl
            refine lv_iload_n hx hb d_Ed_waysByJumps_47 rfl (lv_at hl 2 rfl) ?_
            refine lv_bipush (v := 60) hx hb d_Ed_waysByJumps_48 (by decide) ?_
            refine lv_icmp_gt (tgt := 92) hx hb d_Ed_waysByJumps_50 (by decide) (fun c_50 => ?_) (fun c_50 => ?_)
            · refine lv_aload_n hx hb d_Ed_waysByJumps_92 rfl (lv_at hl 1 rfl) ?_
              have hP9 := hP.sub (ws' := [(h0, .inr (3, [.ref e1, .ref e2, .int 0, .long 0, .long 0, .long 0])), (e1, .inl (k 3, 61, .inr (.inr (.inr (.inr (fun _ => none)))))), (e2, .inl (k 4, 10, .inr (.inr (.inr (.inr (fun _ => none)))))), (wy, .inl (k 1, 61, .inr (.inl (fun _ => 0))))]) [0, 1, 2, 3] rfl
              have hD9 := hD.sub (ws' := [(h0, .inr (3, [.ref e1, .ref e2, .int 0, .long 0, .long 0, .long 0])), (e1, .inl (k 3, 61, .inr (.inr (.inr (.inr (fun _ => none)))))), (e2, .inl (k 4, 10, .inr (.inr (.inr (.inr (fun _ => none)))))), (wy, .inl (k 1, 61, .inr (.inl (fun _ => 0))))]) [0, 1, 2, 3] (by decide) rfl
              exact W.aret (v := .ref wy) hx hb hr (Or.inr ⟨_, rfl⟩) (Or.inr ⟨_, rfl⟩) (fun t ht hW => ⟨⟨(some wy), wy, rfl, rfl, by rw [ht]; exact hP9, va_K.moved hW.alike hK, hD9⟩, hS.F ht⟩) hS.2.2 d_Ed_waysByJumps_93
            · exact absurd (show nI 60 < nI i2 from nI_lt (by omega) (by omega)) c_50
          | succ d_i2 ih_i2 =>
            intro i2 H locs ls hi_i2 hP hD hS hl
            refine lv_iload_n hx hb d_Ed_waysByJumps_47 rfl (lv_at hl 2 rfl) ?_
            refine lv_bipush (v := 60) hx hb d_Ed_waysByJumps_48 (by decide) ?_
            refine lv_icmp_gt (tgt := 92) hx hb d_Ed_waysByJumps_50 (by decide) (fun c_50 => ?_) (fun c_50 => ?_)
            · exact absurd (show nI 60 < nI i2 from c_50) (nI_nlt (by omega) (by decide))
            · refine lv_iconst (v := 1) hx hb d_Ed_waysByJumps_53 (by decide) ?_
              refine lv_istore_n (lv' := [(3, .int 1), (0, .ref h0), (1, .ref wy), (2, .int (nI i2))]) hx hb d_Ed_waysByJumps_54 rfl hl (by decide) rfl (fun ls hl => ?_)
              have loop_55 : ∀ (d_i3 i3 : Nat) (H : Heap) (locs : List Loc) (ls : Array Slot), i3 + d_i3 = 61 → va_P (dC, dI) classes [(h0, .inr (3, [.ref e1, .ref e2, .int 0, .long 0, .long 0, .long 0])), (e1, .inl (k 3, 61, .inr (.inr (.inr (.inr (fun _ => none)))))), (e2, .inl (k 4, 10, .inr (.inr (.inr (.inr (fun _ => none)))))), (wy, .inl (k 1, 61, .inr (.inl (fun _ => 0))))] H → va_D A [(h0, .inr (3, [.ref e1, .ref e2, .int 0, .long 0, .long 0, .long 0])), (e1, .inl (k 3, 61, .inr (.inr (.inr (.inr (fun _ => none)))))), (e2, .inl (k 4, 10, .inr (.inr (.inr (.inr (fun _ => none)))))), (wy, .inl (k 1, 61, .inr (.inl (fun _ => 0))))] → va_S A s.heap H locs → lv_has ls 4 [(0, .ref h0), (1, .ref wy), (2, .int (nI i2)), (3, .int (nI i3))] → W p l e (headSpec (Cond.code y_Ed_waysByJumps b_Ed_waysByJumps 4 (some (.array .long)) :: z_T) (z_rm 1 1 61)).room s m ([.ref h0] : List Value).toArray below meth c H locs 1 61 (MQ below (va_Qq (fun (r : Option Nat) (u : Nat) => r = some u) (fun (u : Nat) t => z_B dC dI k A [(h0, .inr (3, [.ref e1, .ref e2, .int 0, .long 0, .long 0, .long 0])), (e1, .inl (k 3, 61, .inr (.inr (.inr (.inr (fun _ => none)))))), (e2, .inl (k 4, 10, .inr (.inr (.inr (.inr (fun _ => none)))))), (u, .inl (k 1, 61, .inr (.inl (fun _ => 0))))] t) A) ([.ref h0] : List Value).toArray s 1 61 A) (F0 m 55 ls []) := by
                intro d_i3
                induction d_i3 with
                | zero =>
                  intro i3 H locs ls hi_i3 hP hD hS hl
                  refine lv_iload_n hx hb d_Ed_waysByJumps_55 rfl (lv_at hl 3 rfl) ?_
                  refine lv_bipush (v := 60) hx hb d_Ed_waysByJumps_56 (by decide) ?_
                  refine lv_icmp_gt (tgt := 86) hx hb d_Ed_waysByJumps_58 (by decide) (fun c_58 => ?_) (fun c_58 => ?_)
                  · refine lv_iinc (v := nI (i2 + 1)) (lv' := [(2, .int (nI (i2 + 1))), (0, .ref h0), (1, .ref wy), (3, .int (nI i3))]) hx hb d_Ed_waysByJumps_86 hl (k := 2) rfl (nI_1 i2) (by decide) rfl (fun ls hl => ?_)
                    refine lv_goto (tgt := 47) hx hb d_Ed_waysByJumps_89 (by decide) ?_
                    exact ih_i2 (i2 + 1) H locs ls (by omega) (hP.sub [0, 1, 2, 3] rfl) (hD.sub [0, 1, 2, 3] (by decide) rfl) hS (lv_sub hl [1, 2, 0] rfl)
                  · exact absurd (show nI 60 < nI i3 from nI_lt (by omega) (by omega)) c_58
                | succ d_i3 ih_i3 =>
                  intro i3 H locs ls hi_i3 hP hD hS hl
                  refine lv_iload_n hx hb d_Ed_waysByJumps_55 rfl (lv_at hl 3 rfl) ?_
                  refine lv_bipush (v := 60) hx hb d_Ed_waysByJumps_56 (by decide) ?_
                  refine lv_icmp_gt (tgt := 86) hx hb d_Ed_waysByJumps_58 (by decide) (fun c_58 => ?_) (fun c_58 => ?_)
                  · exact absurd (show nI 60 < nI i3 from c_58) (nI_nlt (by omega) (by decide))
                  · refine lv_aload_n hx hb d_Ed_waysByJumps_61 rfl (lv_at hl 1 rfl) ?_
                    refine lv_iload_n hx hb d_Ed_waysByJumps_62 rfl (lv_at hl 3 rfl) ?_
                    refine va_lald hx hb hK hP 3 1 rfl rfl (vp_in_nI (by omega) (by decide)) d_Ed_waysByJumps_63 ?_
                    refine lv_iload_n hx hb d_Ed_waysByJumps_64 rfl (lv_at hl 2 rfl) ?_
                    have hPc := hP.sub (ws' := []) [] rfl
                    have hDc := hD.sub (ws' := []) [] (by decide) rfl
                    have hFc := va_free (wc := []) hD hS hA [] rfl
                    refine va_calli (va_runSN (As := [.long 0, .int (nI i2)]) (rest := []) ⟨hx, hb, hml, hown, htz⟩ (c_Q_hasMember l dC dI k H.size 0 (nI i2)) ⟨va_cnB 2 htz (z_gI (fun _ h => h) m_Q_hasMember) rfl rfl rfl (hE.1 _ km_Ed_52) (htz _ ini_Q) (by decide +kernel) ⟨(Nat.le_of_ble_eq_true rfl), (Nat.le_of_ble_eq_true rfl)⟩, htz _ st_Q_hasMember, trivial⟩ ⟨z_blind, fun U hU hW => ⟨rfl, by rw [hU], hE.call hS hFc hU hW, by rw [hU]; exact hPc, va_K.moved hW.alike hK, hDc.weaken (fun _ _ _ _ => trivial)⟩⟩ rfl rfl hl.1 rfl (lv_room (Nat.le_of_ble_eq_true rfl)) d_Ed_waysByJumps_65 ⟨(Nat.le_of_ble_eq_true rfl), (Nat.le_of_ble_eq_true rfl)⟩) hS (fun q _ h => hFc q h) hFc (fun r1 u t H1 locs ht hvm hw hB hz1 hk1 hS => ?_)
                    obtain ⟨hP1, hK1, hD1⟩ := hB
                    rw [ht] at hP1
                    try dsimp only at hw
                    obtain ⟨hP, hD⟩ := va_join (wr := [(h0, .inr (3, [.ref e1, .ref e2, .int 0, .long 0, .long 0, .long 0])), (e1, .inl (k 3, 61, .inr (.inr (.inr (.inr (fun _ => none)))))), (e2, .inl (k 4, 10, .inr (.inr (.inr (.inr (fun _ => none)))))), (wy, .inl (k 1, 61, .inr (.inl (fun _ => 0))))]) (w1 := []) hP hD [] [0, 1, 2, 3] rfl rfl (by decide) (by decide) hk1 hFc hP1 hD1
                    generalize H1 = H at hP hS ⊢
                    have hP : va_P (dC, dI) classes [(h0, .inr (3, [.ref e1, .ref e2, .int 0, .long 0, .long 0, .long 0])), (e1, .inl (k 3, 61, .inr (.inr (.inr (.inr (fun _ => none)))))), (e2, .inl (k 4, 10, .inr (.inr (.inr (.inr (fun _ => none)))))), (wy, .inl (k 1, 61, .inr (.inl (fun _ => 0))))] H := hP
                    have hD : va_D A [(h0, .inr (3, [.ref e1, .ref e2, .int 0, .long 0, .long 0, .long 0])), (e1, .inl (k 3, 61, .inr (.inr (.inr (.inr (fun _ => none)))))), (e2, .inl (k 4, 10, .inr (.inr (.inr (.inr (fun _ => none)))))), (wy, .inl (k 1, 61, .inr (.inl (fun _ => 0))))] := hD
                    refine lv_if_eq (tgt := 80) hx hb d_Ed_waysByJumps_68 (by decide) (fun c_68 => ?_) (fun c_68 => ?_)
                    · refine lv_iinc (v := nI (i3 + 1)) (lv' := [(3, .int (nI (i3 + 1))), (0, .ref h0), (1, .ref wy), (2, .int (nI i2))]) hx hb d_Ed_waysByJumps_80 hl (k := 3) rfl (nI_1 i3) (by decide) rfl (fun ls hl => ?_)
                      refine lv_goto (tgt := 55) hx hb d_Ed_waysByJumps_83 (by decide) ?_
                      exact ih_i3 (i3 + 1) H locs ls (by omega) (hP.sub [0, 1, 2, 3] rfl) (hD.sub [0, 1, 2, 3] (by decide) rfl) hS (lv_sub hl [1, 2, 3, 0] rfl)
                    · exact absurd (hw.trans (z_hm_0 _)) c_68
              exact loop_55 60 1 _ _ ls (by omega) hP hD hS (lv_sub hl [1, 2, 3, 0] rfl)
        exact loop_47 60 1 _ _ ls (by omega) hP hD hS (lv_sub hl [1, 2, 0] rfl)
      · exact absurd (show nI 60 < nI i1 from nI_lt (by omega) (by omega)) c_10
    | succ d_i1 ih_i1 =>
      intro i1 H locs ls hi_i1 hP hD hS hl
      refine lv_iload_n hx hb d_Ed_waysByJumps_7 rfl (lv_at hl 2 rfl) ?_
      refine lv_bipush (v := 60) hx hb d_Ed_waysByJumps_8 (by decide) ?_
      refine lv_icmp_gt (tgt := 45) hx hb d_Ed_waysByJumps_10 (by decide) (fun c_10 => ?_) (fun c_10 => ?_)
      · exact absurd (show nI 60 < nI i1 from c_10) (nI_nlt (by omega) (by decide))
      · refine lv_aload_n hx hb d_Ed_waysByJumps_13 rfl (lv_at hl 1 rfl) ?_
        refine lv_iload_n hx hb d_Ed_waysByJumps_14 rfl (lv_at hl 2 rfl) ?_
        refine lv_aload_n hx hb d_Ed_waysByJumps_15 rfl (lv_at hl 0 rfl) ?_
        refine va_get (D := (dC, dI)) (ci := 3) (v := .ref e1) (C := R_Ed) (T := F_Ed) (N := 6) hx hb htz i_Ed hown hK hP 0 rfl rfl 0 (by decide) (htz _ kf_Ed_11) (fun _ h9 => h9) rfl d_Ed_waysByJumps_16 ?_
        refine lv_iload_n hx hb d_Ed_waysByJumps_19 rfl (lv_at hl 2 rfl) ?_
        refine va_aldq hx hb hK hP 1 3 rfl rfl (vp_in_nI (by omega) (by decide)) d_Ed_waysByJumps_20 ?_
        refine lv_ifnonnullN hx hb d_Ed_waysByJumps_21 ?_
        refine lv_lconst (v := 0) hx hb d_Ed_waysByJumps_24 (by decide) ?_
        refine lv_goto (tgt := 38) hx hb d_Ed_waysByJumps_25 (by decide) ?_
        refine va_last hx hb hK hP hD hS 3 1 rfl rfl (vp_in_nI (by omega) (by decide)) d_Ed_waysByJumps_38 (fun H locs hP hD hS => ?_)
        have hP : va_P (dC, dI) classes [(h0, .inr (3, [.ref e1, .ref e2, .int 0, .long 0, .long 0, .long 0])), (e1, .inl (k 3, 61, .inr (.inr (.inr (.inr (fun _ => none)))))), (e2, .inl (k 4, 10, .inr (.inr (.inr (.inr (fun _ => none)))))), (wy, .inl (k 1, 61, .inr (.inl (vp_updL (fun _ => 0) ((nI i1).toNatClampNeg) 0))))] H := hP
        have hD : va_D A [(h0, .inr (3, [.ref e1, .ref e2, .int 0, .long 0, .long 0, .long 0])), (e1, .inl (k 3, 61, .inr (.inr (.inr (.inr (fun _ => none)))))), (e2, .inl (k 4, 10, .inr (.inr (.inr (.inr (fun _ => none)))))), (wy, .inl (k 1, 61, .inr (.inl (vp_updL (fun _ => 0) ((nI i1).toNatClampNeg) 0))))] := hD
        rw [z_upl] at hP hD
        have hP : va_P (dC, dI) classes [(h0, .inr (3, [.ref e1, .ref e2, .int 0, .long 0, .long 0, .long 0])), (e1, .inl (k 3, 61, .inr (.inr (.inr (.inr (fun _ => none)))))), (e2, .inl (k 4, 10, .inr (.inr (.inr (.inr (fun _ => none)))))), (wy, .inl (k 1, 61, .inr (.inl (fun _ => 0))))] H := hP
        have hD : va_D A [(h0, .inr (3, [.ref e1, .ref e2, .int 0, .long 0, .long 0, .long 0])), (e1, .inl (k 3, 61, .inr (.inr (.inr (.inr (fun _ => none)))))), (e2, .inl (k 4, 10, .inr (.inr (.inr (.inr (fun _ => none)))))), (wy, .inl (k 1, 61, .inr (.inl (fun _ => 0))))] := hD
        refine lv_iinc (v := nI (i1 + 1)) (lv' := [(2, .int (nI (i1 + 1))), (0, .ref h0), (1, .ref wy)]) hx hb d_Ed_waysByJumps_39 hl (k := 2) rfl (nI_1 i1) (by decide) rfl (fun ls hl => ?_)
        refine lv_goto (tgt := 7) hx hb d_Ed_waysByJumps_42 (by decide) ?_
        exact ih_i1 (i1 + 1) H locs ls (by omega) (hP.sub [0, 1, 2, 3] rfl) (hD.sub [0, 1, 2, 3] (by decide) rfl) hS (lv_sub hl [1, 2, 0] rfl)
  exact loop_7 60 1 _ _ ls (by omega) hP hD hS (lv_sub hl [2, 1, 0] rfl)
set_option maxHeartbeats 1000000 in
set_option maxRecDepth 100000 in
theorem c_Ed_study_0 (l : Launch) (dC : Nat → ClassId) (dI : Nat → Nat → Nat) (k : Nat → ClassId) (sz : Nat) (h0 : Nat) (e1 : Nat) (e2 : Nat) : Met l y_Ed_study (Cond.code y_Ed_study b_Ed_study 6 none :: z_T) (z_rm 2 1 61) (z_Pc dC dI k sz [.ref h0] [(h0, .inr (3, [.ref e1, .ref e2, .int 0, .long 0, .long 0, .long 0])), (e1, .inl (k 3, 61, .inr (.inr (.inr (.inr (fun _ => none)))))), (e2, .inl (k 4, 10, .inr (.inr (.inr (.inr (fun _ => none))))))]) (va_Qv (fun (u : Unit) => True) (fun (u : Unit) t => z_B dC dI k (va_A [(h0, .inr (3, [.ref e1, .ref e2, .int 0, .long 0, .long 0, .long 0])), (e1, .inl (k 3, 61, .inr (.inr (.inr (.inr (fun _ => none)))))), (e2, .inl (k 4, 10, .inr (.inr (.inr (.inr (fun _ => none))))))] sz) [(h0, .inr (3, [.ref e1, .ref e2, .int 0, .long 0, .long 0, .long 0])), (e1, .inl (k 3, 61, .inr (.inr (.inr (.inr (fun _ => none)))))), (e2, .inl (k 4, 10, .inr (.inr (.inr (.inr (fun _ => none))))))] t) (va_A [(h0, .inr (3, [.ref e1, .ref e2, .int 0, .long 0, .long 0, .long 0])), (e1, .inl (k 3, 61, .inr (.inr (.inr (.inr (fun _ => none)))))), (e2, .inl (k 4, 10, .inr (.inr (.inr (.inr (fun _ => none))))))] sz)) 1 61 (va_A [(h0, .inr (3, [.ref e1, .ref e2, .int 0, .long 0, .long 0, .long 0])), (e1, .inl (k 3, 61, .inr (.inr (.inr (.inr (fun _ => none)))))), (e2, .inl (k 4, 10, .inr (.inr (.inr (.inr (fun _ => none))))))] sz) := by
  refine Met.ofW (cc := b_Ed_study) (maxL := 6) (ret := none) (by decide) rfl ?_
  intro p e s m args below meth c s₁ B hml hv
  obtain ⟨rfl, hsz, hE, hP, hK, hD0⟩ := hv
  have hx := B.exec
  have hb := B.bytes
  have hr := B.returns
  have hts := atoms_spec (ws := Cond.code y_Ed_study b_Ed_study 6 none :: z_T) B.pre
  have htz : ∀ w ∈ z_T, w.before _ s = true := fun w h => hts w (z_cons w h)
  have hown : s.vm.findClass "QuestionText$Edition" = some m.cls := findClass_of_methodNamed B.named
  have hlocks := B.notSynchronized
  subst hsz
  have hD := hD0.self (sz := s.heap.size)
  generalize hAe : va_A [(h0, .inr (3, [.ref e1, .ref e2, .int 0, .long 0, .long 0, .long 0])), (e1, .inl (k 3, 61, .inr (.inr (.inr (.inr (fun _ => none)))))), (e2, .inl (k 4, 10, .inr (.inr (.inr (.inr (fun _ => none))))))] s.heap.size = A at hD hE ⊢
  have hA : ∀ q : Nat, s.heap.size ≤ q → A q := fun q h => by rw [← hAe]; exact Or.inr h
  have hS : va_S A s.heap s.heap [] := va_S.rf
  have hP : va_P (dC, dI) classes [(h0, .inr (3, [.ref e1, .ref e2, .int 0, .long 0, .long 0, .long 0])), (e1, .inl (k 3, 61, .inr (.inr (.inr (.inr (fun _ => none)))))), (e2, .inl (k 4, 10, .inr (.inr (.inr (.inr (fun _ => none))))))] s.heap := hP
  have hl := lv_entry ([.ref h0]) (n := 6) (Nat.le_of_ble_eq_true rfl)
  rw [lg_entry_eq]
  generalize (lg_sl ([.ref h0]) ++ List.replicate (6 - (lg_sl ([.ref h0])).length) Slot.unset).toArray = ls at hl ⊢
  have hl : lv_has ls 6 [(0, .ref h0)] := hl
  refine lv_aload_n hx hb d_Ed_study_0 rfl (lv_at hl 0 rfl) ?_
  have hPc := hP.sub (ws' := [(h0, .inr (3, [.ref e1, .ref e2, .int 0, .long 0, .long 0, .long 0])), (e1, .inl (k 3, 61, .inr (.inr (.inr (.inr (fun _ => none)))))), (e2, .inl (k 4, 10, .inr (.inr (.inr (.inr (fun _ => none))))))]) [0, 1, 2] rfl
  have hDc := hD.sub (ws' := [(h0, .inr (3, [.ref e1, .ref e2, .int 0, .long 0, .long 0, .long 0])), (e1, .inl (k 3, 61, .inr (.inr (.inr (.inr (fun _ => none)))))), (e2, .inl (k 4, 10, .inr (.inr (.inr (.inr (fun _ => none))))))]) [0, 1, 2] (by decide) rfl
  have hFc := va_free (wc := [(h0, .inr (3, [.ref e1, .ref e2, .int 0, .long 0, .long 0, .long 0])), (e1, .inl (k 3, 61, .inr (.inr (.inr (.inr (fun _ => none)))))), (e2, .inl (k 4, 10, .inr (.inr (.inr (.inr (fun _ => none))))))]) hD hS hA [0, 1, 2] rfl
  refine va_callq (va_runV (As := []) (rest := []) ⟨hx, hb, hml, hown, htz⟩ (c_Ed_ways_0 l dC dI k s.heap.size h0 e1 e2) (cwV 0 htz (z_gV (fun _ h => h) km_Ed_41 in_Ed_waysByJumps se_Ed_waysByJumps ini_Ed m_Ed_waysByJumps) rfl rfl rfl (by decide +kernel) ⟨(Nat.le_of_ble_eq_true rfl), (Nat.le_of_ble_eq_true rfl)⟩) ⟨z_blind, va_recv hK hPc (ci := 3) (q0 := 0) rfl rfl, fun U hU hW => ⟨rfl, by rw [hU], hE.call hS hFc hU hW, by rw [hU]; exact hPc, va_K.moved hW.alike hK, hDc.weaken (fun _ _ _ _ => trivial)⟩⟩ rfl rfl hl.1 rfl (lv_room (Nat.le_of_ble_eq_true rfl)) d_Ed_study_1 ⟨(Nat.le_of_ble_eq_true rfl), (Nat.le_of_ble_eq_true rfl)⟩) hS (fun q _ h => hFc q h) hFc (fun r1 u t H1 locs ht hvm hw hB hz1 hk1 hS => ?_)
  obtain ⟨wy, rfl⟩ : ∃ z, z = u := ⟨_, rfl⟩
  obtain ⟨hP1, hK1, hD1⟩ := hB
  rw [ht] at hP1
  try dsimp only at hw
  obtain ⟨hP, hD⟩ := va_join (wr := []) (w1 := [(h0, .inr (3, [.ref e1, .ref e2, .int 0, .long 0, .long 0, .long 0])), (e1, .inl (k 3, 61, .inr (.inr (.inr (.inr (fun _ => none)))))), (e2, .inl (k 4, 10, .inr (.inr (.inr (.inr (fun _ => none)))))), (wy, .inl (k 1, 61, .inr (.inl (fun _ => 0))))]) hP hD [0, 1, 2] [] rfl rfl (by decide) (by decide) hk1 hFc hP1 hD1
  generalize H1 = H at hP hS ⊢
  have hP : va_P (dC, dI) classes [(h0, .inr (3, [.ref e1, .ref e2, .int 0, .long 0, .long 0, .long 0])), (e1, .inl (k 3, 61, .inr (.inr (.inr (.inr (fun _ => none)))))), (e2, .inl (k 4, 10, .inr (.inr (.inr (.inr (fun _ => none)))))), (wy, .inl (k 1, 61, .inr (.inl (fun _ => 0))))] H := hP
  have hD : va_D A [(h0, .inr (3, [.ref e1, .ref e2, .int 0, .long 0, .long 0, .long 0])), (e1, .inl (k 3, 61, .inr (.inr (.inr (.inr (fun _ => none)))))), (e2, .inl (k 4, 10, .inr (.inr (.inr (.inr (fun _ => none)))))), (wy, .inl (k 1, 61, .inr (.inl (fun _ => 0))))] := hD
  subst hw
  refine W.widen (k := 1) (n := 61) (Nat.le_of_ble_eq_true rfl) (Nat.le_of_ble_eq_true rfl) ?_
  refine lv_astore_n (lv' := [(1, .ref wy), (0, .ref h0)]) hx hb d_Ed_study_4 rfl hl (by decide) rfl (fun ls hl => ?_)
  refine lv_lconst (v := 0) hx hb d_Ed_study_5 (by decide) ?_
  refine lv_lstore_n (lv' := [(2, .long 0), (1, .ref wy), (0, .ref h0)]) hx hb d_Ed_study_6 rfl hl (by decide) rfl (fun ls hl => ?_)
  refine lv_iconst (v := 1) hx hb d_Ed_study_7 (by decide) ?_
  refine lv_istore (lv' := [(4, .int 1), (2, .long 0), (1, .ref wy), (0, .ref h0)]) hx hb d_Ed_study_8 hl (by decide) rfl (fun ls hl => ?_)
  have loop_10 : ∀ (d_i1 i1 : Nat) (H : Heap) (locs : List Loc) (ls : Array Slot), i1 + d_i1 = 10 → va_P (dC, dI) classes [(h0, .inr (3, [.ref e1, .ref e2, .int 0, .long 0, .long 0, .long 0])), (e1, .inl (k 3, 61, .inr (.inr (.inr (.inr (fun _ => none)))))), (e2, .inl (k 4, 10, .inr (.inr (.inr (.inr (fun _ => none)))))), (wy, .inl (k 1, 61, .inr (.inl (fun _ => 0))))] H → va_D A [(h0, .inr (3, [.ref e1, .ref e2, .int 0, .long 0, .long 0, .long 0])), (e1, .inl (k 3, 61, .inr (.inr (.inr (.inr (fun _ => none)))))), (e2, .inl (k 4, 10, .inr (.inr (.inr (.inr (fun _ => none)))))), (wy, .inl (k 1, 61, .inr (.inl (fun _ => 0))))] → va_S A s.heap H locs → lv_has ls 6 [(0, .ref h0), (1, .ref wy), (2, .long 0), (4, .int (nI i1))] → W p l e (headSpec (Cond.code y_Ed_study b_Ed_study 6 none :: z_T) (z_rm 2 1 61)).room s m ([.ref h0] : List Value).toArray below meth c H locs 1 61 (MQ below (va_Qv (fun (u : Unit) => True) (fun (u : Unit) t => z_B dC dI k A [(h0, .inr (3, [.ref e1, .ref e2, .int 0, .long 0, .long 0, .long 0])), (e1, .inl (k 3, 61, .inr (.inr (.inr (.inr (fun _ => none)))))), (e2, .inl (k 4, 10, .inr (.inr (.inr (.inr (fun _ => none))))))] t) A) ([.ref h0] : List Value).toArray s 1 61 A) (F0 m 10 ls []) := by
    intro d_i1
    induction d_i1 with
    | zero =>
      intro i1 H locs ls hi_i1 hP hD hS hl
      refine lv_iload hx hb d_Ed_study_10 (lv_at hl 3 rfl) ?_
      refine lv_bipush (v := 9) hx hb d_Ed_study_12 (by decide) ?_
      refine lv_icmp_gt (tgt := 98) hx hb d_Ed_study_14 (by decide) (fun c_14 => ?_) (fun c_14 => ?_)
      · refine lv_iconst (v := 1) hx hb d_Ed_study_98 (by decide) ?_
        refine lv_istore (lv' := [(4, .int 1), (0, .ref h0), (1, .ref wy), (2, .long 0)]) hx hb d_Ed_study_99 hl (by decide) rfl (fun ls hl => ?_)
        have loop_101 : ∀ (d_i2 i2 : Nat) (H : Heap) (locs : List Loc) (ls : Array Slot), i2 + d_i2 = 61 → va_P (dC, dI) classes [(h0, .inr (3, [.ref e1, .ref e2, .int 0, .long 0, .long 0, .long 0])), (e1, .inl (k 3, 61, .inr (.inr (.inr (.inr (fun _ => none)))))), (e2, .inl (k 4, 10, .inr (.inr (.inr (.inr (fun _ => none)))))), (wy, .inl (k 1, 61, .inr (.inl (fun _ => 0))))] H → va_D A [(h0, .inr (3, [.ref e1, .ref e2, .int 0, .long 0, .long 0, .long 0])), (e1, .inl (k 3, 61, .inr (.inr (.inr (.inr (fun _ => none)))))), (e2, .inl (k 4, 10, .inr (.inr (.inr (.inr (fun _ => none)))))), (wy, .inl (k 1, 61, .inr (.inl (fun _ => 0))))] → va_S A s.heap H locs → lv_has ls 6 [(0, .ref h0), (1, .ref wy), (2, .long 0), (4, .int (nI i2))] → W p l e (headSpec (Cond.code y_Ed_study b_Ed_study 6 none :: z_T) (z_rm 2 1 61)).room s m ([.ref h0] : List Value).toArray below meth c H locs 1 61 (MQ below (va_Qv (fun (u : Unit) => True) (fun (u : Unit) t => z_B dC dI k A [(h0, .inr (3, [.ref e1, .ref e2, .int 0, .long 0, .long 0, .long 0])), (e1, .inl (k 3, 61, .inr (.inr (.inr (.inr (fun _ => none)))))), (e2, .inl (k 4, 10, .inr (.inr (.inr (.inr (fun _ => none))))))] t) A) ([.ref h0] : List Value).toArray s 1 61 A) (F0 m 101 ls []) := by
          intro d_i2
          induction d_i2 with
          | zero =>
            intro i2 H locs ls hi_i2 hP hD hS hl
            refine lv_iload hx hb d_Ed_study_101 (lv_at hl 3 rfl) ?_
            refine lv_bipush (v := 60) hx hb d_Ed_study_103 (by decide) ?_
            refine lv_icmp_gt (tgt := 189) hx hb d_Ed_study_105 (by decide) (fun c_105 => ?_) (fun c_105 => ?_)
            · have hP9 := hP.sub (ws' := [(h0, .inr (3, [.ref e1, .ref e2, .int 0, .long 0, .long 0, .long 0])), (e1, .inl (k 3, 61, .inr (.inr (.inr (.inr (fun _ => none)))))), (e2, .inl (k 4, 10, .inr (.inr (.inr (.inr (fun _ => none))))))]) [0, 1, 2] rfl
              have hD9 := hD.sub (ws' := [(h0, .inr (3, [.ref e1, .ref e2, .int 0, .long 0, .long 0, .long 0])), (e1, .inl (k 3, 61, .inr (.inr (.inr (.inr (fun _ => none)))))), (e2, .inl (k 4, 10, .inr (.inr (.inr (.inr (fun _ => none))))))]) [0, 1, 2] (by decide) rfl
              exact W.vret hx hb hr (fun t ht hW => ⟨⟨(), rfl, trivial, by rw [ht]; exact hP9, va_K.moved hW.alike hK, hD9⟩, hS.F ht⟩) hS.2.2 d_Ed_study_189
            · exact absurd (show nI 60 < nI i2 from nI_lt (by omega) (by omega)) c_105
          | succ d_i2 ih_i2 =>
            intro i2 H locs ls hi_i2 hP hD hS hl
            refine lv_iload hx hb d_Ed_study_101 (lv_at hl 3 rfl) ?_
            refine lv_bipush (v := 60) hx hb d_Ed_study_103 (by decide) ?_
            refine lv_icmp_gt (tgt := 189) hx hb d_Ed_study_105 (by decide) (fun c_105 => ?_) (fun c_105 => ?_)
            · exact absurd (show nI 60 < nI i2 from c_105) (nI_nlt (by omega) (by decide))
            · refine lv_aload_n hx hb d_Ed_study_108 rfl (lv_at hl 0 rfl) ?_
              refine va_get (D := (dC, dI)) (ci := 3) (v := .ref e1) (C := R_Ed) (T := F_Ed) (N := 6) hx hb htz i_Ed hown hK hP 0 rfl rfl 0 (by decide) (htz _ kf_Ed_11) (fun _ h9 => h9) rfl d_Ed_study_109 ?_
              refine lv_iload hx hb d_Ed_study_112 (lv_at hl 3 rfl) ?_
              refine va_aldq hx hb hK hP 1 3 rfl rfl (vp_in_nI (by omega) (by decide)) d_Ed_study_114 ?_
              refine lv_ifnullN (tgt := 183) hx hb d_Ed_study_115 (by decide) ?_
              refine lv_iinc (v := nI (i2 + 1)) (lv' := [(4, .int (nI (i2 + 1))), (0, .ref h0), (1, .ref wy), (2, .long 0)]) hx hb d_Ed_study_183 hl (k := 3) rfl (nI_1 i2) (by decide) rfl (fun ls hl => ?_)
              refine lv_goto (tgt := 101) hx hb d_Ed_study_186 (by decide) ?_
              exact ih_i2 (i2 + 1) H locs ls (by omega) (hP.sub [0, 1, 2, 3] rfl) (hD.sub [0, 1, 2, 3] (by decide) rfl) hS (lv_sub hl [1, 2, 3, 0] rfl)
        exact loop_101 60 1 _ _ ls (by omega) hP hD hS (lv_sub hl [1, 2, 3, 0] rfl)
      · exact absurd (show nI 9 < nI i1 from nI_lt (by omega) (by omega)) c_14
    | succ d_i1 ih_i1 =>
      intro i1 H locs ls hi_i1 hP hD hS hl
      refine lv_iload hx hb d_Ed_study_10 (lv_at hl 3 rfl) ?_
      refine lv_bipush (v := 9) hx hb d_Ed_study_12 (by decide) ?_
      refine lv_icmp_gt (tgt := 98) hx hb d_Ed_study_14 (by decide) (fun c_14 => ?_) (fun c_14 => ?_)
      · exact absurd (show nI 9 < nI i1 from c_14) (nI_nlt (by omega) (by decide))
      · refine lv_aload_n hx hb d_Ed_study_17 rfl (lv_at hl 0 rfl) ?_
        refine va_get (D := (dC, dI)) (ci := 3) (v := .ref e2) (C := R_Ed) (T := F_Ed) (N := 6) hx hb htz i_Ed hown hK hP 0 rfl rfl 1 (by decide) (htz _ kf_Ed_19) (fun _ h9 => h9) rfl d_Ed_study_18 ?_
        refine lv_iload hx hb d_Ed_study_21 (lv_at hl 3 rfl) ?_
        refine va_aldq hx hb hK hP 2 4 rfl rfl (vp_in_nI (by omega) (by decide)) d_Ed_study_23 ?_
        refine lv_ifnonnullN hx hb d_Ed_study_24 ?_
        refine lv_iconst (v := 0) hx hb d_Ed_study_27 (by decide) ?_
        refine lv_goto (tgt := 45) hx hb d_Ed_study_28 (by decide) ?_
        refine lv_istore (lv' := [(5, .int 0), (0, .ref h0), (1, .ref wy), (2, .long 0), (4, .int (nI i1))]) hx hb d_Ed_study_45 hl (by decide) rfl (fun ls hl => ?_)
        refine lv_iload hx hb d_Ed_study_47 (lv_at hl 0 rfl) ?_
        refine lv_if_eq (tgt := 92) hx hb d_Ed_study_49 (by decide) (fun c_49 => ?_) (fun c_49 => ?_)
        · refine lv_iinc (v := nI (i1 + 1)) (lv' := [(4, .int (nI (i1 + 1))), (5, .int 0), (0, .ref h0), (1, .ref wy), (2, .long 0)]) hx hb d_Ed_study_92 hl (k := 4) rfl (nI_1 i1) (by decide) rfl (fun ls hl => ?_)
          refine lv_goto (tgt := 10) hx hb d_Ed_study_95 (by decide) ?_
          exact ih_i1 (i1 + 1) H locs ls (by omega) (hP.sub [0, 1, 2, 3] rfl) (hD.sub [0, 1, 2, 3] (by decide) rfl) hS (lv_sub hl [2, 3, 4, 0] rfl)
        · exact absurd rfl c_49
  exact loop_10 9 1 _ _ ls (by omega) hP hD hS (lv_sub hl [3, 2, 1, 0] rfl)
set_option maxHeartbeats 1000000 in
set_option maxRecDepth 100000 in
theorem c_TR_readTape_0 (l : Launch) (dC : Nat → ClassId) (dI : Nat → Nat → Nat) (k : Nat → ClassId) (sz : Nat) (h0 : Nat) (t1 : Nat) (t2 : Nat) (t3 : Nat) : Met l y_TR_readTape (Cond.codeWith y_TR_readTape b_TR_readTape 3 (some .int) [((11), (60), (63), (55))] :: z_T) (z_rm 1 0 0) (z_Pc dC dI k sz [.ref h0] [(h0, .inr (1, [.ref t1, .ref t2, .ref t3, .int 0, .int 0])), (t1, .inl (k 0, 400, .inl (fun _ => 0))), (t2, .inl (k 3, 61, .inr (.inr (.inr (.inr (fun _ => none)))))), (t3, .inl (k 4, 10, .inr (.inr (.inr (.inr (fun _ => none))))))]) (va_Qi (fun (r : Int32) (u : Unit) => r = -1) (fun (u : Unit) t => z_B dC dI k (va_A [(h0, .inr (1, [.ref t1, .ref t2, .ref t3, .int 0, .int 0])), (t1, .inl (k 0, 400, .inl (fun _ => 0))), (t2, .inl (k 3, 61, .inr (.inr (.inr (.inr (fun _ => none)))))), (t3, .inl (k 4, 10, .inr (.inr (.inr (.inr (fun _ => none))))))] sz) [(h0, .inr (1, [.ref t1, .ref t2, .ref t3, .int 0, .int 0])), (t1, .inl (k 0, 400, .inl (fun _ => 0))), (t2, .inl (k 3, 61, .inr (.inr (.inr (.inr (fun _ => none)))))), (t3, .inl (k 4, 10, .inr (.inr (.inr (.inr (fun _ => none))))))] t) (va_A [(h0, .inr (1, [.ref t1, .ref t2, .ref t3, .int 0, .int 0])), (t1, .inl (k 0, 400, .inl (fun _ => 0))), (t2, .inl (k 3, 61, .inr (.inr (.inr (.inr (fun _ => none)))))), (t3, .inl (k 4, 10, .inr (.inr (.inr (.inr (fun _ => none))))))] sz)) 0 0 (va_A [(h0, .inr (1, [.ref t1, .ref t2, .ref t3, .int 0, .int 0])), (t1, .inl (k 0, 400, .inl (fun _ => 0))), (t2, .inl (k 3, 61, .inr (.inr (.inr (.inr (fun _ => none)))))), (t3, .inl (k 4, 10, .inr (.inr (.inr (.inr (fun _ => none))))))] sz) := by
  refine va_MetW (cc := b_TR_readTape) (maxL := 3) (ret := (some .int)) (by decide) rfl ?_
  intro p e s m args below meth c s₁ B hml hv
  obtain ⟨rfl, hsz, hE, hP, hK, hD0⟩ := hv
  have hx := B.exec
  have hb := B.bytes
  have hr := B.returns
  have hts := atoms_spec (ws := Cond.codeWith y_TR_readTape b_TR_readTape 3 (some .int) [((11), (60), (63), (55))] :: z_T) B.pre
  have htz : ∀ w ∈ z_T, w.before _ s = true := fun w h => hts w (z_cons w h)
  have hown : s.vm.findClass "QuestionText$TextReader" = some m.cls := findClass_of_methodNamed B.named
  have hlocks := B.notSynchronized
  subst hsz
  have hD := hD0.self (sz := s.heap.size)
  generalize hAe : va_A [(h0, .inr (1, [.ref t1, .ref t2, .ref t3, .int 0, .int 0])), (t1, .inl (k 0, 400, .inl (fun _ => 0))), (t2, .inl (k 3, 61, .inr (.inr (.inr (.inr (fun _ => none)))))), (t3, .inl (k 4, 10, .inr (.inr (.inr (.inr (fun _ => none))))))] s.heap.size = A at hD hE ⊢
  have hA : ∀ q : Nat, s.heap.size ≤ q → A q := fun q h => by rw [← hAe]; exact Or.inr h
  have hS : va_S A s.heap s.heap [] := va_S.rf
  have hP : va_P (dC, dI) classes [(h0, .inr (1, [.ref t1, .ref t2, .ref t3, .int 0, .int 0])), (t1, .inl (k 0, 400, .inl (fun _ => 0))), (t2, .inl (k 3, 61, .inr (.inr (.inr (.inr (fun _ => none)))))), (t3, .inl (k 4, 10, .inr (.inr (.inr (.inr (fun _ => none))))))] s.heap := hP
  have hl := lv_entry ([.ref h0]) (n := 3) (Nat.le_of_ble_eq_true rfl)
  rw [lg_entry_eq]
  generalize (lg_sl ([.ref h0]) ++ List.replicate (3 - (lg_sl ([.ref h0])).length) Slot.unset).toArray = ls at hl ⊢
  have hl : lv_has ls 3 [(0, .ref h0)] := hl
  refine lv_aload_n hx hb d_TR_readTape_0 rfl (lv_at hl 0 rfl) ?_
  have hPc := hP.sub (ws' := [(h0, .inr (1, [.ref t1, .ref t2, .ref t3, .int 0, .int 0])), (t1, .inl (k 0, 400, .inl (fun _ => 0))), (t2, .inl (k 3, 61, .inr (.inr (.inr (.inr (fun _ => none)))))), (t3, .inl (k 4, 10, .inr (.inr (.inr (.inr (fun _ => none))))))]) [0, 1, 2, 3] rfl
  have hDc := hD.sub (ws' := [(h0, .inr (1, [.ref t1, .ref t2, .ref t3, .int 0, .int 0])), (t1, .inl (k 0, 400, .inl (fun _ => 0))), (t2, .inl (k 3, 61, .inr (.inr (.inr (.inr (fun _ => none)))))), (t3, .inl (k 4, 10, .inr (.inr (.inr (.inr (fun _ => none))))))]) [0, 1, 2, 3] (by decide) rfl
  have hFc := va_free (wc := [(h0, .inr (1, [.ref t1, .ref t2, .ref t3, .int 0, .int 0])), (t1, .inl (k 0, 400, .inl (fun _ => 0))), (t2, .inl (k 3, 61, .inr (.inr (.inr (.inr (fun _ => none)))))), (t3, .inl (k 4, 10, .inr (.inr (.inr (.inr (fun _ => none))))))]) hD hS hA [0, 1, 2, 3] rfl
  refine va_callv (va_runV (As := []) (rest := []) ⟨hx, hb, hml, hown, htz⟩ (c_TR_forgetRows_0 l dC dI k s.heap.size h0 t1 t2 t3) (cwV 0 htz (z_gV (fun _ h => h) km_TR_34 in_TR_forgetRows se_TR_forgetRows ini_TR m_TR_forgetRows) rfl rfl rfl (by decide +kernel) ⟨(Nat.le_of_ble_eq_true rfl), (Nat.le_of_ble_eq_true rfl)⟩) ⟨z_blind, va_recv hK hPc (ci := 1) (q0 := 0) rfl rfl, fun U hU hW => ⟨rfl, by rw [hU], hE.call hS hFc hU hW, by rw [hU]; exact hPc, va_K.moved hW.alike hK, hDc.weaken (fun _ _ _ _ => trivial)⟩⟩ rfl rfl hl.1 rfl (lv_room (Nat.le_of_ble_eq_true rfl)) d_TR_readTape_1 ⟨(Nat.le_of_ble_eq_true rfl), (Nat.le_of_ble_eq_true rfl)⟩) hS (fun q _ h => hFc q h) hFc (fun u t H1 locs ht hvm hw hB hz1 hk1 hS => ?_)
  obtain ⟨hP1, hK1, hD1⟩ := hB
  rw [ht] at hP1
  try dsimp only at hw
  obtain ⟨hP, hD⟩ := va_join (wr := []) (w1 := [(h0, .inr (1, [.ref t1, .ref t2, .ref t3, .int 0, .int 0])), (t1, .inl (k 0, 400, .inl (fun _ => 0))), (t2, .inl (k 3, 61, .inr (.inr (.inr (.inr (fun _ => none)))))), (t3, .inl (k 4, 10, .inr (.inr (.inr (.inr (fun _ => none))))))]) hP hD [0, 1, 2, 3] [] rfl rfl (by decide) (by decide) hk1 hFc hP1 hD1
  generalize H1 = H at hP hS ⊢
  have hP : va_P (dC, dI) classes [(h0, .inr (1, [.ref t1, .ref t2, .ref t3, .int 0, .int 0])), (t1, .inl (k 0, 400, .inl (fun _ => 0))), (t2, .inl (k 3, 61, .inr (.inr (.inr (.inr (fun _ => none)))))), (t3, .inl (k 4, 10, .inr (.inr (.inr (.inr (fun _ => none))))))] H := hP
  have hD : va_D A [(h0, .inr (1, [.ref t1, .ref t2, .ref t3, .int 0, .int 0])), (t1, .inl (k 0, 400, .inl (fun _ => 0))), (t2, .inl (k 3, 61, .inr (.inr (.inr (.inr (fun _ => none)))))), (t3, .inl (k 4, 10, .inr (.inr (.inr (.inr (fun _ => none))))))] := hD
  refine lv_aload_n hx hb d_TR_readTape_4 rfl (lv_at hl 0 rfl) ?_
  refine lv_iconst (v := 0) hx hb d_TR_readTape_5 (by decide) ?_
  refine va_put (D := (dC, dI)) (ci := 1) (v := .int 0) (ty := .int) (C := R_TR) (T := F_TR) (N := 5) hx hb htz i_TR t_TR o_TR n_TR hown hK hP hD hS 0 rfl rfl 4 (by decide) (htz _ kf_TR_31) (fun _ h9 => h9) rfl (by decide +kernel) rfl rfl (Nat.le_of_ble_eq_true rfl) d_TR_readTape_6 (fun H locs hP hD hS => ?_)
  have hP : va_P (dC, dI) classes [(h0, .inr (1, [.ref t1, .ref t2, .ref t3, .int 0, .int 0])), (t1, .inl (k 0, 400, .inl (fun _ => 0))), (t2, .inl (k 3, 61, .inr (.inr (.inr (.inr (fun _ => none)))))), (t3, .inl (k 4, 10, .inr (.inr (.inr (.inr (fun _ => none))))))] H := hP
  have hD : va_D A [(h0, .inr (1, [.ref t1, .ref t2, .ref t3, .int 0, .int 0])), (t1, .inl (k 0, 400, .inl (fun _ => 0))), (t2, .inl (k 3, 61, .inr (.inr (.inr (.inr (fun _ => none)))))), (t3, .inl (k 4, 10, .inr (.inr (.inr (.inr (fun _ => none))))))] := hD
  refine lv_iconst (v := -1) hx hb d_TR_readTape_9 (by decide) ?_
  refine lv_istore_n (lv' := [(1, .int (-1)), (0, .ref h0)]) hx hb d_TR_readTape_10 rfl hl (by decide) rfl (fun ls hl => ?_)
  refine lv_iconst (v := 0) hx hb d_TR_readTape_11 (by decide) ?_
  refine lv_istore_n (lv' := [(2, .int 0), (1, .int (-1)), (0, .ref h0)]) hx hb d_TR_readTape_12 rfl hl (by decide) rfl (fun ls hl => ?_)
  refine lv_iload_n hx hb d_TR_readTape_13 rfl (lv_at hl 0 rfl) ?_
  refine lv_sipush (v := 400) hx hb d_TR_readTape_14 (by decide) ?_
  refine lv_icmp_ge (tgt := 60) hx hb d_TR_readTape_17 (by decide) (fun c_17 => ?_) (fun c_17 => ?_)
  · exact absurd c_17 (by decide)
  · refine lv_aload_n hx hb d_TR_readTape_20 rfl (lv_at hl 2 rfl) ?_
    have hPc := hP.sub (ws' := [(h0, .inr (1, [.ref t1, .ref t2, .ref t3, .int 0, .int 0])), (t1, .inl (k 0, 400, .inl (fun _ => 0))), (t2, .inl (k 3, 61, .inr (.inr (.inr (.inr (fun _ => none)))))), (t3, .inl (k 4, 10, .inr (.inr (.inr (.inr (fun _ => none))))))]) [0, 1, 2, 3] rfl
    have hDc := hD.sub (ws' := [(h0, .inr (1, [.ref t1, .ref t2, .ref t3, .int 0, .int 0])), (t1, .inl (k 0, 400, .inl (fun _ => 0))), (t2, .inl (k 3, 61, .inr (.inr (.inr (.inr (fun _ => none)))))), (t3, .inl (k 4, 10, .inr (.inr (.inr (.inr (fun _ => none))))))]) [0, 1, 2, 3] (by decide) rfl
    have hFc := va_free (wc := [(h0, .inr (1, [.ref t1, .ref t2, .ref t3, .int 0, .int 0])), (t1, .inl (k 0, 400, .inl (fun _ => 0))), (t2, .inl (k 3, 61, .inr (.inr (.inr (.inr (fun _ => none)))))), (t3, .inl (k 4, 10, .inr (.inr (.inr (.inr (fun _ => none))))))]) hD hS hA [0, 1, 2, 3] rfl
    refine va_calli (va_runV (As := []) (rest := []) ⟨hx, hb, hml, hown, htz⟩ (c_TR_nextSign_0 l dC dI k H.size h0 t1 t2 t3) (cwV 0 htz (z_gV (fun _ h => h) km_TR_37 in_TR_nextSign se_TR_nextSign ini_TR m_TR_nextSign) rfl rfl rfl (by decide +kernel) ⟨(Nat.le_of_ble_eq_true rfl), (Nat.le_of_ble_eq_true rfl)⟩) ⟨z_blind, va_recv hK hPc (ci := 1) (q0 := 0) rfl rfl, fun U hU hW => ⟨rfl, by rw [hU], hE.call hS hFc hU hW, by rw [hU]; exact hPc, va_K.moved hW.alike hK, hDc.weaken (fun _ _ _ _ => trivial)⟩⟩ rfl rfl hl.1 rfl (lv_room (Nat.le_of_ble_eq_true rfl)) d_TR_readTape_21 ⟨(Nat.le_of_ble_eq_true rfl), (Nat.le_of_ble_eq_true rfl)⟩) hS (fun q _ h => hFc q h) hFc (fun r1 u t H1 locs ht hvm hw hB hz1 hk1 hS => ?_)
    obtain ⟨hP1, hK1, hD1⟩ := hB
    rw [ht] at hP1
    try dsimp only at hw
    obtain ⟨hP, hD⟩ := va_join (wr := []) (w1 := [(h0, .inr (1, [.ref t1, .ref t2, .ref t3, .int 0, .int 0])), (t1, .inl (k 0, 400, .inl (fun _ => 0))), (t2, .inl (k 3, 61, .inr (.inr (.inr (.inr (fun _ => none)))))), (t3, .inl (k 4, 10, .inr (.inr (.inr (.inr (fun _ => none))))))]) hP hD [0, 1, 2, 3] [] rfl rfl (by decide) (by decide) hk1 hFc hP1 hD1
    generalize H1 = H at hP hS ⊢
    have hP : va_P (dC, dI) classes [(h0, .inr (1, [.ref t1, .ref t2, .ref t3, .int 0, .int 0])), (t1, .inl (k 0, 400, .inl (fun _ => 0))), (t2, .inl (k 3, 61, .inr (.inr (.inr (.inr (fun _ => none)))))), (t3, .inl (k 4, 10, .inr (.inr (.inr (.inr (fun _ => none))))))] H := hP
    have hD : va_D A [(h0, .inr (1, [.ref t1, .ref t2, .ref t3, .int 0, .int 0])), (t1, .inl (k 0, 400, .inl (fun _ => 0))), (t2, .inl (k 3, 61, .inr (.inr (.inr (.inr (fun _ => none)))))), (t3, .inl (k 4, 10, .inr (.inr (.inr (.inr (fun _ => none))))))] := hD
    refine lv_iconst (v := -1) hx hb d_TR_readTape_24 (by decide) ?_
    refine lv_icmp_eq (tgt := 60) hx hb d_TR_readTape_25 (by decide) (fun c_25 => ?_) (fun c_25 => ?_)
    · refine lv_goto (tgt := 69) hx hb d_TR_readTape_60 (by decide) ?_
      refine lv_aload_n hx hb d_TR_readTape_69 rfl (lv_at hl 2 rfl) ?_
      refine lv_iconst (v := 0) hx hb d_TR_readTape_70 (by decide) ?_
      refine va_put (D := (dC, dI)) (ci := 1) (v := .int 0) (ty := .int) (C := R_TR) (T := F_TR) (N := 5) hx hb htz i_TR t_TR o_TR n_TR hown hK hP hD hS 0 rfl rfl 3 (by decide) (htz _ kf_TR_27) (fun _ h9 => h9) rfl (by decide +kernel) rfl rfl (Nat.le_of_ble_eq_true rfl) d_TR_readTape_71 (fun H locs hP hD hS => ?_)
      have hP : va_P (dC, dI) classes [(h0, .inr (1, [.ref t1, .ref t2, .ref t3, .int 0, .int 0])), (t1, .inl (k 0, 400, .inl (fun _ => 0))), (t2, .inl (k 3, 61, .inr (.inr (.inr (.inr (fun _ => none)))))), (t3, .inl (k 4, 10, .inr (.inr (.inr (.inr (fun _ => none))))))] H := hP
      have hD : va_D A [(h0, .inr (1, [.ref t1, .ref t2, .ref t3, .int 0, .int 0])), (t1, .inl (k 0, 400, .inl (fun _ => 0))), (t2, .inl (k 3, 61, .inr (.inr (.inr (.inr (fun _ => none)))))), (t3, .inl (k 4, 10, .inr (.inr (.inr (.inr (fun _ => none))))))] := hD
      refine lv_iload_n hx hb d_TR_readTape_74 rfl (lv_at hl 1 rfl) ?_
      have hP9 := hP.sub (ws' := [(h0, .inr (1, [.ref t1, .ref t2, .ref t3, .int 0, .int 0])), (t1, .inl (k 0, 400, .inl (fun _ => 0))), (t2, .inl (k 3, 61, .inr (.inr (.inr (.inr (fun _ => none)))))), (t3, .inl (k 4, 10, .inr (.inr (.inr (.inr (fun _ => none))))))]) [0, 1, 2, 3] rfl
      have hD9 := hD.sub (ws' := [(h0, .inr (1, [.ref t1, .ref t2, .ref t3, .int 0, .int 0])), (t1, .inl (k 0, 400, .inl (fun _ => 0))), (t2, .inl (k 3, 61, .inr (.inr (.inr (.inr (fun _ => none)))))), (t3, .inl (k 4, 10, .inr (.inr (.inr (.inr (fun _ => none))))))]) [0, 1, 2, 3] (by decide) rfl
      exact W.iret (v := (-1)) hx hb hr (fun t ht hW => ⟨⟨(-1), (), rfl, rfl, by rw [ht]; exact hP9, va_K.moved hW.alike hK, hD9⟩, hS.F ht⟩) hS.2.2 d_TR_readTape_75
    · exact absurd hw c_25
