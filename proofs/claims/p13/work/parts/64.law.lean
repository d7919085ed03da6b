theorem kl_La_57 : Cond.constantLong "QuestionTextLaw" 57 4294967295 ∈ z_T := z_in (z_mem 1255 (by decide +kernel)) rfl
def cL (C : CT) (own : String) (b : ByteArray) (nL : Nat) (ret : Option FieldType) (b_ L_ : Nat) (xs : Nat → Int32) : Prop := cM C own b nL ret ∧ match C with
  | ((l, _, _, _, _), _, _, s, _, _, _, _, _, A) => va_X b_ L_ xs s s.heap ∧ b_ < s.heap.size ∧ ¬ A b_ ∧ l.stackTraces = false
def s_m (k : Nat → ClassId) (a : Nat → Nat) (f : FT) (g : GT) : va_W := [(a 0, .inr (4, [.int (f 0), .int (f 1), .ref (a 1), .int (f 2), .int (f 3), .int (f 4), .ref (a 2), .ref (a 3), .ref (a 4), .ref (a 5), .ref (a 6), .ref (a 7), .ref (a 8), .ref (a 9), .ref (a 10), .ref (a 11), .ref (a 12), .ref (a 13), .int (f 5), .int (f 6), .int (f 7), .int (f 8), .ref (a 14), .ref (a 15), .int (f 9), .int (f 10), .int (f 11), .int (f 12), .ref (a 16), .ref (a 17), .ref (a 18)])), (a 1, .inl (k 0, 400, .inl (g 0))), (a 2, .inl (k 2, 610, .inl (g 1))), (a 3, .inl (k 2, 610, .inl (g 2))), (a 4, .inl (k 0, 610, .inl (g 3))), (a 5, .inl (k 0, 610, .inl (g 4))), (a 6, .inl (k 0, 1220, .inl (g 5))), (a 7, .inl (k 0, 14640, .inl (g 6))), (a 8, .inl (k 0, 610, .inl (g 7))), (a 9, .inl (k 0, 14640, .inl (g 8))), (a 10, .inl (k 0, 100, .inl (g 9))), (a 11, .inl (k 0, 100, .inl (g 10))), (a 12, .inl (k 0, 100, .inl (g 11))), (a 13, .inl (k 0, 8400, .inl (g 12))), (a 14, .inl (k 2, 61, .inl (g 13))), (a 15, .inl (k 2, 10, .inl (g 14))), (a 16, .inl (k 0, 40, .inl (g 15))), (a 17, .inl (k 0, 61, .inl (g 16))), (a 18, .inl (k 2, 61, .inl (g 17)))]
def zc_La_lawL (C : CT) (Post : State → Prop) (c0 s0 pc : Nat) (loc : List (Nat × Value)) (st : List Value) (ws : va_W) : Prop := zW C room_1 7 Post c0 s0 pc loc st ws
set_option maxHeartbeats 1000000 in
set_option maxRecDepth 100000 in
theorem k_La_lawL_23 {C : CT} {b_ L_ : Nat} {xs : Nat → Int32} (X : cL C "QuestionTextLaw" b_La_law 7 (some .boolean) b_ L_ xs) (Post : State → Prop) {P_138 : Int32 → va_W → Prop} {P_182 : Int32 → va_W → Prop} {P_197 : Int32 → va_W → Prop} {P_217 : Int32 → va_W → Prop} {P_245 : Int32 → va_W → Prop} {P_273 : Int32 → va_W → Prop} {P_294 : Int32 → va_W → Prop} {P_308 : Int32 → va_W → Prop} {P_324 : Int32 → va_W → Prop} {P_346 : Int32 → va_W → Prop} {P_374 : Int32 → va_W → Prop} {P_402 : Int32 → va_W → Prop} {P_458 : Int32 → va_W → Prop} {P_498 : Int32 → va_W → Prop} (x4 : Int32) (f_q : FT) (r_q : Nat → Nat → Option Nat) (c_q : Nat) (f_t : FT) (g_t : GT) (r_r : Nat → Nat → Option Nat) (f_c : FT) (g_c : GT) (f_m : FT) (g_m : GT) (P : va_W) (ou : Nat) (of : Nat → Int64) (MM : Nat) (SS : Nat) (c0 s0 : Nat)
    (k_537 : ((Int32.ofNat L_) - 4 < x4) → zc_La_lawL C Post c0 s0 537 [(0, .ref b_), (1, .ref (ad C.1 24)), (2, .ref (ad C.1 0)), (3, .ref ou), (4, .int x4)] [.int 1] ([(ou, .inl (C.1.2.2.2.1 1, 1, .inr (.inl of)))] ++ (s_q C.1.2.2.2.1 C.1.2.2.2.2 f_q r_q c_q ++ (s_t C.1.2.2.2.1 C.1.2.2.2.2 f_t g_t ++ (s_r C.1.2.2.2.1 C.1.2.2.2.2 r_r ++ (s_c C.1.2.2.2.1 C.1.2.2.2.2 f_c g_c ++ (s_m C.1.2.2.2.1 C.1.2.2.2.2 f_m g_m ++ (P))))))))
    (h_35 : (¬ (Int32.ofNat L_) - 4 < x4) → vp_in (x4) L_)
    (h_114 : (¬ (Int32.ofNat L_) - 4 < x4) → ((xs (x4 : Int32).toNatClampNeg) &&& 15 = 0) → vp_in (x4 + 1) L_)
    (h_124 : (¬ (Int32.ofNat L_) - 4 < x4) → ((xs (x4 : Int32).toNatClampNeg) &&& 15 = 0) → vp_in (x4 + 2) L_)
    (h_136 : (¬ (Int32.ofNat L_) - 4 < x4) → ((xs (x4 : Int32).toNatClampNeg) &&& 15 = 0) → vp_in (x4 + 3) L_)
    (b_138 : (¬ (Int32.ofNat L_) - 4 < x4) → ((xs (x4 : Int32).toNatClampNeg) &&& 15 = 0) → c0 + 1 ≤ 601024 ∧ s0 + 6 ≤ 7293034)
    (m_138 : (¬ (Int32.ofNat L_) - 4 < x4) → ((xs (x4 : Int32).toNatClampNeg) &&& 15 = 0) → uI C.1 y_La_sign (Cond.codeWith y_La_sign b_La_sign 6 (some .int) [(0, 11, 14, 13), (0, 11, 18, 15)]) 2 1 6 [.ref (ad C.1 24), .long ((((xs (x4 + 1 : Int32).toNatClampNeg).toInt64) <<< ((32 : Int32).toInt64 &&& 63)) ||| (((xs (x4 + 2 : Int32).toNatClampNeg).toInt64) &&& 4294967295)), .int (xs (x4 + 3 : Int32).toNatClampNeg), .ref ou] ([(ou, .inl (C.1.2.2.2.1 1, 1, .inr (.inl of)))] ++ (s_q C.1.2.2.2.1 C.1.2.2.2.2 f_q r_q c_q ++ (s_t C.1.2.2.2.1 C.1.2.2.2.2 f_t g_t ++ (s_r C.1.2.2.2.1 C.1.2.2.2.2 r_r ++ (s_c C.1.2.2.2.1 C.1.2.2.2.2 f_c g_c ++ (P)))))) P_138)
    (k_138 : (¬ (Int32.ofNat L_) - 4 < x4) → ((xs (x4 : Int32).toNatClampNeg) &&& 15 = 0) → ∀ (r : Int32) (u : va_W), P_138 r u → zc_La_lawL C Post (c0 + 1) (s0 + 6) 141 [(0, .ref b_), (1, .ref (ad C.1 24)), (2, .ref (ad C.1 0)), (3, .ref ou), (4, .int x4)] [.int r] (s_m C.1.2.2.2.1 C.1.2.2.2.2 f_m g_m ++ (u)))
    (b_182 : (¬ (Int32.ofNat L_) - 4 < x4) → (¬ (xs (x4 : Int32).toNatClampNeg) &&& 15 = 0) → ((xs (x4 : Int32).toNatClampNeg) &&& 15 = 1) → c0 + MM + 4 ≤ 601024 ∧ s0 + SS + 138 ≤ 7293034)
    (m_182 : (¬ (Int32.ofNat L_) - 4 < x4) → (¬ (xs (x4 : Int32).toNatClampNeg) &&& 15 = 0) → ((xs (x4 : Int32).toNatClampNeg) &&& 15 = 1) → uI C.1 y_La_read (Cond.codeWith y_La_read b_La_read 3 (some .int) [(0, 8, 11, 13), (0, 8, 14, 15)]) 9 (MM + 4) (SS + 138) [.ref (ad C.1 24), .ref ou] ([(ou, .inl (C.1.2.2.2.1 1, 1, .inr (.inl of)))] ++ (s_q C.1.2.2.2.1 C.1.2.2.2.2 f_q r_q c_q ++ (s_t C.1.2.2.2.1 C.1.2.2.2.2 f_t g_t ++ (s_r C.1.2.2.2.1 C.1.2.2.2.2 r_r ++ (s_c C.1.2.2.2.1 C.1.2.2.2.2 f_c g_c ++ (P)))))) P_182)
    (k_182 : (¬ (Int32.ofNat L_) - 4 < x4) → (¬ (xs (x4 : Int32).toNatClampNeg) &&& 15 = 0) → ((xs (x4 : Int32).toNatClampNeg) &&& 15 = 1) → ∀ (r : Int32) (u : va_W), P_182 r u → zc_La_lawL C Post (c0 + MM + 4) (s0 + SS + 138) 185 [(0, .ref b_), (1, .ref (ad C.1 24)), (2, .ref (ad C.1 0)), (3, .ref ou), (4, .int x4)] [.int r] (s_m C.1.2.2.2.1 C.1.2.2.2.2 f_m g_m ++ (u)))
    (b_197 : (¬ (Int32.ofNat L_) - 4 < x4) → (¬ (xs (x4 : Int32).toNatClampNeg) &&& 15 = 0) → (¬ (xs (x4 : Int32).toNatClampNeg) &&& 15 = 1) → ((xs (x4 : Int32).toNatClampNeg) &&& 15 = 2) → c0 ≤ 601024 ∧ s0 ≤ 7293034)
    (m_197 : (¬ (Int32.ofNat L_) - 4 < x4) → (¬ (xs (x4 : Int32).toNatClampNeg) &&& 15 = 0) → (¬ (xs (x4 : Int32).toNatClampNeg) &&& 15 = 1) → ((xs (x4 : Int32).toNatClampNeg) &&& 15 = 2) → uI C.1 y_Q_place (Cond.code y_Q_place b_Q_place 1 (some .int)) 0 0 0 [.ref (ad C.1 24)] (s_q C.1.2.2.2.1 C.1.2.2.2.2 f_q r_q c_q ++ (s_t C.1.2.2.2.1 C.1.2.2.2.2 f_t g_t ++ (s_r C.1.2.2.2.1 C.1.2.2.2.2 r_r ++ (s_c C.1.2.2.2.1 C.1.2.2.2.2 f_c g_c ++ (P))))) P_197)
    (k_197 : (¬ (Int32.ofNat L_) - 4 < x4) → (¬ (xs (x4 : Int32).toNatClampNeg) &&& 15 = 0) → (¬ (xs (x4 : Int32).toNatClampNeg) &&& 15 = 1) → ((xs (x4 : Int32).toNatClampNeg) &&& 15 = 2) → ∀ (r : Int32) (u : va_W), P_197 r u → zc_La_lawL C Post c0 s0 200 [(0, .ref b_), (1, .ref (ad C.1 24)), (2, .ref (ad C.1 0)), (3, .ref ou), (4, .int x4)] [.int r] ([(ou, .inl (C.1.2.2.2.1 1, 1, .inr (.inl of)))] ++ (s_m C.1.2.2.2.1 C.1.2.2.2.2 f_m g_m) ++ (u)))
    (h_215 : (¬ (Int32.ofNat L_) - 4 < x4) → (¬ (xs (x4 : Int32).toNatClampNeg) &&& 15 = 0) → (¬ (xs (x4 : Int32).toNatClampNeg) &&& 15 = 1) → (¬ (xs (x4 : Int32).toNatClampNeg) &&& 15 = 2) → ((xs (x4 : Int32).toNatClampNeg) &&& 15 = 3) → vp_in (x4 + 1) L_)
    (b_217 : (¬ (Int32.ofNat L_) - 4 < x4) → (¬ (xs (x4 : Int32).toNatClampNeg) &&& 15 = 0) → (¬ (xs (x4 : Int32).toNatClampNeg) &&& 15 = 1) → (¬ (xs (x4 : Int32).toNatClampNeg) &&& 15 = 2) → ((xs (x4 : Int32).toNatClampNeg) &&& 15 = 3) → c0 + 1 ≤ 601024 ∧ s0 + 6 ≤ 7293034)
    (m_217 : (¬ (Int32.ofNat L_) - 4 < x4) → (¬ (xs (x4 : Int32).toNatClampNeg) &&& 15 = 0) → (¬ (xs (x4 : Int32).toNatClampNeg) &&& 15 = 1) → (¬ (xs (x4 : Int32).toNatClampNeg) &&& 15 = 2) → ((xs (x4 : Int32).toNatClampNeg) &&& 15 = 3) → uI C.1 y_La_edition (Cond.codeWith y_La_edition b_La_edition 4 (some .int) [(0, 9, 12, 13)]) 3 1 6 [.ref (ad C.1 24), .int (xs (x4 + 1 : Int32).toNatClampNeg), .ref ou] ([(ou, .inl (C.1.2.2.2.1 1, 1, .inr (.inl of)))] ++ (s_q C.1.2.2.2.1 C.1.2.2.2.2 f_q r_q c_q ++ (s_t C.1.2.2.2.1 C.1.2.2.2.2 f_t g_t ++ (s_r C.1.2.2.2.1 C.1.2.2.2.2 r_r ++ (s_c C.1.2.2.2.1 C.1.2.2.2.2 f_c g_c ++ (P)))))) P_217)
    (k_217 : (¬ (Int32.ofNat L_) - 4 < x4) → (¬ (xs (x4 : Int32).toNatClampNeg) &&& 15 = 0) → (¬ (xs (x4 : Int32).toNatClampNeg) &&& 15 = 1) → (¬ (xs (x4 : Int32).toNatClampNeg) &&& 15 = 2) → ((xs (x4 : Int32).toNatClampNeg) &&& 15 = 3) → ∀ (r : Int32) (u : va_W), P_217 r u → zc_La_lawL C Post (c0 + 1) (s0 + 6) 220 [(0, .ref b_), (1, .ref (ad C.1 24)), (2, .ref (ad C.1 0)), (3, .ref ou), (4, .int x4)] [.int r] (s_m C.1.2.2.2.1 C.1.2.2.2.2 f_m g_m ++ (u)))
    (h_243 : (¬ (Int32.ofNat L_) - 4 < x4) → (¬ (xs (x4 : Int32).toNatClampNeg) &&& 15 = 0) → (¬ (xs (x4 : Int32).toNatClampNeg) &&& 15 = 1) → (¬ (xs (x4 : Int32).toNatClampNeg) &&& 15 = 2) → (¬ (xs (x4 : Int32).toNatClampNeg) &&& 15 = 3) → ((xs (x4 : Int32).toNatClampNeg) &&& 15 = 4) → vp_in (x4 + 1) L_)
    (b_245 : (¬ (Int32.ofNat L_) - 4 < x4) → (¬ (xs (x4 : Int32).toNatClampNeg) &&& 15 = 0) → (¬ (xs (x4 : Int32).toNatClampNeg) &&& 15 = 1) → (¬ (xs (x4 : Int32).toNatClampNeg) &&& 15 = 2) → (¬ (xs (x4 : Int32).toNatClampNeg) &&& 15 = 3) → ((xs (x4 : Int32).toNatClampNeg) &&& 15 = 4) → c0 + 1 ≤ 601024 ∧ s0 + 6 ≤ 7293034)
    (m_245 : (¬ (Int32.ofNat L_) - 4 < x4) → (¬ (xs (x4 : Int32).toNatClampNeg) &&& 15 = 0) → (¬ (xs (x4 : Int32).toNatClampNeg) &&& 15 = 1) → (¬ (xs (x4 : Int32).toNatClampNeg) &&& 15 = 2) → (¬ (xs (x4 : Int32).toNatClampNeg) &&& 15 = 3) → ((xs (x4 : Int32).toNatClampNeg) &&& 15 = 4) → uI C.1 y_La_first (Cond.codeWith y_La_first b_La_first 4 (some .int) [(0, 9, 12, 13)]) 3 1 6 [.ref (ad C.1 24), .int (xs (x4 + 1 : Int32).toNatClampNeg), .ref ou] ([(ou, .inl (C.1.2.2.2.1 1, 1, .inr (.inl of)))] ++ (s_q C.1.2.2.2.1 C.1.2.2.2.2 f_q r_q c_q ++ (s_t C.1.2.2.2.1 C.1.2.2.2.2 f_t g_t ++ (s_r C.1.2.2.2.1 C.1.2.2.2.2 r_r ++ (s_c C.1.2.2.2.1 C.1.2.2.2.2 f_c g_c ++ (P)))))) P_245)
    (k_245 : (¬ (Int32.ofNat L_) - 4 < x4) → (¬ (xs (x4 : Int32).toNatClampNeg) &&& 15 = 0) → (¬ (xs (x4 : Int32).toNatClampNeg) &&& 15 = 1) → (¬ (xs (x4 : Int32).toNatClampNeg) &&& 15 = 2) → (¬ (xs (x4 : Int32).toNatClampNeg) &&& 15 = 3) → ((xs (x4 : Int32).toNatClampNeg) &&& 15 = 4) → ∀ (r : Int32) (u : va_W), P_245 r u → zc_La_lawL C Post (c0 + 1) (s0 + 6) 248 [(0, .ref b_), (1, .ref (ad C.1 24)), (2, .ref (ad C.1 0)), (3, .ref ou), (4, .int x4)] [.int r] (s_m C.1.2.2.2.1 C.1.2.2.2.2 f_m g_m ++ (u)))
    (h_271 : (¬ (Int32.ofNat L_) - 4 < x4) → (¬ (xs (x4 : Int32).toNatClampNeg) &&& 15 = 0) → (¬ (xs (x4 : Int32).toNatClampNeg) &&& 15 = 1) → (¬ (xs (x4 : Int32).toNatClampNeg) &&& 15 = 2) → (¬ (xs (x4 : Int32).toNatClampNeg) &&& 15 = 3) → (¬ (xs (x4 : Int32).toNatClampNeg) &&& 15 = 4) → ((xs (x4 : Int32).toNatClampNeg) &&& 15 = 5) → vp_in (x4 + 1) L_)
    (b_273 : (¬ (Int32.ofNat L_) - 4 < x4) → (¬ (xs (x4 : Int32).toNatClampNeg) &&& 15 = 0) → (¬ (xs (x4 : Int32).toNatClampNeg) &&& 15 = 1) → (¬ (xs (x4 : Int32).toNatClampNeg) &&& 15 = 2) → (¬ (xs (x4 : Int32).toNatClampNeg) &&& 15 = 3) → (¬ (xs (x4 : Int32).toNatClampNeg) &&& 15 = 4) → ((xs (x4 : Int32).toNatClampNeg) &&& 15 = 5) → c0 + 1 ≤ 601024 ∧ s0 + 6 ≤ 7293034)
    (m_273 : (¬ (Int32.ofNat L_) - 4 < x4) → (¬ (xs (x4 : Int32).toNatClampNeg) &&& 15 = 0) → (¬ (xs (x4 : Int32).toNatClampNeg) &&& 15 = 1) → (¬ (xs (x4 : Int32).toNatClampNeg) &&& 15 = 2) → (¬ (xs (x4 : Int32).toNatClampNeg) &&& 15 = 3) → (¬ (xs (x4 : Int32).toNatClampNeg) &&& 15 = 4) → ((xs (x4 : Int32).toNatClampNeg) &&& 15 = 5) → uI C.1 y_La_answer (Cond.codeWith y_La_answer b_La_answer 4 (some .int) [(0, 9, 12, 13), (0, 9, 15, 15)]) 5 1 6 [.ref (ad C.1 24), .int (xs (x4 + 1 : Int32).toNatClampNeg), .ref ou] ([(ou, .inl (C.1.2.2.2.1 1, 1, .inr (.inl of)))] ++ (s_q C.1.2.2.2.1 C.1.2.2.2.2 f_q r_q c_q ++ (s_t C.1.2.2.2.1 C.1.2.2.2.2 f_t g_t ++ (s_r C.1.2.2.2.1 C.1.2.2.2.2 r_r ++ (s_c C.1.2.2.2.1 C.1.2.2.2.2 f_c g_c ++ (P)))))) P_273)
    (k_273 : (¬ (Int32.ofNat L_) - 4 < x4) → (¬ (xs (x4 : Int32).toNatClampNeg) &&& 15 = 0) → (¬ (xs (x4 : Int32).toNatClampNeg) &&& 15 = 1) → (¬ (xs (x4 : Int32).toNatClampNeg) &&& 15 = 2) → (¬ (xs (x4 : Int32).toNatClampNeg) &&& 15 = 3) → (¬ (xs (x4 : Int32).toNatClampNeg) &&& 15 = 4) → ((xs (x4 : Int32).toNatClampNeg) &&& 15 = 5) → ∀ (r : Int32) (u : va_W), P_273 r u → zc_La_lawL C Post (c0 + 1) (s0 + 6) 276 [(0, .ref b_), (1, .ref (ad C.1 24)), (2, .ref (ad C.1 0)), (3, .ref ou), (4, .int x4)] [.int r] (s_m C.1.2.2.2.1 C.1.2.2.2.2 f_m g_m ++ (u)))
    (b_294 : (¬ (Int32.ofNat L_) - 4 < x4) → (¬ (xs (x4 : Int32).toNatClampNeg) &&& 15 = 0) → (¬ (xs (x4 : Int32).toNatClampNeg) &&& 15 = 1) → (¬ (xs (x4 : Int32).toNatClampNeg) &&& 15 = 2) → (¬ (xs (x4 : Int32).toNatClampNeg) &&& 15 = 3) → (¬ (xs (x4 : Int32).toNatClampNeg) &&& 15 = 4) → (¬ (xs (x4 : Int32).toNatClampNeg) &&& 15 = 5) → ((xs (x4 : Int32).toNatClampNeg) &&& 15 = 6) → c0 ≤ 601024 ∧ s0 ≤ 7293034)
    (m_294 : (¬ (Int32.ofNat L_) - 4 < x4) → (¬ (xs (x4 : Int32).toNatClampNeg) &&& 15 = 0) → (¬ (xs (x4 : Int32).toNatClampNeg) &&& 15 = 1) → (¬ (xs (x4 : Int32).toNatClampNeg) &&& 15 = 2) → (¬ (xs (x4 : Int32).toNatClampNeg) &&& 15 = 3) → (¬ (xs (x4 : Int32).toNatClampNeg) &&& 15 = 4) → (¬ (xs (x4 : Int32).toNatClampNeg) &&& 15 = 5) → ((xs (x4 : Int32).toNatClampNeg) &&& 15 = 6) → uI C.1 y_Q_kind (Cond.code y_Q_kind b_Q_kind 1 (some .int)) 0 0 0 [.ref (ad C.1 24)] (s_q C.1.2.2.2.1 C.1.2.2.2.2 f_q r_q c_q ++ (s_t C.1.2.2.2.1 C.1.2.2.2.2 f_t g_t ++ (s_r C.1.2.2.2.1 C.1.2.2.2.2 r_r ++ (s_c C.1.2.2.2.1 C.1.2.2.2.2 f_c g_c ++ (P))))) P_294)
    (k_294 : (¬ (Int32.ofNat L_) - 4 < x4) → (¬ (xs (x4 : Int32).toNatClampNeg) &&& 15 = 0) → (¬ (xs (x4 : Int32).toNatClampNeg) &&& 15 = 1) → (¬ (xs (x4 : Int32).toNatClampNeg) &&& 15 = 2) → (¬ (xs (x4 : Int32).toNatClampNeg) &&& 15 = 3) → (¬ (xs (x4 : Int32).toNatClampNeg) &&& 15 = 4) → (¬ (xs (x4 : Int32).toNatClampNeg) &&& 15 = 5) → ((xs (x4 : Int32).toNatClampNeg) &&& 15 = 6) → ∀ (r : Int32) (u : va_W), P_294 r u → zc_La_lawL C Post c0 s0 297 [(0, .ref b_), (1, .ref (ad C.1 24)), (2, .ref (ad C.1 0)), (3, .ref ou), (4, .int x4)] [.int r] ([(ou, .inl (C.1.2.2.2.1 1, 1, .inr (.inl of)))] ++ (s_m C.1.2.2.2.1 C.1.2.2.2.2 f_m g_m) ++ (u)))
    (b_308 : (¬ (Int32.ofNat L_) - 4 < x4) → (¬ (xs (x4 : Int32).toNatClampNeg) &&& 15 = 0) → (¬ (xs (x4 : Int32).toNatClampNeg) &&& 15 = 1) → (¬ (xs (x4 : Int32).toNatClampNeg) &&& 15 = 2) → (¬ (xs (x4 : Int32).toNatClampNeg) &&& 15 = 3) → (¬ (xs (x4 : Int32).toNatClampNeg) &&& 15 = 4) → (¬ (xs (x4 : Int32).toNatClampNeg) &&& 15 = 5) → (¬ (xs (x4 : Int32).toNatClampNeg) &&& 15 = 6) → ((xs (x4 : Int32).toNatClampNeg) &&& 15 = 7) → c0 + 1 ≤ 601024 ∧ s0 + 6 ≤ 7293034)
    (m_308 : (¬ (Int32.ofNat L_) - 4 < x4) → (¬ (xs (x4 : Int32).toNatClampNeg) &&& 15 = 0) → (¬ (xs (x4 : Int32).toNatClampNeg) &&& 15 = 1) → (¬ (xs (x4 : Int32).toNatClampNeg) &&& 15 = 2) → (¬ (xs (x4 : Int32).toNatClampNeg) &&& 15 = 3) → (¬ (xs (x4 : Int32).toNatClampNeg) &&& 15 = 4) → (¬ (xs (x4 : Int32).toNatClampNeg) &&& 15 = 5) → (¬ (xs (x4 : Int32).toNatClampNeg) &&& 15 = 6) → ((xs (x4 : Int32).toNatClampNeg) &&& 15 = 7) → uI C.1 y_La_priority (Cond.codeWith y_La_priority b_La_priority 3 (some .int) [(0, 8, 11, 15)]) 6 1 6 [.ref (ad C.1 24), .ref ou] ([(ou, .inl (C.1.2.2.2.1 1, 1, .inr (.inl of)))] ++ (s_q C.1.2.2.2.1 C.1.2.2.2.2 f_q r_q c_q ++ (s_t C.1.2.2.2.1 C.1.2.2.2.2 f_t g_t ++ (s_r C.1.2.2.2.1 C.1.2.2.2.2 r_r ++ (s_c C.1.2.2.2.1 C.1.2.2.2.2 f_c g_c ++ (P)))))) P_308)
    (k_308 : (¬ (Int32.ofNat L_) - 4 < x4) → (¬ (xs (x4 : Int32).toNatClampNeg) &&& 15 = 0) → (¬ (xs (x4 : Int32).toNatClampNeg) &&& 15 = 1) → (¬ (xs (x4 : Int32).toNatClampNeg) &&& 15 = 2) → (¬ (xs (x4 : Int32).toNatClampNeg) &&& 15 = 3) → (¬ (xs (x4 : Int32).toNatClampNeg) &&& 15 = 4) → (¬ (xs (x4 : Int32).toNatClampNeg) &&& 15 = 5) → (¬ (xs (x4 : Int32).toNatClampNeg) &&& 15 = 6) → ((xs (x4 : Int32).toNatClampNeg) &&& 15 = 7) → ∀ (r : Int32) (u : va_W), P_308 r u → zc_La_lawL C Post (c0 + 1) (s0 + 6) 311 [(0, .ref b_), (1, .ref (ad C.1 24)), (2, .ref (ad C.1 0)), (3, .ref ou), (4, .int x4)] [.int r] (s_m C.1.2.2.2.1 C.1.2.2.2.2 f_m g_m ++ (u)))
    (b_324 : (¬ (Int32.ofNat L_) - 4 < x4) → (¬ (xs (x4 : Int32).toNatClampNeg) &&& 15 = 0) → (¬ (xs (x4 : Int32).toNatClampNeg) &&& 15 = 1) → (¬ (xs (x4 : Int32).toNatClampNeg) &&& 15 = 2) → (¬ (xs (x4 : Int32).toNatClampNeg) &&& 15 = 3) → (¬ (xs (x4 : Int32).toNatClampNeg) &&& 15 = 4) → (¬ (xs (x4 : Int32).toNatClampNeg) &&& 15 = 5) → (¬ (xs (x4 : Int32).toNatClampNeg) &&& 15 = 6) → (¬ (xs (x4 : Int32).toNatClampNeg) &&& 15 = 7) → ((xs (x4 : Int32).toNatClampNeg) &&& 15 = 8) → c0 + 1 ≤ 601024 ∧ s0 + 6 ≤ 7293034)
    (m_324 : (¬ (Int32.ofNat L_) - 4 < x4) → (¬ (xs (x4 : Int32).toNatClampNeg) &&& 15 = 0) → (¬ (xs (x4 : Int32).toNatClampNeg) &&& 15 = 1) → (¬ (xs (x4 : Int32).toNatClampNeg) &&& 15 = 2) → (¬ (xs (x4 : Int32).toNatClampNeg) &&& 15 = 3) → (¬ (xs (x4 : Int32).toNatClampNeg) &&& 15 = 4) → (¬ (xs (x4 : Int32).toNatClampNeg) &&& 15 = 5) → (¬ (xs (x4 : Int32).toNatClampNeg) &&& 15 = 6) → (¬ (xs (x4 : Int32).toNatClampNeg) &&& 15 = 7) → ((xs (x4 : Int32).toNatClampNeg) &&& 15 = 8) → uI C.1 y_La_points (Cond.codeWith y_La_points b_La_points 3 (some .int) [(0, 8, 11, 15)]) 1 1 6 [.ref (ad C.1 24), .ref ou] ([(ou, .inl (C.1.2.2.2.1 1, 1, .inr (.inl of)))] ++ (s_q C.1.2.2.2.1 C.1.2.2.2.2 f_q r_q c_q ++ (s_t C.1.2.2.2.1 C.1.2.2.2.2 f_t g_t ++ (s_r C.1.2.2.2.1 C.1.2.2.2.2 r_r ++ (s_c C.1.2.2.2.1 C.1.2.2.2.2 f_c g_c ++ (P)))))) P_324)
    (k_324 : (¬ (Int32.ofNat L_) - 4 < x4) → (¬ (xs (x4 : Int32).toNatClampNeg) &&& 15 = 0) → (¬ (xs (x4 : Int32).toNatClampNeg) &&& 15 = 1) → (¬ (xs (x4 : Int32).toNatClampNeg) &&& 15 = 2) → (¬ (xs (x4 : Int32).toNatClampNeg) &&& 15 = 3) → (¬ (xs (x4 : Int32).toNatClampNeg) &&& 15 = 4) → (¬ (xs (x4 : Int32).toNatClampNeg) &&& 15 = 5) → (¬ (xs (x4 : Int32).toNatClampNeg) &&& 15 = 6) → (¬ (xs (x4 : Int32).toNatClampNeg) &&& 15 = 7) → ((xs (x4 : Int32).toNatClampNeg) &&& 15 = 8) → ∀ (r : Int32) (u : va_W), P_324 r u → zc_La_lawL C Post (c0 + 1) (s0 + 6) 327 [(0, .ref b_), (1, .ref (ad C.1 24)), (2, .ref (ad C.1 0)), (3, .ref ou), (4, .int x4)] [.int r] (s_m C.1.2.2.2.1 C.1.2.2.2.2 f_m g_m ++ (u)))
    (h_344 : (¬ (Int32.ofNat L_) - 4 < x4) → (¬ (xs (x4 : Int32).toNatClampNeg) &&& 15 = 0) → (¬ (xs (x4 : Int32).toNatClampNeg) &&& 15 = 1) → (¬ (xs (x4 : Int32).toNatClampNeg) &&& 15 = 2) → (¬ (xs (x4 : Int32).toNatClampNeg) &&& 15 = 3) → (¬ (xs (x4 : Int32).toNatClampNeg) &&& 15 = 4) → (¬ (xs (x4 : Int32).toNatClampNeg) &&& 15 = 5) → (¬ (xs (x4 : Int32).toNatClampNeg) &&& 15 = 6) → (¬ (xs (x4 : Int32).toNatClampNeg) &&& 15 = 7) → (¬ (xs (x4 : Int32).toNatClampNeg) &&& 15 = 8) → ((xs (x4 : Int32).toNatClampNeg) &&& 15 = 9) → vp_in (x4 + 1) L_)
    (b_346 : (¬ (Int32.ofNat L_) - 4 < x4) → (¬ (xs (x4 : Int32).toNatClampNeg) &&& 15 = 0) → (¬ (xs (x4 : Int32).toNatClampNeg) &&& 15 = 1) → (¬ (xs (x4 : Int32).toNatClampNeg) &&& 15 = 2) → (¬ (xs (x4 : Int32).toNatClampNeg) &&& 15 = 3) → (¬ (xs (x4 : Int32).toNatClampNeg) &&& 15 = 4) → (¬ (xs (x4 : Int32).toNatClampNeg) &&& 15 = 5) → (¬ (xs (x4 : Int32).toNatClampNeg) &&& 15 = 6) → (¬ (xs (x4 : Int32).toNatClampNeg) &&& 15 = 7) → (¬ (xs (x4 : Int32).toNatClampNeg) &&& 15 = 8) → ((xs (x4 : Int32).toNatClampNeg) &&& 15 = 9) → c0 + 1 ≤ 601024 ∧ s0 + 6 ≤ 7293034)
    (m_346 : (¬ (Int32.ofNat L_) - 4 < x4) → (¬ (xs (x4 : Int32).toNatClampNeg) &&& 15 = 0) → (¬ (xs (x4 : Int32).toNatClampNeg) &&& 15 = 1) → (¬ (xs (x4 : Int32).toNatClampNeg) &&& 15 = 2) → (¬ (xs (x4 : Int32).toNatClampNeg) &&& 15 = 3) → (¬ (xs (x4 : Int32).toNatClampNeg) &&& 15 = 4) → (¬ (xs (x4 : Int32).toNatClampNeg) &&& 15 = 5) → (¬ (xs (x4 : Int32).toNatClampNeg) &&& 15 = 6) → (¬ (xs (x4 : Int32).toNatClampNeg) &&& 15 = 7) → (¬ (xs (x4 : Int32).toNatClampNeg) &&& 15 = 8) → ((xs (x4 : Int32).toNatClampNeg) &&& 15 = 9) → uI C.1 y_La_asked (Cond.codeWith y_La_asked b_La_asked 4 (some .int) [(0, 9, 12, 13)]) 1 1 6 [.ref (ad C.1 24), .int (xs (x4 + 1 : Int32).toNatClampNeg), .ref ou] ([(ou, .inl (C.1.2.2.2.1 1, 1, .inr (.inl of)))] ++ (s_q C.1.2.2.2.1 C.1.2.2.2.2 f_q r_q c_q ++ (s_t C.1.2.2.2.1 C.1.2.2.2.2 f_t g_t ++ (s_r C.1.2.2.2.1 C.1.2.2.2.2 r_r ++ (s_c C.1.2.2.2.1 C.1.2.2.2.2 f_c g_c ++ (P)))))) P_346)
    (k_346 : (¬ (Int32.ofNat L_) - 4 < x4) → (¬ (xs (x4 : Int32).toNatClampNeg) &&& 15 = 0) → (¬ (xs (x4 : Int32).toNatClampNeg) &&& 15 = 1) → (¬ (xs (x4 : Int32).toNatClampNeg) &&& 15 = 2) → (¬ (xs (x4 : Int32).toNatClampNeg) &&& 15 = 3) → (¬ (xs (x4 : Int32).toNatClampNeg) &&& 15 = 4) → (¬ (xs (x4 : Int32).toNatClampNeg) &&& 15 = 5) → (¬ (xs (x4 : Int32).toNatClampNeg) &&& 15 = 6) → (¬ (xs (x4 : Int32).toNatClampNeg) &&& 15 = 7) → (¬ (xs (x4 : Int32).toNatClampNeg) &&& 15 = 8) → ((xs (x4 : Int32).toNatClampNeg) &&& 15 = 9) → ∀ (r : Int32) (u : va_W), P_346 r u → zc_La_lawL C Post (c0 + 1) (s0 + 6) 349 [(0, .ref b_), (1, .ref (ad C.1 24)), (2, .ref (ad C.1 0)), (3, .ref ou), (4, .int x4)] [.int r] (s_m C.1.2.2.2.1 C.1.2.2.2.2 f_m g_m ++ (u)))
    (h_372 : (¬ (Int32.ofNat L_) - 4 < x4) → (¬ (xs (x4 : Int32).toNatClampNeg) &&& 15 = 0) → (¬ (xs (x4 : Int32).toNatClampNeg) &&& 15 = 1) → (¬ (xs (x4 : Int32).toNatClampNeg) &&& 15 = 2) → (¬ (xs (x4 : Int32).toNatClampNeg) &&& 15 = 3) → (¬ (xs (x4 : Int32).toNatClampNeg) &&& 15 = 4) → (¬ (xs (x4 : Int32).toNatClampNeg) &&& 15 = 5) → (¬ (xs (x4 : Int32).toNatClampNeg) &&& 15 = 6) → (¬ (xs (x4 : Int32).toNatClampNeg) &&& 15 = 7) → (¬ (xs (x4 : Int32).toNatClampNeg) &&& 15 = 8) → (¬ (xs (x4 : Int32).toNatClampNeg) &&& 15 = 9) → ((xs (x4 : Int32).toNatClampNeg) &&& 15 = 10) → vp_in (x4 + 1) L_)
    (b_374 : (¬ (Int32.ofNat L_) - 4 < x4) → (¬ (xs (x4 : Int32).toNatClampNeg) &&& 15 = 0) → (¬ (xs (x4 : Int32).toNatClampNeg) &&& 15 = 1) → (¬ (xs (x4 : Int32).toNatClampNeg) &&& 15 = 2) → (¬ (xs (x4 : Int32).toNatClampNeg) &&& 15 = 3) → (¬ (xs (x4 : Int32).toNatClampNeg) &&& 15 = 4) → (¬ (xs (x4 : Int32).toNatClampNeg) &&& 15 = 5) → (¬ (xs (x4 : Int32).toNatClampNeg) &&& 15 = 6) → (¬ (xs (x4 : Int32).toNatClampNeg) &&& 15 = 7) → (¬ (xs (x4 : Int32).toNatClampNeg) &&& 15 = 8) → (¬ (xs (x4 : Int32).toNatClampNeg) &&& 15 = 9) → ((xs (x4 : Int32).toNatClampNeg) &&& 15 = 10) → c0 + 1 ≤ 601024 ∧ s0 + 6 ≤ 7293034)
    (m_374 : (¬ (Int32.ofNat L_) - 4 < x4) → (¬ (xs (x4 : Int32).toNatClampNeg) &&& 15 = 0) → (¬ (xs (x4 : Int32).toNatClampNeg) &&& 15 = 1) → (¬ (xs (x4 : Int32).toNatClampNeg) &&& 15 = 2) → (¬ (xs (x4 : Int32).toNatClampNeg) &&& 15 = 3) → (¬ (xs (x4 : Int32).toNatClampNeg) &&& 15 = 4) → (¬ (xs (x4 : Int32).toNatClampNeg) &&& 15 = 5) → (¬ (xs (x4 : Int32).toNatClampNeg) &&& 15 = 6) → (¬ (xs (x4 : Int32).toNatClampNeg) &&& 15 = 7) → (¬ (xs (x4 : Int32).toNatClampNeg) &&& 15 = 8) → (¬ (xs (x4 : Int32).toNatClampNeg) &&& 15 = 9) → ((xs (x4 : Int32).toNatClampNeg) &&& 15 = 10) → uI C.1 y_La_loop (Cond.codeWith y_La_loop b_La_loop 4 (some .int) [(0, 9, 12, 13)]) 3 1 6 [.ref (ad C.1 24), .int (xs (x4 + 1 : Int32).toNatClampNeg), .ref ou] ([(ou, .inl (C.1.2.2.2.1 1, 1, .inr (.inl of)))] ++ (s_q C.1.2.2.2.1 C.1.2.2.2.2 f_q r_q c_q ++ (s_t C.1.2.2.2.1 C.1.2.2.2.2 f_t g_t ++ (s_r C.1.2.2.2.1 C.1.2.2.2.2 r_r ++ (s_c C.1.2.2.2.1 C.1.2.2.2.2 f_c g_c ++ (P)))))) P_374)
    (k_374 : (¬ (Int32.ofNat L_) - 4 < x4) → (¬ (xs (x4 : Int32).toNatClampNeg) &&& 15 = 0) → (¬ (xs (x4 : Int32).toNatClampNeg) &&& 15 = 1) → (¬ (xs (x4 : Int32).toNatClampNeg) &&& 15 = 2) → (¬ (xs (x4 : Int32).toNatClampNeg) &&& 15 = 3) → (¬ (xs (x4 : Int32).toNatClampNeg) &&& 15 = 4) → (¬ (xs (x4 : Int32).toNatClampNeg) &&& 15 = 5) → (¬ (xs (x4 : Int32).toNatClampNeg) &&& 15 = 6) → (¬ (xs (x4 : Int32).toNatClampNeg) &&& 15 = 7) → (¬ (xs (x4 : Int32).toNatClampNeg) &&& 15 = 8) → (¬ (xs (x4 : Int32).toNatClampNeg) &&& 15 = 9) → ((xs (x4 : Int32).toNatClampNeg) &&& 15 = 10) → ∀ (r : Int32) (u : va_W), P_374 r u → zc_La_lawL C Post (c0 + 1) (s0 + 6) 377 [(0, .ref b_), (1, .ref (ad C.1 24)), (2, .ref (ad C.1 0)), (3, .ref ou), (4, .int x4)] [.int r] (s_m C.1.2.2.2.1 C.1.2.2.2.2 f_m g_m ++ (u)))
    (h_400 : (¬ (Int32.ofNat L_) - 4 < x4) → (¬ (xs (x4 : Int32).toNatClampNeg) &&& 15 = 0) → (¬ (xs (x4 : Int32).toNatClampNeg) &&& 15 = 1) → (¬ (xs (x4 : Int32).toNatClampNeg) &&& 15 = 2) → (¬ (xs (x4 : Int32).toNatClampNeg) &&& 15 = 3) → (¬ (xs (x4 : Int32).toNatClampNeg) &&& 15 = 4) → (¬ (xs (x4 : Int32).toNatClampNeg) &&& 15 = 5) → (¬ (xs (x4 : Int32).toNatClampNeg) &&& 15 = 6) → (¬ (xs (x4 : Int32).toNatClampNeg) &&& 15 = 7) → (¬ (xs (x4 : Int32).toNatClampNeg) &&& 15 = 8) → (¬ (xs (x4 : Int32).toNatClampNeg) &&& 15 = 9) → (¬ (xs (x4 : Int32).toNatClampNeg) &&& 15 = 10) → ((xs (x4 : Int32).toNatClampNeg) &&& 15 = 11) → vp_in (x4 + 1) L_)
    (b_402 : (¬ (Int32.ofNat L_) - 4 < x4) → (¬ (xs (x4 : Int32).toNatClampNeg) &&& 15 = 0) → (¬ (xs (x4 : Int32).toNatClampNeg) &&& 15 = 1) → (¬ (xs (x4 : Int32).toNatClampNeg) &&& 15 = 2) → (¬ (xs (x4 : Int32).toNatClampNeg) &&& 15 = 3) → (¬ (xs (x4 : Int32).toNatClampNeg) &&& 15 = 4) → (¬ (xs (x4 : Int32).toNatClampNeg) &&& 15 = 5) → (¬ (xs (x4 : Int32).toNatClampNeg) &&& 15 = 6) → (¬ (xs (x4 : Int32).toNatClampNeg) &&& 15 = 7) → (¬ (xs (x4 : Int32).toNatClampNeg) &&& 15 = 8) → (¬ (xs (x4 : Int32).toNatClampNeg) &&& 15 = 9) → (¬ (xs (x4 : Int32).toNatClampNeg) &&& 15 = 10) → ((xs (x4 : Int32).toNatClampNeg) &&& 15 = 11) → c0 + 1 ≤ 601024 ∧ s0 + 6 ≤ 7293034)
    (m_402 : (¬ (Int32.ofNat L_) - 4 < x4) → (¬ (xs (x4 : Int32).toNatClampNeg) &&& 15 = 0) → (¬ (xs (x4 : Int32).toNatClampNeg) &&& 15 = 1) → (¬ (xs (x4 : Int32).toNatClampNeg) &&& 15 = 2) → (¬ (xs (x4 : Int32).toNatClampNeg) &&& 15 = 3) → (¬ (xs (x4 : Int32).toNatClampNeg) &&& 15 = 4) → (¬ (xs (x4 : Int32).toNatClampNeg) &&& 15 = 5) → (¬ (xs (x4 : Int32).toNatClampNeg) &&& 15 = 6) → (¬ (xs (x4 : Int32).toNatClampNeg) &&& 15 = 7) → (¬ (xs (x4 : Int32).toNatClampNeg) &&& 15 = 8) → (¬ (xs (x4 : Int32).toNatClampNeg) &&& 15 = 9) → (¬ (xs (x4 : Int32).toNatClampNeg) &&& 15 = 10) → ((xs (x4 : Int32).toNatClampNeg) &&& 15 = 11) → uI C.1 y_La_never (Cond.codeWith y_La_never b_La_never 4 (some .int) [(0, 9, 12, 13)]) 3 1 6 [.ref (ad C.1 24), .int (xs (x4 + 1 : Int32).toNatClampNeg), .ref ou] ([(ou, .inl (C.1.2.2.2.1 1, 1, .inr (.inl of)))] ++ (s_q C.1.2.2.2.1 C.1.2.2.2.2 f_q r_q c_q ++ (s_t C.1.2.2.2.1 C.1.2.2.2.2 f_t g_t ++ (s_r C.1.2.2.2.1 C.1.2.2.2.2 r_r ++ (s_c C.1.2.2.2.1 C.1.2.2.2.2 f_c g_c ++ (P)))))) P_402)
    (k_402 : (¬ (Int32.ofNat L_) - 4 < x4) → (¬ (xs (x4 : Int32).toNatClampNeg) &&& 15 = 0) → (¬ (xs (x4 : Int32).toNatClampNeg) &&& 15 = 1) → (¬ (xs (x4 : Int32).toNatClampNeg) &&& 15 = 2) → (¬ (xs (x4 : Int32).toNatClampNeg) &&& 15 = 3) → (¬ (xs (x4 : Int32).toNatClampNeg) &&& 15 = 4) → (¬ (xs (x4 : Int32).toNatClampNeg) &&& 15 = 5) → (¬ (xs (x4 : Int32).toNatClampNeg) &&& 15 = 6) → (¬ (xs (x4 : Int32).toNatClampNeg) &&& 15 = 7) → (¬ (xs (x4 : Int32).toNatClampNeg) &&& 15 = 8) → (¬ (xs (x4 : Int32).toNatClampNeg) &&& 15 = 9) → (¬ (xs (x4 : Int32).toNatClampNeg) &&& 15 = 10) → ((xs (x4 : Int32).toNatClampNeg) &&& 15 = 11) → ∀ (r : Int32) (u : va_W), P_402 r u → zc_La_lawL C Post (c0 + 1) (s0 + 6) 405 [(0, .ref b_), (1, .ref (ad C.1 24)), (2, .ref (ad C.1 0)), (3, .ref ou), (4, .int x4)] [.int r] (s_m C.1.2.2.2.1 C.1.2.2.2.2 f_m g_m ++ (u)))
    (h_456 : (¬ (Int32.ofNat L_) - 4 < x4) → (¬ (xs (x4 : Int32).toNatClampNeg) &&& 15 = 0) → (¬ (xs (x4 : Int32).toNatClampNeg) &&& 15 = 1) → (¬ (xs (x4 : Int32).toNatClampNeg) &&& 15 = 2) → (¬ (xs (x4 : Int32).toNatClampNeg) &&& 15 = 3) → (¬ (xs (x4 : Int32).toNatClampNeg) &&& 15 = 4) → (¬ (xs (x4 : Int32).toNatClampNeg) &&& 15 = 5) → (¬ (xs (x4 : Int32).toNatClampNeg) &&& 15 = 6) → (¬ (xs (x4 : Int32).toNatClampNeg) &&& 15 = 7) → (¬ (xs (x4 : Int32).toNatClampNeg) &&& 15 = 8) → (¬ (xs (x4 : Int32).toNatClampNeg) &&& 15 = 9) → (¬ (xs (x4 : Int32).toNatClampNeg) &&& 15 = 10) → (¬ (xs (x4 : Int32).toNatClampNeg) &&& 15 = 11) → ((xs (x4 : Int32).toNatClampNeg) &&& 15 = 12) → vp_in (x4 + 1) L_)
    (b_458 : (¬ (Int32.ofNat L_) - 4 < x4) → (¬ (xs (x4 : Int32).toNatClampNeg) &&& 15 = 0) → (¬ (xs (x4 : Int32).toNatClampNeg) &&& 15 = 1) → (¬ (xs (x4 : Int32).toNatClampNeg) &&& 15 = 2) → (¬ (xs (x4 : Int32).toNatClampNeg) &&& 15 = 3) → (¬ (xs (x4 : Int32).toNatClampNeg) &&& 15 = 4) → (¬ (xs (x4 : Int32).toNatClampNeg) &&& 15 = 5) → (¬ (xs (x4 : Int32).toNatClampNeg) &&& 15 = 6) → (¬ (xs (x4 : Int32).toNatClampNeg) &&& 15 = 7) → (¬ (xs (x4 : Int32).toNatClampNeg) &&& 15 = 8) → (¬ (xs (x4 : Int32).toNatClampNeg) &&& 15 = 9) → (¬ (xs (x4 : Int32).toNatClampNeg) &&& 15 = 10) → (¬ (xs (x4 : Int32).toNatClampNeg) &&& 15 = 11) → ((xs (x4 : Int32).toNatClampNeg) &&& 15 = 12) → c0 + 1 ≤ 601024 ∧ s0 + 6 ≤ 7293034)
    (m_458 : (¬ (Int32.ofNat L_) - 4 < x4) → (¬ (xs (x4 : Int32).toNatClampNeg) &&& 15 = 0) → (¬ (xs (x4 : Int32).toNatClampNeg) &&& 15 = 1) → (¬ (xs (x4 : Int32).toNatClampNeg) &&& 15 = 2) → (¬ (xs (x4 : Int32).toNatClampNeg) &&& 15 = 3) → (¬ (xs (x4 : Int32).toNatClampNeg) &&& 15 = 4) → (¬ (xs (x4 : Int32).toNatClampNeg) &&& 15 = 5) → (¬ (xs (x4 : Int32).toNatClampNeg) &&& 15 = 6) → (¬ (xs (x4 : Int32).toNatClampNeg) &&& 15 = 7) → (¬ (xs (x4 : Int32).toNatClampNeg) &&& 15 = 8) → (¬ (xs (x4 : Int32).toNatClampNeg) &&& 15 = 9) → (¬ (xs (x4 : Int32).toNatClampNeg) &&& 15 = 10) → (¬ (xs (x4 : Int32).toNatClampNeg) &&& 15 = 11) → ((xs (x4 : Int32).toNatClampNeg) &&& 15 = 12) → uI C.1 y_La_endless (Cond.codeWith y_La_endless b_La_endless 4 (some .int) [(0, 9, 12, 13)]) 3 1 6 [.ref (ad C.1 24), .int (xs (x4 + 1 : Int32).toNatClampNeg), .ref ou] ([(ou, .inl (C.1.2.2.2.1 1, 1, .inr (.inl of)))] ++ (s_q C.1.2.2.2.1 C.1.2.2.2.2 f_q r_q c_q ++ (s_t C.1.2.2.2.1 C.1.2.2.2.2 f_t g_t ++ (s_r C.1.2.2.2.1 C.1.2.2.2.2 r_r ++ (s_c C.1.2.2.2.1 C.1.2.2.2.2 f_c g_c ++ (P)))))) P_458)
    (k_458 : (¬ (Int32.ofNat L_) - 4 < x4) → (¬ (xs (x4 : Int32).toNatClampNeg) &&& 15 = 0) → (¬ (xs (x4 : Int32).toNatClampNeg) &&& 15 = 1) → (¬ (xs (x4 : Int32).toNatClampNeg) &&& 15 = 2) → (¬ (xs (x4 : Int32).toNatClampNeg) &&& 15 = 3) → (¬ (xs (x4 : Int32).toNatClampNeg) &&& 15 = 4) → (¬ (xs (x4 : Int32).toNatClampNeg) &&& 15 = 5) → (¬ (xs (x4 : Int32).toNatClampNeg) &&& 15 = 6) → (¬ (xs (x4 : Int32).toNatClampNeg) &&& 15 = 7) → (¬ (xs (x4 : Int32).toNatClampNeg) &&& 15 = 8) → (¬ (xs (x4 : Int32).toNatClampNeg) &&& 15 = 9) → (¬ (xs (x4 : Int32).toNatClampNeg) &&& 15 = 10) → (¬ (xs (x4 : Int32).toNatClampNeg) &&& 15 = 11) → ((xs (x4 : Int32).toNatClampNeg) &&& 15 = 12) → ∀ (r : Int32) (u : va_W), P_458 r u → zc_La_lawL C Post (c0 + 1) (s0 + 6) 461 [(0, .ref b_), (1, .ref (ad C.1 24)), (2, .ref (ad C.1 0)), (3, .ref ou), (4, .int x4)] [.int r] (s_m C.1.2.2.2.1 C.1.2.2.2.2 f_m g_m ++ (u)))
    (h_484 : (¬ (Int32.ofNat L_) - 4 < x4) → (¬ (xs (x4 : Int32).toNatClampNeg) &&& 15 = 0) → (¬ (xs (x4 : Int32).toNatClampNeg) &&& 15 = 1) → (¬ (xs (x4 : Int32).toNatClampNeg) &&& 15 = 2) → (¬ (xs (x4 : Int32).toNatClampNeg) &&& 15 = 3) → (¬ (xs (x4 : Int32).toNatClampNeg) &&& 15 = 4) → (¬ (xs (x4 : Int32).toNatClampNeg) &&& 15 = 5) → (¬ (xs (x4 : Int32).toNatClampNeg) &&& 15 = 6) → (¬ (xs (x4 : Int32).toNatClampNeg) &&& 15 = 7) → (¬ (xs (x4 : Int32).toNatClampNeg) &&& 15 = 8) → (¬ (xs (x4 : Int32).toNatClampNeg) &&& 15 = 9) → (¬ (xs (x4 : Int32).toNatClampNeg) &&& 15 = 10) → (¬ (xs (x4 : Int32).toNatClampNeg) &&& 15 = 11) → (¬ (xs (x4 : Int32).toNatClampNeg) &&& 15 = 12) → ((xs (x4 : Int32).toNatClampNeg) &&& 15 = 13) → vp_in (x4 + 1) L_)
    (h_490 : (¬ (Int32.ofNat L_) - 4 < x4) → (¬ (xs (x4 : Int32).toNatClampNeg) &&& 15 = 0) → (¬ (xs (x4 : Int32).toNatClampNeg) &&& 15 = 1) → (¬ (xs (x4 : Int32).toNatClampNeg) &&& 15 = 2) → (¬ (xs (x4 : Int32).toNatClampNeg) &&& 15 = 3) → (¬ (xs (x4 : Int32).toNatClampNeg) &&& 15 = 4) → (¬ (xs (x4 : Int32).toNatClampNeg) &&& 15 = 5) → (¬ (xs (x4 : Int32).toNatClampNeg) &&& 15 = 6) → (¬ (xs (x4 : Int32).toNatClampNeg) &&& 15 = 7) → (¬ (xs (x4 : Int32).toNatClampNeg) &&& 15 = 8) → (¬ (xs (x4 : Int32).toNatClampNeg) &&& 15 = 9) → (¬ (xs (x4 : Int32).toNatClampNeg) &&& 15 = 10) → (¬ (xs (x4 : Int32).toNatClampNeg) &&& 15 = 11) → (¬ (xs (x4 : Int32).toNatClampNeg) &&& 15 = 12) → ((xs (x4 : Int32).toNatClampNeg) &&& 15 = 13) → vp_in (x4 + 2) L_)
    (h_496 : (¬ (Int32.ofNat L_) - 4 < x4) → (¬ (xs (x4 : Int32).toNatClampNeg) &&& 15 = 0) → (¬ (xs (x4 : Int32).toNatClampNeg) &&& 15 = 1) → (¬ (xs (x4 : Int32).toNatClampNeg) &&& 15 = 2) → (¬ (xs (x4 : Int32).toNatClampNeg) &&& 15 = 3) → (¬ (xs (x4 : Int32).toNatClampNeg) &&& 15 = 4) → (¬ (xs (x4 : Int32).toNatClampNeg) &&& 15 = 5) → (¬ (xs (x4 : Int32).toNatClampNeg) &&& 15 = 6) → (¬ (xs (x4 : Int32).toNatClampNeg) &&& 15 = 7) → (¬ (xs (x4 : Int32).toNatClampNeg) &&& 15 = 8) → (¬ (xs (x4 : Int32).toNatClampNeg) &&& 15 = 9) → (¬ (xs (x4 : Int32).toNatClampNeg) &&& 15 = 10) → (¬ (xs (x4 : Int32).toNatClampNeg) &&& 15 = 11) → (¬ (xs (x4 : Int32).toNatClampNeg) &&& 15 = 12) → ((xs (x4 : Int32).toNatClampNeg) &&& 15 = 13) → vp_in (x4 + 3) L_)
    (b_498 : (¬ (Int32.ofNat L_) - 4 < x4) → (¬ (xs (x4 : Int32).toNatClampNeg) &&& 15 = 0) → (¬ (xs (x4 : Int32).toNatClampNeg) &&& 15 = 1) → (¬ (xs (x4 : Int32).toNatClampNeg) &&& 15 = 2) → (¬ (xs (x4 : Int32).toNatClampNeg) &&& 15 = 3) → (¬ (xs (x4 : Int32).toNatClampNeg) &&& 15 = 4) → (¬ (xs (x4 : Int32).toNatClampNeg) &&& 15 = 5) → (¬ (xs (x4 : Int32).toNatClampNeg) &&& 15 = 6) → (¬ (xs (x4 : Int32).toNatClampNeg) &&& 15 = 7) → (¬ (xs (x4 : Int32).toNatClampNeg) &&& 15 = 8) → (¬ (xs (x4 : Int32).toNatClampNeg) &&& 15 = 9) → (¬ (xs (x4 : Int32).toNatClampNeg) &&& 15 = 10) → (¬ (xs (x4 : Int32).toNatClampNeg) &&& 15 = 11) → (¬ (xs (x4 : Int32).toNatClampNeg) &&& 15 = 12) → ((xs (x4 : Int32).toNatClampNeg) &&& 15 = 13) → c0 + 1 ≤ 601024 ∧ s0 + 6 ≤ 7293034)
    (m_498 : (¬ (Int32.ofNat L_) - 4 < x4) → (¬ (xs (x4 : Int32).toNatClampNeg) &&& 15 = 0) → (¬ (xs (x4 : Int32).toNatClampNeg) &&& 15 = 1) → (¬ (xs (x4 : Int32).toNatClampNeg) &&& 15 = 2) → (¬ (xs (x4 : Int32).toNatClampNeg) &&& 15 = 3) → (¬ (xs (x4 : Int32).toNatClampNeg) &&& 15 = 4) → (¬ (xs (x4 : Int32).toNatClampNeg) &&& 15 = 5) → (¬ (xs (x4 : Int32).toNatClampNeg) &&& 15 = 6) → (¬ (xs (x4 : Int32).toNatClampNeg) &&& 15 = 7) → (¬ (xs (x4 : Int32).toNatClampNeg) &&& 15 = 8) → (¬ (xs (x4 : Int32).toNatClampNeg) &&& 15 = 9) → (¬ (xs (x4 : Int32).toNatClampNeg) &&& 15 = 10) → (¬ (xs (x4 : Int32).toNatClampNeg) &&& 15 = 11) → (¬ (xs (x4 : Int32).toNatClampNeg) &&& 15 = 12) → ((xs (x4 : Int32).toNatClampNeg) &&& 15 = 13) → uI C.1 y_La_word (Cond.codeWith y_La_word b_La_word 6 (some .int) [(0, 12, 15, 13)]) 2 1 6 [.ref (ad C.1 24), .int (xs (x4 + 1 : Int32).toNatClampNeg), .int (xs (x4 + 2 : Int32).toNatClampNeg), .int (xs (x4 + 3 : Int32).toNatClampNeg), .ref ou] ([(ou, .inl (C.1.2.2.2.1 1, 1, .inr (.inl of)))] ++ (s_q C.1.2.2.2.1 C.1.2.2.2.2 f_q r_q c_q ++ (s_t C.1.2.2.2.1 C.1.2.2.2.2 f_t g_t ++ (s_r C.1.2.2.2.1 C.1.2.2.2.2 r_r ++ (s_c C.1.2.2.2.1 C.1.2.2.2.2 f_c g_c ++ (P)))))) P_498)
    (k_498 : (¬ (Int32.ofNat L_) - 4 < x4) → (¬ (xs (x4 : Int32).toNatClampNeg) &&& 15 = 0) → (¬ (xs (x4 : Int32).toNatClampNeg) &&& 15 = 1) → (¬ (xs (x4 : Int32).toNatClampNeg) &&& 15 = 2) → (¬ (xs (x4 : Int32).toNatClampNeg) &&& 15 = 3) → (¬ (xs (x4 : Int32).toNatClampNeg) &&& 15 = 4) → (¬ (xs (x4 : Int32).toNatClampNeg) &&& 15 = 5) → (¬ (xs (x4 : Int32).toNatClampNeg) &&& 15 = 6) → (¬ (xs (x4 : Int32).toNatClampNeg) &&& 15 = 7) → (¬ (xs (x4 : Int32).toNatClampNeg) &&& 15 = 8) → (¬ (xs (x4 : Int32).toNatClampNeg) &&& 15 = 9) → (¬ (xs (x4 : Int32).toNatClampNeg) &&& 15 = 10) → (¬ (xs (x4 : Int32).toNatClampNeg) &&& 15 = 11) → (¬ (xs (x4 : Int32).toNatClampNeg) &&& 15 = 12) → ((xs (x4 : Int32).toNatClampNeg) &&& 15 = 13) → ∀ (r : Int32) (u : va_W), P_498 r u → zc_La_lawL C Post (c0 + 1) (s0 + 6) 501 [(0, .ref b_), (1, .ref (ad C.1 24)), (2, .ref (ad C.1 0)), (3, .ref ou), (4, .int x4)] [.int r] (s_m C.1.2.2.2.1 C.1.2.2.2.2 f_m g_m ++ (u)))
    (d_39 : (¬ (Int32.ofNat L_) - 4 < x4) → (¬ (xs (x4 : Int32).toNatClampNeg) &&& 15 = 0) → (¬ (xs (x4 : Int32).toNatClampNeg) &&& 15 = 1) → (¬ (xs (x4 : Int32).toNatClampNeg) &&& 15 = 2) → (¬ (xs (x4 : Int32).toNatClampNeg) &&& 15 = 3) → (¬ (xs (x4 : Int32).toNatClampNeg) &&& 15 = 4) → (¬ (xs (x4 : Int32).toNatClampNeg) &&& 15 = 5) → (¬ (xs (x4 : Int32).toNatClampNeg) &&& 15 = 6) → (¬ (xs (x4 : Int32).toNatClampNeg) &&& 15 = 7) → (¬ (xs (x4 : Int32).toNatClampNeg) &&& 15 = 8) → (¬ (xs (x4 : Int32).toNatClampNeg) &&& 15 = 9) → (¬ (xs (x4 : Int32).toNatClampNeg) &&& 15 = 10) → (¬ (xs (x4 : Int32).toNatClampNeg) &&& 15 = 11) → (¬ (xs (x4 : Int32).toNatClampNeg) &&& 15 = 12) → (¬ (xs (x4 : Int32).toNatClampNeg) &&& 15 = 13) → ((xs (x4 : Int32).toNatClampNeg) &&& 15 : Int32).toInt < 0 ∨ 13 < ((xs (x4 : Int32).toNatClampNeg) &&& 15 : Int32).toInt)
    (k_530 : (¬ (Int32.ofNat L_) - 4 < x4) → (¬ (xs (x4 : Int32).toNatClampNeg) &&& 15 = 0) → (¬ (xs (x4 : Int32).toNatClampNeg) &&& 15 = 1) → (¬ (xs (x4 : Int32).toNatClampNeg) &&& 15 = 2) → (¬ (xs (x4 : Int32).toNatClampNeg) &&& 15 = 3) → (¬ (xs (x4 : Int32).toNatClampNeg) &&& 15 = 4) → (¬ (xs (x4 : Int32).toNatClampNeg) &&& 15 = 5) → (¬ (xs (x4 : Int32).toNatClampNeg) &&& 15 = 6) → (¬ (xs (x4 : Int32).toNatClampNeg) &&& 15 = 7) → (¬ (xs (x4 : Int32).toNatClampNeg) &&& 15 = 8) → (¬ (xs (x4 : Int32).toNatClampNeg) &&& 15 = 9) → (¬ (xs (x4 : Int32).toNatClampNeg) &&& 15 = 10) → (¬ (xs (x4 : Int32).toNatClampNeg) &&& 15 = 11) → (¬ (xs (x4 : Int32).toNatClampNeg) &&& 15 = 12) → (¬ (xs (x4 : Int32).toNatClampNeg) &&& 15 = 13) → zc_La_lawL C Post c0 s0 530 [(0, .ref b_), (1, .ref (ad C.1 24)), (2, .ref (ad C.1 0)), (3, .ref ou), (4, .int x4)] [] ([(ou, .inl (C.1.2.2.2.1 1, 1, .inr (.inl of)))] ++ (s_q C.1.2.2.2.1 C.1.2.2.2.2 f_q r_q c_q ++ (s_t C.1.2.2.2.1 C.1.2.2.2.2 f_t g_t ++ (s_r C.1.2.2.2.1 C.1.2.2.2.2 r_r ++ (s_c C.1.2.2.2.1 C.1.2.2.2.2 f_c g_c ++ (s_m C.1.2.2.2.1 C.1.2.2.2.2 f_m g_m ++ (P)))))))) : zc_La_lawL C Post c0 s0 23 [(0, .ref b_), (1, .ref (ad C.1 24)), (2, .ref (ad C.1 0)), (3, .ref ou), (4, .int x4)] [] ([(ou, .inl (C.1.2.2.2.1 1, 1, .inr (.inl of)))] ++ (s_q C.1.2.2.2.1 C.1.2.2.2.2 f_q r_q c_q ++ (s_t C.1.2.2.2.1 C.1.2.2.2.2 f_t g_t ++ (s_r C.1.2.2.2.1 C.1.2.2.2.2 r_r ++ (s_c C.1.2.2.2.1 C.1.2.2.2.2 f_c g_c ++ (s_m C.1.2.2.2.1 C.1.2.2.2.2 f_m g_m ++ (P))))))) := by
  obtain ⟨⟨l, dC, dI, k, a⟩, p, e, s, m, args, below, meth, c, A⟩ := C
  obtain ⟨⟨hx, hb, hr, htz, hown, hlocks, hml, hE, hK, hA⟩, hX, hbl, hbA, hlt⟩ := X
  intro H locs ls hl hP hD hS
  have hl : lv_has ls 7 [(0, .ref b_), (1, .ref (a 24)), (2, .ref (a 0)), (3, .ref ou), (4, .int x4)] := hl
  have hP : va_P (dC, dI) classes ([(ou, .inl (k 1, 1, .inr (.inl of)))] ++ (s_q k a f_q r_q c_q ++ (s_t k a f_t g_t ++ (s_r k a r_r ++ (s_c k a f_c g_c ++ (s_m k a f_m g_m ++ (P))))))) H := hP
  have hD : va_D A ([(ou, .inl (k 1, 1, .inr (.inl of)))] ++ (s_q k a f_q r_q c_q ++ (s_t k a f_t g_t ++ (s_r k a r_r ++ (s_c k a f_c g_c ++ (s_m k a f_m g_m ++ (P))))))) := hD
  show W p l e room_1 s m args below meth c H locs c0 s0 _ (F0 m 23 ls [])
  refine lv_iload hx hb d_La_law_23 (lv_at hl 4 rfl) ?_
  refine lv_aload_n hx hb d_La_law_25 rfl (lv_at hl 0 rfl) ?_
  refine va_slen hx hb hX hbl hbA hS d_La_law_26 ?_
  refine lv_iconst (v := 4) hx hb d_La_law_27 (by decide) ?_
  refine lv_isub hx hb d_La_law_28 ?_
  refine lv_icmp_gt (tgt := 536) hx hb d_La_law_29 (by decide) (fun c_29 => ?_) (fun c_29 => ?_)
  · refine lv_iconst (v := 1) hx hb d_La_law_536 (by decide) ?_
    exact (k_537 c_29) H locs ls (lv_sub hl [0, 1, 2, 3, 4] rfl) hP hD hS
  · refine lv_aload_n hx hb d_La_law_32 rfl (lv_at hl 0 rfl) ?_
    refine lv_iload hx hb d_La_law_33 (lv_at hl 4 rfl) ?_
    refine va_sld hx hb hX hbl hbA hS (i := x4) (h_35 c_29) d_La_law_35 ?_
    refine lv_bipush (v := 15) hx hb d_La_law_36 (by decide) ?_
    refine lv_iand hx hb d_La_law_38 ?_
    by_cases c_39_0 : (xs (x4 : Int32).toNatClampNeg) &&& 15 = 0
    · refine lv_tableIn (tgt := 108) (off := 69) hx hb d_La_law_39 (by rw [c_39_0]; decide) (by rw [c_39_0]; decide) (by rw [c_39_0]; decide) (by decide) ?_
      refine lv_aload_n hx hb d_La_law_108 rfl (lv_at hl 1 rfl) ?_
      refine lv_aload_n hx hb d_La_law_109 rfl (lv_at hl 0 rfl) ?_
      refine lv_iload hx hb d_La_law_110 (lv_at hl 4 rfl) ?_
      refine lv_iconst (v := 1) hx hb d_La_law_112 (by decide) ?_
      refine lv_iadd hx hb d_La_law_113 ?_
      refine va_sld hx hb hX hbl hbA hS (i := x4 + 1) (h_114 c_29 c_39_0) d_La_law_114 ?_
      refine lv_i2l (v := (xs (x4 + 1 : Int32).toNatClampNeg).toInt64) hx hb d_La_law_115 rfl ?_
      refine lv_bipush (v := 32) hx hb d_La_law_116 (by decide) ?_
      refine lv_lshl (v := ((xs (x4 + 1 : Int32).toNatClampNeg).toInt64) <<< ((32 : Int32).toInt64 &&& 63)) hx hb d_La_law_118 rfl ?_
      refine lv_aload_n hx hb d_La_law_119 rfl (lv_at hl 0 rfl) ?_
      refine lv_iload hx hb d_La_law_120 (lv_at hl 4 rfl) ?_
      refine lv_iconst (v := 2) hx hb d_La_law_122 (by decide) ?_
      refine lv_iadd hx hb d_La_law_123 ?_
      refine va_sld hx hb hX hbl hbA hS (i := x4 + 2) (h_124 c_29 c_39_0) d_La_law_124 ?_
      refine lv_i2l (v := (xs (x4 + 2 : Int32).toNatClampNeg).toInt64) hx hb d_La_law_125 rfl ?_
      refine W.ldc2 hx hb hown (htz _ kl_La_57) rfl d_La_law_126 ?_
      refine lv_land hx hb d_La_law_129 ?_
      refine lv_lor hx hb d_La_law_130 ?_
      refine lv_aload_n hx hb d_La_law_131 rfl (lv_at hl 0 rfl) ?_
      refine lv_iload hx hb d_La_law_132 (lv_at hl 4 rfl) ?_
      refine lv_iconst (v := 3) hx hb d_La_law_134 (by decide) ?_
      refine lv_iadd hx hb d_La_law_135 ?_
      refine va_sld hx hb hX hbl hbA hS (i := x4 + 3) (h_136 c_29 c_39_0) d_La_law_136 ?_
      refine lv_aload_n hx hb d_La_law_137 rfl (lv_at hl 3 rfl) ?_
      have hPf : va_P (dC, dI) classes ((s_m k a f_m g_m) ++ (([(ou, .inl (k 1, 1, .inr (.inl of)))] ++ (s_q k a f_q r_q c_q ++ (s_t k a f_t g_t ++ (s_r k a r_r ++ (s_c k a f_c g_c ++ (P)))))) ++ ([]))) H := by rw [List.append_nil]; exact zpP (by have h := zp4 [] ([(ou, .inl (k 1, 1, .inr (.inl of)))] ++ (s_q k a f_q r_q c_q ++ (s_t k a f_t g_t ++ (s_r k a r_r ++ (s_c k a f_c g_c))))) (s_m k a f_m g_m) (P); (try simp only [List.append_assoc, List.nil_append] at h); (try simp only [List.append_assoc]); exact h) hP
      have hDf : va_D A ((s_m k a f_m g_m) ++ (([(ou, .inl (k 1, 1, .inr (.inl of)))] ++ (s_q k a f_q r_q c_q ++ (s_t k a f_t g_t ++ (s_r k a r_r ++ (s_c k a f_c g_c ++ (P)))))) ++ ([]))) := by rw [List.append_nil]; exact zpD (by have h := zp4 [] ([(ou, .inl (k 1, 1, .inr (.inl of)))] ++ (s_q k a f_q r_q c_q ++ (s_t k a f_t g_t ++ (s_r k a r_r ++ (s_c k a f_c g_c))))) (s_m k a f_m g_m) (P); (try simp only [List.append_assoc, List.nil_append] at h); (try simp only [List.append_assoc]); exact h) hD
      have hFc := zfree hDf hS hA
      refine va_calli (vx_runSW (As := [.ref (a 24), .long ((((xs (x4 + 1 : Int32).toNatClampNeg).toInt64) <<< ((32 : Int32).toInt64 &&& 63)) ||| (((xs (x4 + 2 : Int32).toNatClampNeg).toInt64) &&& 4294967295)), .int (xs (x4 + 3 : Int32).toNatClampNeg), .ref ou]) (rest := []) ⟨hx, hb, hml, hown, htz⟩ ((m_138 c_29 c_39_0) H.size) (vx_cwSW 4 htz (z_gS (fun _ h => h) km_La_59 st_La_sign ini_La m_La_sign) rfl rfl rfl (by decide +kernel) ⟨(Nat.le_of_ble_eq_true rfl), (Nat.le_of_ble_eq_true rfl)⟩) ⟨z_blind, fun U hU hW => ⟨rfl, by rw [hU], hE.call hS hFc hU hW, by rw [hU]; exact (zPc hPf), va_K.moved hW.alike hK, (zDc hDf)⟩⟩ rfl rfl hl.1 rfl (lv_room (Nat.le_of_ble_eq_true rfl)) d_La_law_138 (b_138 c_29 c_39_0)) hS (fun q _ h => hFc q h) hFc (fun r u t H1 locs ht hvm hw hB hz1 hk1 hS => ?_)
      obtain ⟨hP1, hK1, hD1⟩ := hB
      rw [ht] at hP1
      obtain ⟨hP, hD⟩ := zf hPf hDf hk1 hFc hP1 hD1
      rw [List.append_nil] at hP hD
      exact (k_138 c_29 c_39_0) r _ hw H1 locs ls (lv_sub hl [0, 1, 2, 3, 4] rfl) hP hD hS
    · by_cases c_39_1 : (xs (x4 : Int32).toNatClampNeg) &&& 15 = 1
      · refine lv_tableIn (tgt := 180) (off := 141) hx hb d_La_law_39 (by rw [c_39_1]; decide) (by rw [c_39_1]; decide) (by rw [c_39_1]; decide) (by decide) ?_
        refine lv_aload_n hx hb d_La_law_180 rfl (lv_at hl 1 rfl) ?_
        refine lv_aload_n hx hb d_La_law_181 rfl (lv_at hl 3 rfl) ?_
        have hPf : va_P (dC, dI) classes ((s_m k a f_m g_m) ++ (([(ou, .inl (k 1, 1, .inr (.inl of)))] ++ (s_q k a f_q r_q c_q ++ (s_t k a f_t g_t ++ (s_r k a r_r ++ (s_c k a f_c g_c ++ (P)))))) ++ ([]))) H := by rw [List.append_nil]; exact zpP (by have h := zp4 [] ([(ou, .inl (k 1, 1, .inr (.inl of)))] ++ (s_q k a f_q r_q c_q ++ (s_t k a f_t g_t ++ (s_r k a r_r ++ (s_c k a f_c g_c))))) (s_m k a f_m g_m) (P); (try simp only [List.append_assoc, List.nil_append] at h); (try simp only [List.append_assoc]); exact h) hP
        have hDf : va_D A ((s_m k a f_m g_m) ++ (([(ou, .inl (k 1, 1, .inr (.inl of)))] ++ (s_q k a f_q r_q c_q ++ (s_t k a f_t g_t ++ (s_r k a r_r ++ (s_c k a f_c g_c ++ (P)))))) ++ ([]))) := by rw [List.append_nil]; exact zpD (by have h := zp4 [] ([(ou, .inl (k 1, 1, .inr (.inl of)))] ++ (s_q k a f_q r_q c_q ++ (s_t k a f_t g_t ++ (s_r k a r_r ++ (s_c k a f_c g_c))))) (s_m k a f_m g_m) (P); (try simp only [List.append_assoc, List.nil_append] at h); (try simp only [List.append_assoc]); exact h) hD
        have hFc := zfree hDf hS hA
        refine va_calli (vx_runSW (As := [.ref (a 24), .ref ou]) (rest := []) ⟨hx, hb, hml, hown, htz⟩ ((m_182 c_29 c_39_0 c_39_1) H.size) (vx_cwSW 2 htz (z_gS (fun _ h => h) km_La_65 st_La_read ini_La m_La_read) rfl rfl rfl (by decide +kernel) ⟨(Nat.le_of_ble_eq_true rfl), (Nat.le_of_ble_eq_true rfl)⟩) ⟨z_blind, fun U hU hW => ⟨rfl, by rw [hU], hE.call hS hFc hU hW, by rw [hU]; exact (zPc hPf), va_K.moved hW.alike hK, (zDc hDf)⟩⟩ rfl rfl hl.1 rfl (lv_room (Nat.le_of_ble_eq_true rfl)) d_La_law_182 (b_182 c_29 c_39_0 c_39_1)) hS (fun q _ h => hFc q h) hFc (fun r u t H1 locs ht hvm hw hB hz1 hk1 hS => ?_)
        obtain ⟨hP1, hK1, hD1⟩ := hB
        rw [ht] at hP1
        obtain ⟨hP, hD⟩ := zf hPf hDf hk1 hFc hP1 hD1
        rw [List.append_nil] at hP hD
        exact (k_182 c_29 c_39_0 c_39_1) r _ hw H1 locs ls (lv_sub hl [0, 1, 2, 3, 4] rfl) hP hD hS
      · by_cases c_39_2 : (xs (x4 : Int32).toNatClampNeg) &&& 15 = 2
        · refine lv_tableIn (tgt := 196) (off := 157) hx hb d_La_law_39 (by rw [c_39_2]; decide) (by rw [c_39_2]; decide) (by rw [c_39_2]; decide) (by decide) ?_
          refine lv_aload_n hx hb d_La_law_196 rfl (lv_at hl 1 rfl) ?_
          have hPf : va_P (dC, dI) classes (([(ou, .inl (k 1, 1, .inr (.inl of)))] ++ (s_m k a f_m g_m)) ++ ((s_q k a f_q r_q c_q ++ (s_t k a f_t g_t ++ (s_r k a r_r ++ (s_c k a f_c g_c ++ (P))))) ++ ([]))) H := by rw [List.append_nil]; exact zpP (by have h := zp4 ([(ou, .inl (k 1, 1, .inr (.inl of)))]) (s_q k a f_q r_q c_q ++ (s_t k a f_t g_t ++ (s_r k a r_r ++ (s_c k a f_c g_c)))) (s_m k a f_m g_m) (P); (try simp only [List.append_assoc] at h); (try simp only [List.append_assoc]); exact h) hP
          have hDf : va_D A (([(ou, .inl (k 1, 1, .inr (.inl of)))] ++ (s_m k a f_m g_m)) ++ ((s_q k a f_q r_q c_q ++ (s_t k a f_t g_t ++ (s_r k a r_r ++ (s_c k a f_c g_c ++ (P))))) ++ ([]))) := by rw [List.append_nil]; exact zpD (by have h := zp4 ([(ou, .inl (k 1, 1, .inr (.inl of)))]) (s_q k a f_q r_q c_q ++ (s_t k a f_t g_t ++ (s_r k a r_r ++ (s_c k a f_c g_c)))) (s_m k a f_m g_m) (P); (try simp only [List.append_assoc] at h); (try simp only [List.append_assoc]); exact h) hD
          have hFc := zfree hDf hS hA
          refine va_calli (va_runV (As := []) (rest := []) ⟨hx, hb, hml, hown, htz⟩ ((m_197 c_29 c_39_0 c_39_1 c_39_2) H.size) (cwV 0 htz (z_gV (fun _ h => h) km_La_69 in_Q_place se_Q_place ini_Q m_Q_place) rfl rfl rfl (by decide +kernel) ⟨(Nat.le_of_ble_eq_true rfl), (Nat.le_of_ble_eq_true rfl)⟩) ⟨z_blind, va_recv hK hP (ci := 0) (q0 := 1) rfl rfl, fun U hU hW => ⟨rfl, by rw [hU], hE.call hS hFc hU hW, by rw [hU]; exact (zPc hPf), va_K.moved hW.alike hK, (zDc hDf)⟩⟩ rfl rfl hl.1 rfl (lv_room (Nat.le_of_ble_eq_true rfl)) d_La_law_197 (b_197 c_29 c_39_0 c_39_1 c_39_2)) hS (fun q _ h => hFc q h) hFc (fun r u t H1 locs ht hvm hw hB hz1 hk1 hS => ?_)
          obtain ⟨hP1, hK1, hD1⟩ := hB
          rw [ht] at hP1
          obtain ⟨hP, hD⟩ := zf hPf hDf hk1 hFc hP1 hD1
          rw [List.append_nil] at hP hD
          exact (k_197 c_29 c_39_0 c_39_1 c_39_2) r _ hw H1 locs ls (lv_sub hl [0, 1, 2, 3, 4] rfl) hP hD hS
        · by_cases c_39_3 : (xs (x4 : Int32).toNatClampNeg) &&& 15 = 3
          · refine lv_tableIn (tgt := 209) (off := 170) hx hb d_La_law_39 (by rw [c_39_3]; decide) (by rw [c_39_3]; decide) (by rw [c_39_3]; decide) (by decide) ?_
            refine lv_aload_n hx hb d_La_law_209 rfl (lv_at hl 1 rfl) ?_
            refine lv_aload_n hx hb d_La_law_210 rfl (lv_at hl 0 rfl) ?_
            refine lv_iload hx hb d_La_law_211 (lv_at hl 4 rfl) ?_
            refine lv_iconst (v := 1) hx hb d_La_law_213 (by decide) ?_
            refine lv_iadd hx hb d_La_law_214 ?_
            refine va_sld hx hb hX hbl hbA hS (i := x4 + 1) (h_215 c_29 c_39_0 c_39_1 c_39_2 c_39_3) d_La_law_215 ?_
            refine lv_aload_n hx hb d_La_law_216 rfl (lv_at hl 3 rfl) ?_
            have hPf : va_P (dC, dI) classes ((s_m k a f_m g_m) ++ (([(ou, .inl (k 1, 1, .inr (.inl of)))] ++ (s_q k a f_q r_q c_q ++ (s_t k a f_t g_t ++ (s_r k a r_r ++ (s_c k a f_c g_c ++ (P)))))) ++ ([]))) H := by rw [List.append_nil]; exact zpP (by have h := zp4 [] ([(ou, .inl (k 1, 1, .inr (.inl of)))] ++ (s_q k a f_q r_q c_q ++ (s_t k a f_t g_t ++ (s_r k a r_r ++ (s_c k a f_c g_c))))) (s_m k a f_m g_m) (P); (try simp only [List.append_assoc, List.nil_append] at h); (try simp only [List.append_assoc]); exact h) hP
            have hDf : va_D A ((s_m k a f_m g_m) ++ (([(ou, .inl (k 1, 1, .inr (.inl of)))] ++ (s_q k a f_q r_q c_q ++ (s_t k a f_t g_t ++ (s_r k a r_r ++ (s_c k a f_c g_c ++ (P)))))) ++ ([]))) := by rw [List.append_nil]; exact zpD (by have h := zp4 [] ([(ou, .inl (k 1, 1, .inr (.inl of)))] ++ (s_q k a f_q r_q c_q ++ (s_t k a f_t g_t ++ (s_r k a r_r ++ (s_c k a f_c g_c))))) (s_m k a f_m g_m) (P); (try simp only [List.append_assoc, List.nil_append] at h); (try simp only [List.append_assoc]); exact h) hD
            have hFc := zfree hDf hS hA
            refine va_calli (vx_runSW (As := [.ref (a 24), .int (xs (x4 + 1 : Int32).toNatClampNeg), .ref ou]) (rest := []) ⟨hx, hb, hml, hown, htz⟩ ((m_217 c_29 c_39_0 c_39_1 c_39_2 c_39_3) H.size) (vx_cwSW 3 htz (z_gS (fun _ h => h) km_La_73 st_La_edition ini_La m_La_edition) rfl rfl rfl (by decide +kernel) ⟨(Nat.le_of_ble_eq_true rfl), (Nat.le_of_ble_eq_true rfl)⟩) ⟨z_blind, fun U hU hW => ⟨rfl, by rw [hU], hE.call hS hFc hU hW, by rw [hU]; exact (zPc hPf), va_K.moved hW.alike hK, (zDc hDf)⟩⟩ rfl rfl hl.1 rfl (lv_room (Nat.le_of_ble_eq_true rfl)) d_La_law_217 (b_217 c_29 c_39_0 c_39_1 c_39_2 c_39_3)) hS (fun q _ h => hFc q h) hFc (fun r u t H1 locs ht hvm hw hB hz1 hk1 hS => ?_)
            obtain ⟨hP1, hK1, hD1⟩ := hB
            rw [ht] at hP1
            obtain ⟨hP, hD⟩ := zf hPf hDf hk1 hFc hP1 hD1
            rw [List.append_nil] at hP hD
            exact (k_217 c_29 c_39_0 c_39_1 c_39_2 c_39_3) r _ hw H1 locs ls (lv_sub hl [0, 1, 2, 3, 4] rfl) hP hD hS
          · by_cases c_39_4 : (xs (x4 : Int32).toNatClampNeg) &&& 15 = 4
            · refine lv_tableIn (tgt := 237) (off := 198) hx hb d_La_law_39 (by rw [c_39_4]; decide) (by rw [c_39_4]; decide) (by rw [c_39_4]; decide) (by decide) ?_
              refine lv_aload_n hx hb d_La_law_237 rfl (lv_at hl 1 rfl) ?_
              refine lv_aload_n hx hb d_La_law_238 rfl (lv_at hl 0 rfl) ?_
              refine lv_iload hx hb d_La_law_239 (lv_at hl 4 rfl) ?_
              refine lv_iconst (v := 1) hx hb d_La_law_241 (by decide) ?_
              refine lv_iadd hx hb d_La_law_242 ?_
              refine va_sld hx hb hX hbl hbA hS (i := x4 + 1) (h_243 c_29 c_39_0 c_39_1 c_39_2 c_39_3 c_39_4) d_La_law_243 ?_
              refine lv_aload_n hx hb d_La_law_244 rfl (lv_at hl 3 rfl) ?_
              have hPf : va_P (dC, dI) classes ((s_m k a f_m g_m) ++ (([(ou, .inl (k 1, 1, .inr (.inl of)))] ++ (s_q k a f_q r_q c_q ++ (s_t k a f_t g_t ++ (s_r k a r_r ++ (s_c k a f_c g_c ++ (P)))))) ++ ([]))) H := by rw [List.append_nil]; exact zpP (by have h := zp4 [] ([(ou, .inl (k 1, 1, .inr (.inl of)))] ++ (s_q k a f_q r_q c_q ++ (s_t k a f_t g_t ++ (s_r k a r_r ++ (s_c k a f_c g_c))))) (s_m k a f_m g_m) (P); (try simp only [List.append_assoc, List.nil_append] at h); (try simp only [List.append_assoc]); exact h) hP
              have hDf : va_D A ((s_m k a f_m g_m) ++ (([(ou, .inl (k 1, 1, .inr (.inl of)))] ++ (s_q k a f_q r_q c_q ++ (s_t k a f_t g_t ++ (s_r k a r_r ++ (s_c k a f_c g_c ++ (P)))))) ++ ([]))) := by rw [List.append_nil]; exact zpD (by have h := zp4 [] ([(ou, .inl (k 1, 1, .inr (.inl of)))] ++ (s_q k a f_q r_q c_q ++ (s_t k a f_t g_t ++ (s_r k a r_r ++ (s_c k a f_c g_c))))) (s_m k a f_m g_m) (P); (try simp only [List.append_assoc, List.nil_append] at h); (try simp only [List.append_assoc]); exact h) hD
              have hFc := zfree hDf hS hA
              refine va_calli (vx_runSW (As := [.ref (a 24), .int (xs (x4 + 1 : Int32).toNatClampNeg), .ref ou]) (rest := []) ⟨hx, hb, hml, hown, htz⟩ ((m_245 c_29 c_39_0 c_39_1 c_39_2 c_39_3 c_39_4) H.size) (vx_cwSW 3 htz (z_gS (fun _ h => h) km_La_77 st_La_first ini_La m_La_first) rfl rfl rfl (by decide +kernel) ⟨(Nat.le_of_ble_eq_true rfl), (Nat.le_of_ble_eq_true rfl)⟩) ⟨z_blind, fun U hU hW => ⟨rfl, by rw [hU], hE.call hS hFc hU hW, by rw [hU]; exact (zPc hPf), va_K.moved hW.alike hK, (zDc hDf)⟩⟩ rfl rfl hl.1 rfl (lv_room (Nat.le_of_ble_eq_true rfl)) d_La_law_245 (b_245 c_29 c_39_0 c_39_1 c_39_2 c_39_3 c_39_4)) hS (fun q _ h => hFc q h) hFc (fun r u t H1 locs ht hvm hw hB hz1 hk1 hS => ?_)
              obtain ⟨hP1, hK1, hD1⟩ := hB
              rw [ht] at hP1
              obtain ⟨hP, hD⟩ := zf hPf hDf hk1 hFc hP1 hD1
              rw [List.append_nil] at hP hD
              exact (k_245 c_29 c_39_0 c_39_1 c_39_2 c_39_3 c_39_4) r _ hw H1 locs ls (lv_sub hl [0, 1, 2, 3, 4] rfl) hP hD hS
            · by_cases c_39_5 : (xs (x4 : Int32).toNatClampNeg) &&& 15 = 5
              · refine lv_tableIn (tgt := 265) (off := 226) hx hb d_La_law_39 (by rw [c_39_5]; decide) (by rw [c_39_5]; decide) (by rw [c_39_5]; decide) (by decide) ?_
                refine lv_aload_n hx hb d_La_law_265 rfl (lv_at hl 1 rfl) ?_
                refine lv_aload_n hx hb d_La_law_266 rfl (lv_at hl 0 rfl) ?_
                refine lv_iload hx hb d_La_law_267 (lv_at hl 4 rfl) ?_
                refine lv_iconst (v := 1) hx hb d_La_law_269 (by decide) ?_
                refine lv_iadd hx hb d_La_law_270 ?_
                refine va_sld hx hb hX hbl hbA hS (i := x4 + 1) (h_271 c_29 c_39_0 c_39_1 c_39_2 c_39_3 c_39_4 c_39_5) d_La_law_271 ?_
                refine lv_aload_n hx hb d_La_law_272 rfl (lv_at hl 3 rfl) ?_
                have hPf : va_P (dC, dI) classes ((s_m k a f_m g_m) ++ (([(ou, .inl (k 1, 1, .inr (.inl of)))] ++ (s_q k a f_q r_q c_q ++ (s_t k a f_t g_t ++ (s_r k a r_r ++ (s_c k a f_c g_c ++ (P)))))) ++ ([]))) H := by rw [List.append_nil]; exact zpP (by have h := zp4 [] ([(ou, .inl (k 1, 1, .inr (.inl of)))] ++ (s_q k a f_q r_q c_q ++ (s_t k a f_t g_t ++ (s_r k a r_r ++ (s_c k a f_c g_c))))) (s_m k a f_m g_m) (P); (try simp only [List.append_assoc, List.nil_append] at h); (try simp only [List.append_assoc]); exact h) hP
                have hDf : va_D A ((s_m k a f_m g_m) ++ (([(ou, .inl (k 1, 1, .inr (.inl of)))] ++ (s_q k a f_q r_q c_q ++ (s_t k a f_t g_t ++ (s_r k a r_r ++ (s_c k a f_c g_c ++ (P)))))) ++ ([]))) := by rw [List.append_nil]; exact zpD (by have h := zp4 [] ([(ou, .inl (k 1, 1, .inr (.inl of)))] ++ (s_q k a f_q r_q c_q ++ (s_t k a f_t g_t ++ (s_r k a r_r ++ (s_c k a f_c g_c))))) (s_m k a f_m g_m) (P); (try simp only [List.append_assoc, List.nil_append] at h); (try simp only [List.append_assoc]); exact h) hD
                have hFc := zfree hDf hS hA
                refine va_calli (vx_runSW (As := [.ref (a 24), .int (xs (x4 + 1 : Int32).toNatClampNeg), .ref ou]) (rest := []) ⟨hx, hb, hml, hown, htz⟩ ((m_273 c_29 c_39_0 c_39_1 c_39_2 c_39_3 c_39_4 c_39_5) H.size) (vx_cwSW 3 htz (z_gS (fun _ h => h) km_La_80 st_La_answer ini_La m_La_answer) rfl rfl rfl (by decide +kernel) ⟨(Nat.le_of_ble_eq_true rfl), (Nat.le_of_ble_eq_true rfl)⟩) ⟨z_blind, fun U hU hW => ⟨rfl, by rw [hU], hE.call hS hFc hU hW, by rw [hU]; exact (zPc hPf), va_K.moved hW.alike hK, (zDc hDf)⟩⟩ rfl rfl hl.1 rfl (lv_room (Nat.le_of_ble_eq_true rfl)) d_La_law_273 (b_273 c_29 c_39_0 c_39_1 c_39_2 c_39_3 c_39_4 c_39_5)) hS (fun q _ h => hFc q h) hFc (fun r u t H1 locs ht hvm hw hB hz1 hk1 hS => ?_)
                obtain ⟨hP1, hK1, hD1⟩ := hB
                rw [ht] at hP1
                obtain ⟨hP, hD⟩ := zf hPf hDf hk1 hFc hP1 hD1
                rw [List.append_nil] at hP hD
                exact (k_273 c_29 c_39_0 c_39_1 c_39_2 c_39_3 c_39_4 c_39_5) r _ hw H1 locs ls (lv_sub hl [0, 1, 2, 3, 4] rfl) hP hD hS
              · by_cases c_39_6 : (xs (x4 : Int32).toNatClampNeg) &&& 15 = 6
                · refine lv_tableIn (tgt := 293) (off := 254) hx hb d_La_law_39 (by rw [c_39_6]; decide) (by rw [c_39_6]; decide) (by rw [c_39_6]; decide) (by decide) ?_
                  refine lv_aload_n hx hb d_La_law_293 rfl (lv_at hl 1 rfl) ?_
                  have hPf : va_P (dC, dI) classes (([(ou, .inl (k 1, 1, .inr (.inl of)))] ++ (s_m k a f_m g_m)) ++ ((s_q k a f_q r_q c_q ++ (s_t k a f_t g_t ++ (s_r k a r_r ++ (s_c k a f_c g_c ++ (P))))) ++ ([]))) H := by rw [List.append_nil]; exact zpP (by have h := zp4 ([(ou, .inl (k 1, 1, .inr (.inl of)))]) (s_q k a f_q r_q c_q ++ (s_t k a f_t g_t ++ (s_r k a r_r ++ (s_c k a f_c g_c)))) (s_m k a f_m g_m) (P); (try simp only [List.append_assoc] at h); (try simp only [List.append_assoc]); exact h) hP
                  have hDf : va_D A (([(ou, .inl (k 1, 1, .inr (.inl of)))] ++ (s_m k a f_m g_m)) ++ ((s_q k a f_q r_q c_q ++ (s_t k a f_t g_t ++ (s_r k a r_r ++ (s_c k a f_c g_c ++ (P))))) ++ ([]))) := by rw [List.append_nil]; exact zpD (by have h := zp4 ([(ou, .inl (k 1, 1, .inr (.inl of)))]) (s_q k a f_q r_q c_q ++ (s_t k a f_t g_t ++ (s_r k a r_r ++ (s_c k a f_c g_c)))) (s_m k a f_m g_m) (P); (try simp only [List.append_assoc] at h); (try simp only [List.append_assoc]); exact h) hD
                  have hFc := zfree hDf hS hA
                  refine va_calli (va_runV (As := []) (rest := []) ⟨hx, hb, hml, hown, htz⟩ ((m_294 c_29 c_39_0 c_39_1 c_39_2 c_39_3 c_39_4 c_39_5 c_39_6) H.size) (cwV 0 htz (z_gV (fun _ h => h) km_La_83 in_Q_kind se_Q_kind ini_Q m_Q_kind) rfl rfl rfl (by decide +kernel) ⟨(Nat.le_of_ble_eq_true rfl), (Nat.le_of_ble_eq_true rfl)⟩) ⟨z_blind, va_recv hK hP (ci := 0) (q0 := 1) rfl rfl, fun U hU hW => ⟨rfl, by rw [hU], hE.call hS hFc hU hW, by rw [hU]; exact (zPc hPf), va_K.moved hW.alike hK, (zDc hDf)⟩⟩ rfl rfl hl.1 rfl (lv_room (Nat.le_of_ble_eq_true rfl)) d_La_law_294 (b_294 c_29 c_39_0 c_39_1 c_39_2 c_39_3 c_39_4 c_39_5 c_39_6)) hS (fun q _ h => hFc q h) hFc (fun r u t H1 locs ht hvm hw hB hz1 hk1 hS => ?_)
                  obtain ⟨hP1, hK1, hD1⟩ := hB
                  rw [ht] at hP1
                  obtain ⟨hP, hD⟩ := zf hPf hDf hk1 hFc hP1 hD1
                  rw [List.append_nil] at hP hD
                  exact (k_294 c_29 c_39_0 c_39_1 c_39_2 c_39_3 c_39_4 c_39_5 c_39_6) r _ hw H1 locs ls (lv_sub hl [0, 1, 2, 3, 4] rfl) hP hD hS
                · by_cases c_39_7 : (xs (x4 : Int32).toNatClampNeg) &&& 15 = 7
                  · refine lv_tableIn (tgt := 306) (off := 267) hx hb d_La_law_39 (by rw [c_39_7]; decide) (by rw [c_39_7]; decide) (by rw [c_39_7]; decide) (by decide) ?_
                    refine lv_aload_n hx hb d_La_law_306 rfl (lv_at hl 1 rfl) ?_
                    refine lv_aload_n hx hb d_La_law_307 rfl (lv_at hl 3 rfl) ?_
                    have hPf : va_P (dC, dI) classes ((s_m k a f_m g_m) ++ (([(ou, .inl (k 1, 1, .inr (.inl of)))] ++ (s_q k a f_q r_q c_q ++ (s_t k a f_t g_t ++ (s_r k a r_r ++ (s_c k a f_c g_c ++ (P)))))) ++ ([]))) H := by rw [List.append_nil]; exact zpP (by have h := zp4 [] ([(ou, .inl (k 1, 1, .inr (.inl of)))] ++ (s_q k a f_q r_q c_q ++ (s_t k a f_t g_t ++ (s_r k a r_r ++ (s_c k a f_c g_c))))) (s_m k a f_m g_m) (P); (try simp only [List.append_assoc, List.nil_append] at h); (try simp only [List.append_assoc]); exact h) hP
                    have hDf : va_D A ((s_m k a f_m g_m) ++ (([(ou, .inl (k 1, 1, .inr (.inl of)))] ++ (s_q k a f_q r_q c_q ++ (s_t k a f_t g_t ++ (s_r k a r_r ++ (s_c k a f_c g_c ++ (P)))))) ++ ([]))) := by rw [List.append_nil]; exact zpD (by have h := zp4 [] ([(ou, .inl (k 1, 1, .inr (.inl of)))] ++ (s_q k a f_q r_q c_q ++ (s_t k a f_t g_t ++ (s_r k a r_r ++ (s_c k a f_c g_c))))) (s_m k a f_m g_m) (P); (try simp only [List.append_assoc, List.nil_append] at h); (try simp only [List.append_assoc]); exact h) hD
                    have hFc := zfree hDf hS hA
                    refine va_calli (vx_runSW (As := [.ref (a 24), .ref ou]) (rest := []) ⟨hx, hb, hml, hown, htz⟩ ((m_308 c_29 c_39_0 c_39_1 c_39_2 c_39_3 c_39_4 c_39_5 c_39_6 c_39_7) H.size) (vx_cwSW 2 htz (z_gS (fun _ h => h) km_La_87 st_La_priority ini_La m_La_priority) rfl rfl rfl (by decide +kernel) ⟨(Nat.le_of_ble_eq_true rfl), (Nat.le_of_ble_eq_true rfl)⟩) ⟨z_blind, fun U hU hW => ⟨rfl, by rw [hU], hE.call hS hFc hU hW, by rw [hU]; exact (zPc hPf), va_K.moved hW.alike hK, (zDc hDf)⟩⟩ rfl rfl hl.1 rfl (lv_room (Nat.le_of_ble_eq_true rfl)) d_La_law_308 (b_308 c_29 c_39_0 c_39_1 c_39_2 c_39_3 c_39_4 c_39_5 c_39_6 c_39_7)) hS (fun q _ h => hFc q h) hFc (fun r u t H1 locs ht hvm hw hB hz1 hk1 hS => ?_)
                    obtain ⟨hP1, hK1, hD1⟩ := hB
                    rw [ht] at hP1
                    obtain ⟨hP, hD⟩ := zf hPf hDf hk1 hFc hP1 hD1
                    rw [List.append_nil] at hP hD
                    exact (k_308 c_29 c_39_0 c_39_1 c_39_2 c_39_3 c_39_4 c_39_5 c_39_6 c_39_7) r _ hw H1 locs ls (lv_sub hl [0, 1, 2, 3, 4] rfl) hP hD hS
                  · by_cases c_39_8 : (xs (x4 : Int32).toNatClampNeg) &&& 15 = 8
                    · refine lv_tableIn (tgt := 322) (off := 283) hx hb d_La_law_39 (by rw [c_39_8]; decide) (by rw [c_39_8]; decide) (by rw [c_39_8]; decide) (by decide) ?_
                      refine lv_aload_n hx hb d_La_law_322 rfl (lv_at hl 1 rfl) ?_
                      refine lv_aload_n hx hb d_La_law_323 rfl (lv_at hl 3 rfl) ?_
                      have hPf : va_P (dC, dI) classes ((s_m k a f_m g_m) ++ (([(ou, .inl (k 1, 1, .inr (.inl of)))] ++ (s_q k a f_q r_q c_q ++ (s_t k a f_t g_t ++ (s_r k a r_r ++ (s_c k a f_c g_c ++ (P)))))) ++ ([]))) H := by rw [List.append_nil]; exact zpP (by have h := zp4 [] ([(ou, .inl (k 1, 1, .inr (.inl of)))] ++ (s_q k a f_q r_q c_q ++ (s_t k a f_t g_t ++ (s_r k a r_r ++ (s_c k a f_c g_c))))) (s_m k a f_m g_m) (P); (try simp only [List.append_assoc, List.nil_append] at h); (try simp only [List.append_assoc]); exact h) hP
                      have hDf : va_D A ((s_m k a f_m g_m) ++ (([(ou, .inl (k 1, 1, .inr (.inl of)))] ++ (s_q k a f_q r_q c_q ++ (s_t k a f_t g_t ++ (s_r k a r_r ++ (s_c k a f_c g_c ++ (P)))))) ++ ([]))) := by rw [List.append_nil]; exact zpD (by have h := zp4 [] ([(ou, .inl (k 1, 1, .inr (.inl of)))] ++ (s_q k a f_q r_q c_q ++ (s_t k a f_t g_t ++ (s_r k a r_r ++ (s_c k a f_c g_c))))) (s_m k a f_m g_m) (P); (try simp only [List.append_assoc, List.nil_append] at h); (try simp only [List.append_assoc]); exact h) hD
                      have hFc := zfree hDf hS hA
                      refine va_calli (vx_runSW (As := [.ref (a 24), .ref ou]) (rest := []) ⟨hx, hb, hml, hown, htz⟩ ((m_324 c_29 c_39_0 c_39_1 c_39_2 c_39_3 c_39_4 c_39_5 c_39_6 c_39_7 c_39_8) H.size) (vx_cwSW 2 htz (z_gS (fun _ h => h) km_La_90 st_La_points ini_La m_La_points) rfl rfl rfl (by decide +kernel) ⟨(Nat.le_of_ble_eq_true rfl), (Nat.le_of_ble_eq_true rfl)⟩) ⟨z_blind, fun U hU hW => ⟨rfl, by rw [hU], hE.call hS hFc hU hW, by rw [hU]; exact (zPc hPf), va_K.moved hW.alike hK, (zDc hDf)⟩⟩ rfl rfl hl.1 rfl (lv_room (Nat.le_of_ble_eq_true rfl)) d_La_law_324 (b_324 c_29 c_39_0 c_39_1 c_39_2 c_39_3 c_39_4 c_39_5 c_39_6 c_39_7 c_39_8)) hS (fun q _ h => hFc q h) hFc (fun r u t H1 locs ht hvm hw hB hz1 hk1 hS => ?_)
                      obtain ⟨hP1, hK1, hD1⟩ := hB
                      rw [ht] at hP1
                      obtain ⟨hP, hD⟩ := zf hPf hDf hk1 hFc hP1 hD1
                      rw [List.append_nil] at hP hD
                      exact (k_324 c_29 c_39_0 c_39_1 c_39_2 c_39_3 c_39_4 c_39_5 c_39_6 c_39_7 c_39_8) r _ hw H1 locs ls (lv_sub hl [0, 1, 2, 3, 4] rfl) hP hD hS
                    · by_cases c_39_9 : (xs (x4 : Int32).toNatClampNeg) &&& 15 = 9
                      · refine lv_tableIn (tgt := 338) (off := 299) hx hb d_La_law_39 (by rw [c_39_9]; decide) (by rw [c_39_9]; decide) (by rw [c_39_9]; decide) (by decide) ?_
                        refine lv_aload_n hx hb d_La_law_338 rfl (lv_at hl 1 rfl) ?_
                        refine lv_aload_n hx hb d_La_law_339 rfl (lv_at hl 0 rfl) ?_
                        refine lv_iload hx hb d_La_law_340 (lv_at hl 4 rfl) ?_
                        refine lv_iconst (v := 1) hx hb d_La_law_342 (by decide) ?_
                        refine lv_iadd hx hb d_La_law_343 ?_
                        refine va_sld hx hb hX hbl hbA hS (i := x4 + 1) (h_344 c_29 c_39_0 c_39_1 c_39_2 c_39_3 c_39_4 c_39_5 c_39_6 c_39_7 c_39_8 c_39_9) d_La_law_344 ?_
                        refine lv_aload_n hx hb d_La_law_345 rfl (lv_at hl 3 rfl) ?_
                        have hPf : va_P (dC, dI) classes ((s_m k a f_m g_m) ++ (([(ou, .inl (k 1, 1, .inr (.inl of)))] ++ (s_q k a f_q r_q c_q ++ (s_t k a f_t g_t ++ (s_r k a r_r ++ (s_c k a f_c g_c ++ (P)))))) ++ ([]))) H := by rw [List.append_nil]; exact zpP (by have h := zp4 [] ([(ou, .inl (k 1, 1, .inr (.inl of)))] ++ (s_q k a f_q r_q c_q ++ (s_t k a f_t g_t ++ (s_r k a r_r ++ (s_c k a f_c g_c))))) (s_m k a f_m g_m) (P); (try simp only [List.append_assoc, List.nil_append] at h); (try simp only [List.append_assoc]); exact h) hP
                        have hDf : va_D A ((s_m k a f_m g_m) ++ (([(ou, .inl (k 1, 1, .inr (.inl of)))] ++ (s_q k a f_q r_q c_q ++ (s_t k a f_t g_t ++ (s_r k a r_r ++ (s_c k a f_c g_c ++ (P)))))) ++ ([]))) := by rw [List.append_nil]; exact zpD (by have h := zp4 [] ([(ou, .inl (k 1, 1, .inr (.inl of)))] ++ (s_q k a f_q r_q c_q ++ (s_t k a f_t g_t ++ (s_r k a r_r ++ (s_c k a f_c g_c))))) (s_m k a f_m g_m) (P); (try simp only [List.append_assoc, List.nil_append] at h); (try simp only [List.append_assoc]); exact h) hD
                        have hFc := zfree hDf hS hA
                        refine va_calli (vx_runSW (As := [.ref (a 24), .int (xs (x4 + 1 : Int32).toNatClampNeg), .ref ou]) (rest := []) ⟨hx, hb, hml, hown, htz⟩ ((m_346 c_29 c_39_0 c_39_1 c_39_2 c_39_3 c_39_4 c_39_5 c_39_6 c_39_7 c_39_8 c_39_9) H.size) (vx_cwSW 3 htz (z_gS (fun _ h => h) km_La_93 st_La_asked ini_La m_La_asked) rfl rfl rfl (by decide +kernel) ⟨(Nat.le_of_ble_eq_true rfl), (Nat.le_of_ble_eq_true rfl)⟩) ⟨z_blind, fun U hU hW => ⟨rfl, by rw [hU], hE.call hS hFc hU hW, by rw [hU]; exact (zPc hPf), va_K.moved hW.alike hK, (zDc hDf)⟩⟩ rfl rfl hl.1 rfl (lv_room (Nat.le_of_ble_eq_true rfl)) d_La_law_346 (b_346 c_29 c_39_0 c_39_1 c_39_2 c_39_3 c_39_4 c_39_5 c_39_6 c_39_7 c_39_8 c_39_9)) hS (fun q _ h => hFc q h) hFc (fun r u t H1 locs ht hvm hw hB hz1 hk1 hS => ?_)
                        obtain ⟨hP1, hK1, hD1⟩ := hB
                        rw [ht] at hP1
                        obtain ⟨hP, hD⟩ := zf hPf hDf hk1 hFc hP1 hD1
                        rw [List.append_nil] at hP hD
                        exact (k_346 c_29 c_39_0 c_39_1 c_39_2 c_39_3 c_39_4 c_39_5 c_39_6 c_39_7 c_39_8 c_39_9) r _ hw H1 locs ls (lv_sub hl [0, 1, 2, 3, 4] rfl) hP hD hS
                      · by_cases c_39_10 : (xs (x4 : Int32).toNatClampNeg) &&& 15 = 10
                        · refine lv_tableIn (tgt := 366) (off := 327) hx hb d_La_law_39 (by rw [c_39_10]; decide) (by rw [c_39_10]; decide) (by rw [c_39_10]; decide) (by decide) ?_
                          refine lv_aload_n hx hb d_La_law_366 rfl (lv_at hl 1 rfl) ?_
                          refine lv_aload_n hx hb d_La_law_367 rfl (lv_at hl 0 rfl) ?_
                          refine lv_iload hx hb d_La_law_368 (lv_at hl 4 rfl) ?_
                          refine lv_iconst (v := 1) hx hb d_La_law_370 (by decide) ?_
                          refine lv_iadd hx hb d_La_law_371 ?_
                          refine va_sld hx hb hX hbl hbA hS (i := x4 + 1) (h_372 c_29 c_39_0 c_39_1 c_39_2 c_39_3 c_39_4 c_39_5 c_39_6 c_39_7 c_39_8 c_39_9 c_39_10) d_La_law_372 ?_
                          refine lv_aload_n hx hb d_La_law_373 rfl (lv_at hl 3 rfl) ?_
                          have hPf : va_P (dC, dI) classes ((s_m k a f_m g_m) ++ (([(ou, .inl (k 1, 1, .inr (.inl of)))] ++ (s_q k a f_q r_q c_q ++ (s_t k a f_t g_t ++ (s_r k a r_r ++ (s_c k a f_c g_c ++ (P)))))) ++ ([]))) H := by rw [List.append_nil]; exact zpP (by have h := zp4 [] ([(ou, .inl (k 1, 1, .inr (.inl of)))] ++ (s_q k a f_q r_q c_q ++ (s_t k a f_t g_t ++ (s_r k a r_r ++ (s_c k a f_c g_c))))) (s_m k a f_m g_m) (P); (try simp only [List.append_assoc, List.nil_append] at h); (try simp only [List.append_assoc]); exact h) hP
                          have hDf : va_D A ((s_m k a f_m g_m) ++ (([(ou, .inl (k 1, 1, .inr (.inl of)))] ++ (s_q k a f_q r_q c_q ++ (s_t k a f_t g_t ++ (s_r k a r_r ++ (s_c k a f_c g_c ++ (P)))))) ++ ([]))) := by rw [List.append_nil]; exact zpD (by have h := zp4 [] ([(ou, .inl (k 1, 1, .inr (.inl of)))] ++ (s_q k a f_q r_q c_q ++ (s_t k a f_t g_t ++ (s_r k a r_r ++ (s_c k a f_c g_c))))) (s_m k a f_m g_m) (P); (try simp only [List.append_assoc, List.nil_append] at h); (try simp only [List.append_assoc]); exact h) hD
                          have hFc := zfree hDf hS hA
                          refine va_calli (vx_runSW (As := [.ref (a 24), .int (xs (x4 + 1 : Int32).toNatClampNeg), .ref ou]) (rest := []) ⟨hx, hb, hml, hown, htz⟩ ((m_374 c_29 c_39_0 c_39_1 c_39_2 c_39_3 c_39_4 c_39_5 c_39_6 c_39_7 c_39_8 c_39_9 c_39_10) H.size) (vx_cwSW 3 htz (z_gS (fun _ h => h) km_La_96 st_La_loop ini_La m_La_loop) rfl rfl rfl (by decide +kernel) ⟨(Nat.le_of_ble_eq_true rfl), (Nat.le_of_ble_eq_true rfl)⟩) ⟨z_blind, fun U hU hW => ⟨rfl, by rw [hU], hE.call hS hFc hU hW, by rw [hU]; exact (zPc hPf), va_K.moved hW.alike hK, (zDc hDf)⟩⟩ rfl rfl hl.1 rfl (lv_room (Nat.le_of_ble_eq_true rfl)) d_La_law_374 (b_374 c_29 c_39_0 c_39_1 c_39_2 c_39_3 c_39_4 c_39_5 c_39_6 c_39_7 c_39_8 c_39_9 c_39_10)) hS (fun q _ h => hFc q h) hFc (fun r u t H1 locs ht hvm hw hB hz1 hk1 hS => ?_)
                          obtain ⟨hP1, hK1, hD1⟩ := hB
                          rw [ht] at hP1
                          obtain ⟨hP, hD⟩ := zf hPf hDf hk1 hFc hP1 hD1
                          rw [List.append_nil] at hP hD
                          exact (k_374 c_29 c_39_0 c_39_1 c_39_2 c_39_3 c_39_4 c_39_5 c_39_6 c_39_7 c_39_8 c_39_9 c_39_10) r _ hw H1 locs ls (lv_sub hl [0, 1, 2, 3, 4] rfl) hP hD hS
                        · by_cases c_39_11 : (xs (x4 : Int32).toNatClampNeg) &&& 15 = 11
                          · refine lv_tableIn (tgt := 394) (off := 355) hx hb d_La_law_39 (by rw [c_39_11]; decide) (by rw [c_39_11]; decide) (by rw [c_39_11]; decide) (by decide) ?_
                            refine lv_aload_n hx hb d_La_law_394 rfl (lv_at hl 1 rfl) ?_
                            refine lv_aload_n hx hb d_La_law_395 rfl (lv_at hl 0 rfl) ?_
                            refine lv_iload hx hb d_La_law_396 (lv_at hl 4 rfl) ?_
                            refine lv_iconst (v := 1) hx hb d_La_law_398 (by decide) ?_
                            refine lv_iadd hx hb d_La_law_399 ?_
                            refine va_sld hx hb hX hbl hbA hS (i := x4 + 1) (h_400 c_29 c_39_0 c_39_1 c_39_2 c_39_3 c_39_4 c_39_5 c_39_6 c_39_7 c_39_8 c_39_9 c_39_10 c_39_11) d_La_law_400 ?_
                            refine lv_aload_n hx hb d_La_law_401 rfl (lv_at hl 3 rfl) ?_
                            have hPf : va_P (dC, dI) classes ((s_m k a f_m g_m) ++ (([(ou, .inl (k 1, 1, .inr (.inl of)))] ++ (s_q k a f_q r_q c_q ++ (s_t k a f_t g_t ++ (s_r k a r_r ++ (s_c k a f_c g_c ++ (P)))))) ++ ([]))) H := by rw [List.append_nil]; exact zpP (by have h := zp4 [] ([(ou, .inl (k 1, 1, .inr (.inl of)))] ++ (s_q k a f_q r_q c_q ++ (s_t k a f_t g_t ++ (s_r k a r_r ++ (s_c k a f_c g_c))))) (s_m k a f_m g_m) (P); (try simp only [List.append_assoc, List.nil_append] at h); (try simp only [List.append_assoc]); exact h) hP
                            have hDf : va_D A ((s_m k a f_m g_m) ++ (([(ou, .inl (k 1, 1, .inr (.inl of)))] ++ (s_q k a f_q r_q c_q ++ (s_t k a f_t g_t ++ (s_r k a r_r ++ (s_c k a f_c g_c ++ (P)))))) ++ ([]))) := by rw [List.append_nil]; exact zpD (by have h := zp4 [] ([(ou, .inl (k 1, 1, .inr (.inl of)))] ++ (s_q k a f_q r_q c_q ++ (s_t k a f_t g_t ++ (s_r k a r_r ++ (s_c k a f_c g_c))))) (s_m k a f_m g_m) (P); (try simp only [List.append_assoc, List.nil_append] at h); (try simp only [List.append_assoc]); exact h) hD
                            have hFc := zfree hDf hS hA
                            refine va_calli (vx_runSW (As := [.ref (a 24), .int (xs (x4 + 1 : Int32).toNatClampNeg), .ref ou]) (rest := []) ⟨hx, hb, hml, hown, htz⟩ ((m_402 c_29 c_39_0 c_39_1 c_39_2 c_39_3 c_39_4 c_39_5 c_39_6 c_39_7 c_39_8 c_39_9 c_39_10 c_39_11) H.size) (vx_cwSW 3 htz (z_gS (fun _ h => h) km_La_99 st_La_never ini_La m_La_never) rfl rfl rfl (by decide +kernel) ⟨(Nat.le_of_ble_eq_true rfl), (Nat.le_of_ble_eq_true rfl)⟩) ⟨z_blind, fun U hU hW => ⟨rfl, by rw [hU], hE.call hS hFc hU hW, by rw [hU]; exact (zPc hPf), va_K.moved hW.alike hK, (zDc hDf)⟩⟩ rfl rfl hl.1 rfl (lv_room (Nat.le_of_ble_eq_true rfl)) d_La_law_402 (b_402 c_29 c_39_0 c_39_1 c_39_2 c_39_3 c_39_4 c_39_5 c_39_6 c_39_7 c_39_8 c_39_9 c_39_10 c_39_11)) hS (fun q _ h => hFc q h) hFc (fun r u t H1 locs ht hvm hw hB hz1 hk1 hS => ?_)
                            obtain ⟨hP1, hK1, hD1⟩ := hB
                            rw [ht] at hP1
                            obtain ⟨hP, hD⟩ := zf hPf hDf hk1 hFc hP1 hD1
                            rw [List.append_nil] at hP hD
                            exact (k_402 c_29 c_39_0 c_39_1 c_39_2 c_39_3 c_39_4 c_39_5 c_39_6 c_39_7 c_39_8 c_39_9 c_39_10 c_39_11) r _ hw H1 locs ls (lv_sub hl [0, 1, 2, 3, 4] rfl) hP hD hS
                          · by_cases c_39_12 : (xs (x4 : Int32).toNatClampNeg) &&& 15 = 12
                            · refine lv_tableIn (tgt := 450) (off := 411) hx hb d_La_law_39 (by rw [c_39_12]; decide) (by rw [c_39_12]; decide) (by rw [c_39_12]; decide) (by decide) ?_
                              refine lv_aload_n hx hb d_La_law_450 rfl (lv_at hl 1 rfl) ?_
                              refine lv_aload_n hx hb d_La_law_451 rfl (lv_at hl 0 rfl) ?_
                              refine lv_iload hx hb d_La_law_452 (lv_at hl 4 rfl) ?_
                              refine lv_iconst (v := 1) hx hb d_La_law_454 (by decide) ?_
                              refine lv_iadd hx hb d_La_law_455 ?_
                              refine va_sld hx hb hX hbl hbA hS (i := x4 + 1) (h_456 c_29 c_39_0 c_39_1 c_39_2 c_39_3 c_39_4 c_39_5 c_39_6 c_39_7 c_39_8 c_39_9 c_39_10 c_39_11 c_39_12) d_La_law_456 ?_
                              refine lv_aload_n hx hb d_La_law_457 rfl (lv_at hl 3 rfl) ?_
                              have hPf : va_P (dC, dI) classes ((s_m k a f_m g_m) ++ (([(ou, .inl (k 1, 1, .inr (.inl of)))] ++ (s_q k a f_q r_q c_q ++ (s_t k a f_t g_t ++ (s_r k a r_r ++ (s_c k a f_c g_c ++ (P)))))) ++ ([]))) H := by rw [List.append_nil]; exact zpP (by have h := zp4 [] ([(ou, .inl (k 1, 1, .inr (.inl of)))] ++ (s_q k a f_q r_q c_q ++ (s_t k a f_t g_t ++ (s_r k a r_r ++ (s_c k a f_c g_c))))) (s_m k a f_m g_m) (P); (try simp only [List.append_assoc, List.nil_append] at h); (try simp only [List.append_assoc]); exact h) hP
                              have hDf : va_D A ((s_m k a f_m g_m) ++ (([(ou, .inl (k 1, 1, .inr (.inl of)))] ++ (s_q k a f_q r_q c_q ++ (s_t k a f_t g_t ++ (s_r k a r_r ++ (s_c k a f_c g_c ++ (P)))))) ++ ([]))) := by rw [List.append_nil]; exact zpD (by have h := zp4 [] ([(ou, .inl (k 1, 1, .inr (.inl of)))] ++ (s_q k a f_q r_q c_q ++ (s_t k a f_t g_t ++ (s_r k a r_r ++ (s_c k a f_c g_c))))) (s_m k a f_m g_m) (P); (try simp only [List.append_assoc, List.nil_append] at h); (try simp only [List.append_assoc]); exact h) hD
                              have hFc := zfree hDf hS hA
                              refine va_calli (vx_runSW (As := [.ref (a 24), .int (xs (x4 + 1 : Int32).toNatClampNeg), .ref ou]) (rest := []) ⟨hx, hb, hml, hown, htz⟩ ((m_458 c_29 c_39_0 c_39_1 c_39_2 c_39_3 c_39_4 c_39_5 c_39_6 c_39_7 c_39_8 c_39_9 c_39_10 c_39_11 c_39_12) H.size) (vx_cwSW 3 htz (z_gS (fun _ h => h) km_La_105 st_La_endless ini_La m_La_endless) rfl rfl rfl (by decide +kernel) ⟨(Nat.le_of_ble_eq_true rfl), (Nat.le_of_ble_eq_true rfl)⟩) ⟨z_blind, fun U hU hW => ⟨rfl, by rw [hU], hE.call hS hFc hU hW, by rw [hU]; exact (zPc hPf), va_K.moved hW.alike hK, (zDc hDf)⟩⟩ rfl rfl hl.1 rfl (lv_room (Nat.le_of_ble_eq_true rfl)) d_La_law_458 (b_458 c_29 c_39_0 c_39_1 c_39_2 c_39_3 c_39_4 c_39_5 c_39_6 c_39_7 c_39_8 c_39_9 c_39_10 c_39_11 c_39_12)) hS (fun q _ h => hFc q h) hFc (fun r u t H1 locs ht hvm hw hB hz1 hk1 hS => ?_)
                              obtain ⟨hP1, hK1, hD1⟩ := hB
                              rw [ht] at hP1
                              obtain ⟨hP, hD⟩ := zf hPf hDf hk1 hFc hP1 hD1
                              rw [List.append_nil] at hP hD
                              exact (k_458 c_29 c_39_0 c_39_1 c_39_2 c_39_3 c_39_4 c_39_5 c_39_6 c_39_7 c_39_8 c_39_9 c_39_10 c_39_11 c_39_12) r _ hw H1 locs ls (lv_sub hl [0, 1, 2, 3, 4] rfl) hP hD hS
                            · by_cases c_39_13 : (xs (x4 : Int32).toNatClampNeg) &&& 15 = 13
                              · refine lv_tableIn (tgt := 478) (off := 439) hx hb d_La_law_39 (by rw [c_39_13]; decide) (by rw [c_39_13]; decide) (by rw [c_39_13]; decide) (by decide) ?_
                                refine lv_aload_n hx hb d_La_law_478 rfl (lv_at hl 1 rfl) ?_
                                refine lv_aload_n hx hb d_La_law_479 rfl (lv_at hl 0 rfl) ?_
                                refine lv_iload hx hb d_La_law_480 (lv_at hl 4 rfl) ?_
                                refine lv_iconst (v := 1) hx hb d_La_law_482 (by decide) ?_
                                refine lv_iadd hx hb d_La_law_483 ?_
                                refine va_sld hx hb hX hbl hbA hS (i := x4 + 1) (h_484 c_29 c_39_0 c_39_1 c_39_2 c_39_3 c_39_4 c_39_5 c_39_6 c_39_7 c_39_8 c_39_9 c_39_10 c_39_11 c_39_12 c_39_13) d_La_law_484 ?_
                                refine lv_aload_n hx hb d_La_law_485 rfl (lv_at hl 0 rfl) ?_
                                refine lv_iload hx hb d_La_law_486 (lv_at hl 4 rfl) ?_
                                refine lv_iconst (v := 2) hx hb d_La_law_488 (by decide) ?_
                                refine lv_iadd hx hb d_La_law_489 ?_
                                refine va_sld hx hb hX hbl hbA hS (i := x4 + 2) (h_490 c_29 c_39_0 c_39_1 c_39_2 c_39_3 c_39_4 c_39_5 c_39_6 c_39_7 c_39_8 c_39_9 c_39_10 c_39_11 c_39_12 c_39_13) d_La_law_490 ?_
                                refine lv_aload_n hx hb d_La_law_491 rfl (lv_at hl 0 rfl) ?_
                                refine lv_iload hx hb d_La_law_492 (lv_at hl 4 rfl) ?_
                                refine lv_iconst (v := 3) hx hb d_La_law_494 (by decide) ?_
                                refine lv_iadd hx hb d_La_law_495 ?_
                                refine va_sld hx hb hX hbl hbA hS (i := x4 + 3) (h_496 c_29 c_39_0 c_39_1 c_39_2 c_39_3 c_39_4 c_39_5 c_39_6 c_39_7 c_39_8 c_39_9 c_39_10 c_39_11 c_39_12 c_39_13) d_La_law_496 ?_
                                refine lv_aload_n hx hb d_La_law_497 rfl (lv_at hl 3 rfl) ?_
                                have hPf : va_P (dC, dI) classes ((s_m k a f_m g_m) ++ (([(ou, .inl (k 1, 1, .inr (.inl of)))] ++ (s_q k a f_q r_q c_q ++ (s_t k a f_t g_t ++ (s_r k a r_r ++ (s_c k a f_c g_c ++ (P)))))) ++ ([]))) H := by rw [List.append_nil]; exact zpP (by have h := zp4 [] ([(ou, .inl (k 1, 1, .inr (.inl of)))] ++ (s_q k a f_q r_q c_q ++ (s_t k a f_t g_t ++ (s_r k a r_r ++ (s_c k a f_c g_c))))) (s_m k a f_m g_m) (P); (try simp only [List.append_assoc, List.nil_append] at h); (try simp only [List.append_assoc]); exact h) hP
                                have hDf : va_D A ((s_m k a f_m g_m) ++ (([(ou, .inl (k 1, 1, .inr (.inl of)))] ++ (s_q k a f_q r_q c_q ++ (s_t k a f_t g_t ++ (s_r k a r_r ++ (s_c k a f_c g_c ++ (P)))))) ++ ([]))) := by rw [List.append_nil]; exact zpD (by have h := zp4 [] ([(ou, .inl (k 1, 1, .inr (.inl of)))] ++ (s_q k a f_q r_q c_q ++ (s_t k a f_t g_t ++ (s_r k a r_r ++ (s_c k a f_c g_c))))) (s_m k a f_m g_m) (P); (try simp only [List.append_assoc, List.nil_append] at h); (try simp only [List.append_assoc]); exact h) hD
                                have hFc := zfree hDf hS hA
                                refine va_calli (vx_runSW (As := [.ref (a 24), .int (xs (x4 + 1 : Int32).toNatClampNeg), .int (xs (x4 + 2 : Int32).toNatClampNeg), .int (xs (x4 + 3 : Int32).toNatClampNeg), .ref ou]) (rest := []) ⟨hx, hb, hml, hown, htz⟩ ((m_498 c_29 c_39_0 c_39_1 c_39_2 c_39_3 c_39_4 c_39_5 c_39_6 c_39_7 c_39_8 c_39_9 c_39_10 c_39_11 c_39_12 c_39_13) H.size) (vx_cwSW 5 htz (z_gS (fun _ h => h) km_La_108 st_La_word ini_La m_La_word) rfl rfl rfl (by decide +kernel) ⟨(Nat.le_of_ble_eq_true rfl), (Nat.le_of_ble_eq_true rfl)⟩) ⟨z_blind, fun U hU hW => ⟨rfl, by rw [hU], hE.call hS hFc hU hW, by rw [hU]; exact (zPc hPf), va_K.moved hW.alike hK, (zDc hDf)⟩⟩ rfl rfl hl.1 rfl (lv_room (Nat.le_of_ble_eq_true rfl)) d_La_law_498 (b_498 c_29 c_39_0 c_39_1 c_39_2 c_39_3 c_39_4 c_39_5 c_39_6 c_39_7 c_39_8 c_39_9 c_39_10 c_39_11 c_39_12 c_39_13)) hS (fun q _ h => hFc q h) hFc (fun r u t H1 locs ht hvm hw hB hz1 hk1 hS => ?_)
                                obtain ⟨hP1, hK1, hD1⟩ := hB
                                rw [ht] at hP1
                                obtain ⟨hP, hD⟩ := zf hPf hDf hk1 hFc hP1 hD1
                                rw [List.append_nil] at hP hD
                                exact (k_498 c_29 c_39_0 c_39_1 c_39_2 c_39_3 c_39_4 c_39_5 c_39_6 c_39_7 c_39_8 c_39_9 c_39_10 c_39_11 c_39_12 c_39_13) r _ hw H1 locs ls (lv_sub hl [0, 1, 2, 3, 4] rfl) hP hD hS
                              · refine lv_tableOut (tgt := 530) hx hb d_La_law_39 (d_39 c_29 c_39_0 c_39_1 c_39_2 c_39_3 c_39_4 c_39_5 c_39_6 c_39_7 c_39_8 c_39_9 c_39_10 c_39_11 c_39_12 c_39_13) (by decide) ?_
                                exact (k_530 c_29 c_39_0 c_39_1 c_39_2 c_39_3 c_39_4 c_39_5 c_39_6 c_39_7 c_39_8 c_39_9 c_39_10 c_39_11 c_39_12 c_39_13) H locs ls (lv_sub hl [0, 1, 2, 3, 4] rfl) hP hD hS
set_option maxHeartbeats 1000000 in
set_option maxRecDepth 100000 in
theorem k_La_lawL_141 {C : CT} {b_ L_ : Nat} {xs : Nat → Int32} (X : cL C "QuestionTextLaw" b_La_law 7 (some .boolean) b_ L_ xs) (Post : State → Prop) {P_172 : Int32 → va_W → Prop} (x4 : Int32) (y0 : Int32) (f_q : FT) (r_q : Nat → Nat → Option Nat) (c_q : Nat) (f_t : FT) (g_t : GT) (r_r : Nat → Nat → Option Nat) (f_c : FT) (g_c : GT) (f_m : FT) (g_m : GT) (P : va_W) (ou : Nat) (of : Nat → Int64) (MM : Nat) (SS : Nat) (c0 s0 : Nat)
    (h_149 : vp_in (x4 + 1) L_)
    (h_159 : vp_in (x4 + 2) L_)
    (h_171 : vp_in (x4 + 3) L_)
    (b_172 : c0 ≤ 601024 ∧ s0 ≤ 7293034)
    (m_172 : uI C.1 y_Mo_sign (Cond.code y_Mo_sign b_Mo_sign 5 (some .int)) 1 0 0 [.ref (ad C.1 0), .long ((((xs (x4 + 1 : Int32).toNatClampNeg).toInt64) <<< ((32 : Int32).toInt64 &&& 63)) ||| (((xs (x4 + 2 : Int32).toNatClampNeg).toInt64) &&& 4294967295)), .int (xs (x4 + 3 : Int32).toNatClampNeg)] (s_m C.1.2.2.2.1 C.1.2.2.2.2 f_m g_m) P_172)
    (k_172 : ∀ (r : Int32) (u : va_W), P_172 r u → zc_La_lawL C Post c0 s0 175 [(0, .ref b_), (1, .ref (ad C.1 24)), (2, .ref (ad C.1 0)), (3, .ref ou), (4, .int x4), (5, .int y0)] [.int r] ([(ou, .inl (C.1.2.2.2.1 1, 1, .inr (.inl of)))] ++ (s_q C.1.2.2.2.1 C.1.2.2.2.2 f_q r_q c_q ++ (s_t C.1.2.2.2.1 C.1.2.2.2.2 f_t g_t ++ (s_r C.1.2.2.2.1 C.1.2.2.2.2 r_r ++ (s_c C.1.2.2.2.1 C.1.2.2.2.2 f_c g_c)))) ++ (u ++ (P)))) : zc_La_lawL C Post c0 s0 141 [(0, .ref b_), (1, .ref (ad C.1 24)), (2, .ref (ad C.1 0)), (3, .ref ou), (4, .int x4)] [.int y0] ([(ou, .inl (C.1.2.2.2.1 1, 1, .inr (.inl of)))] ++ (s_q C.1.2.2.2.1 C.1.2.2.2.2 f_q r_q c_q ++ (s_t C.1.2.2.2.1 C.1.2.2.2.2 f_t g_t ++ (s_r C.1.2.2.2.1 C.1.2.2.2.2 r_r ++ (s_c C.1.2.2.2.1 C.1.2.2.2.2 f_c g_c ++ (s_m C.1.2.2.2.1 C.1.2.2.2.2 f_m g_m ++ (P))))))) := by
  obtain ⟨⟨l, dC, dI, k, a⟩, p, e, s, m, args, below, meth, c, A⟩ := C
  obtain ⟨⟨hx, hb, hr, htz, hown, hlocks, hml, hE, hK, hA⟩, hX, hbl, hbA, hlt⟩ := X
  intro H locs ls hl hP hD hS
  have hl : lv_has ls 7 [(0, .ref b_), (1, .ref (a 24)), (2, .ref (a 0)), (3, .ref ou), (4, .int x4)] := hl
  have hP : va_P (dC, dI) classes ([(ou, .inl (k 1, 1, .inr (.inl of)))] ++ (s_q k a f_q r_q c_q ++ (s_t k a f_t g_t ++ (s_r k a r_r ++ (s_c k a f_c g_c ++ (s_m k a f_m g_m ++ (P))))))) H := hP
  have hD : va_D A ([(ou, .inl (k 1, 1, .inr (.inl of)))] ++ (s_q k a f_q r_q c_q ++ (s_t k a f_t g_t ++ (s_r k a r_r ++ (s_c k a f_c g_c ++ (s_m k a f_m g_m ++ (P))))))) := hD
  show W p l e room_1 s m args below meth c H locs c0 s0 _ (F0 m 141 ls [.int y0])
  refine lv_istore (lv' := [(5, .int y0), (0, .ref b_), (1, .ref (a 24)), (2, .ref (a 0)), (3, .ref ou), (4, .int x4)]) hx hb d_La_law_141 hl (by decide) rfl (fun ls hl => ?_)
  refine lv_aload_n hx hb d_La_law_143 rfl (lv_at hl 3 rfl) ?_
  refine lv_aload_n hx hb d_La_law_144 rfl (lv_at hl 1 rfl) ?_
  refine lv_iload hx hb d_La_law_145 (lv_at hl 5 rfl) ?_
  refine lv_iconst (v := 1) hx hb d_La_law_147 (by decide) ?_
  refine lv_iadd hx hb d_La_law_148 ?_
  refine va_sld hx hb hX hbl hbA hS (i := x4 + 1) h_149 d_La_law_149 ?_
  refine lv_i2l (v := (xs (x4 + 1 : Int32).toNatClampNeg).toInt64) hx hb d_La_law_150 rfl ?_
  refine lv_bipush (v := 32) hx hb d_La_law_151 (by decide) ?_
  refine lv_lshl (v := ((xs (x4 + 1 : Int32).toNatClampNeg).toInt64) <<< ((32 : Int32).toInt64 &&& 63)) hx hb d_La_law_153 rfl ?_
  refine lv_aload_n hx hb d_La_law_154 rfl (lv_at hl 1 rfl) ?_
  refine lv_iload hx hb d_La_law_155 (lv_at hl 5 rfl) ?_
  refine lv_iconst (v := 2) hx hb d_La_law_157 (by decide) ?_
  refine lv_iadd hx hb d_La_law_158 ?_
  refine va_sld hx hb hX hbl hbA hS (i := x4 + 2) h_159 d_La_law_159 ?_
  refine lv_i2l (v := (xs (x4 + 2 : Int32).toNatClampNeg).toInt64) hx hb d_La_law_160 rfl ?_
  refine W.ldc2 hx hb hown (htz _ kl_La_57) rfl d_La_law_161 ?_
  refine lv_land hx hb d_La_law_164 ?_
  refine lv_lor hx hb d_La_law_165 ?_
  refine lv_aload_n hx hb d_La_law_166 rfl (lv_at hl 1 rfl) ?_
  refine lv_iload hx hb d_La_law_167 (lv_at hl 5 rfl) ?_
  refine lv_iconst (v := 3) hx hb d_La_law_169 (by decide) ?_
  refine lv_iadd hx hb d_La_law_170 ?_
  refine va_sld hx hb hX hbl hbA hS (i := x4 + 3) h_171 d_La_law_171 ?_
  have hPf : va_P (dC, dI) classes (([(ou, .inl (k 1, 1, .inr (.inl of)))] ++ (s_q k a f_q r_q c_q ++ (s_t k a f_t g_t ++ (s_r k a r_r ++ (s_c k a f_c g_c))))) ++ ((s_m k a f_m g_m) ++ (P))) H := zpP (by (try simp only [List.append_assoc]); exact List.Perm.refl _) hP
  have hDf : va_D A (([(ou, .inl (k 1, 1, .inr (.inl of)))] ++ (s_q k a f_q r_q c_q ++ (s_t k a f_t g_t ++ (s_r k a r_r ++ (s_c k a f_c g_c))))) ++ ((s_m k a f_m g_m) ++ (P))) := zpD (by (try simp only [List.append_assoc]); exact List.Perm.refl _) hD
  have hFc := zfree hDf hS hA
  refine va_calli (va_runV (As := [.long ((((xs (x4 + 1 : Int32).toNatClampNeg).toInt64) <<< ((32 : Int32).toInt64 &&& 63)) ||| (((xs (x4 + 2 : Int32).toNatClampNeg).toInt64) &&& 4294967295)), .int (xs (x4 + 3 : Int32).toNatClampNeg)]) (rest := []) ⟨hx, hb, hml, hown, htz⟩ (m_172 H.size) (cwV 2 htz (z_gV (fun _ h => h) km_La_64 in_Mo_sign se_Mo_sign ini_Mo m_Mo_sign) rfl rfl rfl (by decide +kernel) ⟨(Nat.le_of_ble_eq_true rfl), (Nat.le_of_ble_eq_true rfl)⟩) ⟨z_blind, va_recv hK hP (ci := 4) (q0 := 10) rfl rfl, fun U hU hW => ⟨rfl, by rw [hU], hE.call hS hFc hU hW, by rw [hU]; exact (zPc hPf), va_K.moved hW.alike hK, (zDc hDf)⟩⟩ rfl rfl hl.1 rfl (lv_room (Nat.le_of_ble_eq_true rfl)) d_La_law_172 b_172) hS (fun q _ h => hFc q h) hFc (fun r u t H1 locs ht hvm hw hB hz1 hk1 hS => ?_)
  obtain ⟨hP1, hK1, hD1⟩ := hB
  rw [ht] at hP1
  obtain ⟨hP, hD⟩ := zf hPf hDf hk1 hFc hP1 hD1
  exact k_172 r _ hw H1 locs ls (lv_sub hl [1, 2, 3, 4, 5, 0] rfl) hP hD hS
set_option maxHeartbeats 1000000 in
set_option maxRecDepth 100000 in
theorem k_La_lawL_175 {C : CT} {b_ L_ : Nat} {xs : Nat → Int32} (X : cL C "QuestionTextLaw" b_La_law 7 (some .boolean) b_ L_ xs) (Post : State → Prop) (x4 : Int32) (x5 : Int32) (y0 : Int32) (f_q : FT) (r_q : Nat → Nat → Option Nat) (c_q : Nat) (f_t : FT) (g_t : GT) (r_r : Nat → Nat → Option Nat) (f_c : FT) (g_c : GT) (f_m : FT) (g_m : GT) (P : va_W) (ou : Nat) (of : Nat → Int64) (MM : Nat) (SS : Nat) (c0 s0 : Nat)
    (k_530 : zc_La_lawL C Post c0 s0 530 [(0, .ref b_), (1, .ref (ad C.1 24)), (2, .ref (ad C.1 0)), (3, .ref ou), (4, .int x4)] [] ([(ou, .inl (C.1.2.2.2.1 1, 1, .inr (.inl of)))] ++ (s_q C.1.2.2.2.1 C.1.2.2.2.2 f_q r_q c_q ++ (s_t C.1.2.2.2.1 C.1.2.2.2.2 f_t g_t ++ (s_r C.1.2.2.2.1 C.1.2.2.2.2 r_r ++ (s_c C.1.2.2.2.1 C.1.2.2.2.2 f_c g_c ++ (s_m C.1.2.2.2.1 C.1.2.2.2.2 f_m g_m ++ (P)))))))) : zc_La_lawL C Post c0 s0 175 [(0, .ref b_), (1, .ref (ad C.1 24)), (2, .ref (ad C.1 0)), (3, .ref ou), (4, .int x4), (5, .int x5)] [.int y0] ([(ou, .inl (C.1.2.2.2.1 1, 1, .inr (.inl of)))] ++ (s_q C.1.2.2.2.1 C.1.2.2.2.2 f_q r_q c_q ++ (s_t C.1.2.2.2.1 C.1.2.2.2.2 f_t g_t ++ (s_r C.1.2.2.2.1 C.1.2.2.2.2 r_r ++ (s_c C.1.2.2.2.1 C.1.2.2.2.2 f_c g_c ++ (s_m C.1.2.2.2.1 C.1.2.2.2.2 f_m g_m ++ (P))))))) := by
  obtain ⟨⟨l, dC, dI, k, a⟩, p, e, s, m, args, below, meth, c, A⟩ := C
  obtain ⟨⟨hx, hb, hr, htz, hown, hlocks, hml, hE, hK, hA⟩, hX, hbl, hbA, hlt⟩ := X
  intro H locs ls hl hP hD hS
  have hl : lv_has ls 7 [(0, .ref b_), (1, .ref (a 24)), (2, .ref (a 0)), (3, .ref ou), (4, .int x4), (5, .int x5)] := hl
  have hP : va_P (dC, dI) classes ([(ou, .inl (k 1, 1, .inr (.inl of)))] ++ (s_q k a f_q r_q c_q ++ (s_t k a f_t g_t ++ (s_r k a r_r ++ (s_c k a f_c g_c ++ (s_m k a f_m g_m ++ (P))))))) H := hP
  have hD : va_D A ([(ou, .inl (k 1, 1, .inr (.inl of)))] ++ (s_q k a f_q r_q c_q ++ (s_t k a f_t g_t ++ (s_r k a r_r ++ (s_c k a f_c g_c ++ (s_m k a f_m g_m ++ (P))))))) := hD
  show W p l e room_1 s m args below meth c H locs c0 s0 _ (F0 m 175 ls [.int y0])
  refine lv_istore (lv' := [(6, .int y0), (0, .ref b_), (1, .ref (a 24)), (2, .ref (a 0)), (3, .ref ou), (4, .int x4), (5, .int x5)]) hx hb d_La_law_175 hl (by decide) rfl (fun ls hl => ?_)
  refine lv_goto (tgt := 530) hx hb d_La_law_177 (by decide) ?_
  exact k_530 H locs ls (lv_sub hl [1, 2, 3, 4, 5] rfl) hP hD hS
set_option maxHeartbeats 1000000 in
set_option maxRecDepth 100000 in
theorem k_La_lawL_185 {C : CT} {b_ L_ : Nat} {xs : Nat → Int32} (X : cL C "QuestionTextLaw" b_La_law 7 (some .boolean) b_ L_ xs) (Post : State → Prop) {P_188 : Int32 → va_W → Prop} (x4 : Int32) (y0 : Int32) (f_q : FT) (r_q : Nat → Nat → Option Nat) (c_q : Nat) (f_t : FT) (g_t : GT) (r_r : Nat → Nat → Option Nat) (f_c : FT) (g_c : GT) (f_m : FT) (g_m : GT) (P : va_W) (ou : Nat) (of : Nat → Int64) (MM : Nat) (SS : Nat) (c0 s0 : Nat)
    (b_188 : c0 ≤ 601024 ∧ s0 ≤ 7293034)
    (m_188 : uI C.1 y_Mo_read (Cond.code y_Mo_read b_Mo_read 2 (some .int)) 6 0 0 [.ref (ad C.1 0)] (s_m C.1.2.2.2.1 C.1.2.2.2.2 f_m g_m) P_188)
    (k_188 : ∀ (r : Int32) (u : va_W), P_188 r u → zc_La_lawL C Post c0 s0 191 [(0, .ref b_), (1, .ref (ad C.1 24)), (2, .ref (ad C.1 0)), (3, .ref ou), (4, .int x4), (5, .int y0)] [.int r] ([(ou, .inl (C.1.2.2.2.1 1, 1, .inr (.inl of)))] ++ (s_q C.1.2.2.2.1 C.1.2.2.2.2 f_q r_q c_q ++ (s_t C.1.2.2.2.1 C.1.2.2.2.2 f_t g_t ++ (s_r C.1.2.2.2.1 C.1.2.2.2.2 r_r ++ (s_c C.1.2.2.2.1 C.1.2.2.2.2 f_c g_c)))) ++ (u ++ (P)))) : zc_La_lawL C Post c0 s0 185 [(0, .ref b_), (1, .ref (ad C.1 24)), (2, .ref (ad C.1 0)), (3, .ref ou), (4, .int x4)] [.int y0] ([(ou, .inl (C.1.2.2.2.1 1, 1, .inr (.inl of)))] ++ (s_q C.1.2.2.2.1 C.1.2.2.2.2 f_q r_q c_q ++ (s_t C.1.2.2.2.1 C.1.2.2.2.2 f_t g_t ++ (s_r C.1.2.2.2.1 C.1.2.2.2.2 r_r ++ (s_c C.1.2.2.2.1 C.1.2.2.2.2 f_c g_c ++ (s_m C.1.2.2.2.1 C.1.2.2.2.2 f_m g_m ++ (P))))))) := by
  obtain ⟨⟨l, dC, dI, k, a⟩, p, e, s, m, args, below, meth, c, A⟩ := C
  obtain ⟨⟨hx, hb, hr, htz, hown, hlocks, hml, hE, hK, hA⟩, hX, hbl, hbA, hlt⟩ := X
  intro H locs ls hl hP hD hS
  have hl : lv_has ls 7 [(0, .ref b_), (1, .ref (a 24)), (2, .ref (a 0)), (3, .ref ou), (4, .int x4)] := hl
  have hP : va_P (dC, dI) classes ([(ou, .inl (k 1, 1, .inr (.inl of)))] ++ (s_q k a f_q r_q c_q ++ (s_t k a f_t g_t ++ (s_r k a r_r ++ (s_c k a f_c g_c ++ (s_m k a f_m g_m ++ (P))))))) H := hP
  have hD : va_D A ([(ou, .inl (k 1, 1, .inr (.inl of)))] ++ (s_q k a f_q r_q c_q ++ (s_t k a f_t g_t ++ (s_r k a r_r ++ (s_c k a f_c g_c ++ (s_m k a f_m g_m ++ (P))))))) := hD
  show W p l e room_1 s m args below meth c H locs c0 s0 _ (F0 m 185 ls [.int y0])
  refine lv_istore (lv' := [(5, .int y0), (0, .ref b_), (1, .ref (a 24)), (2, .ref (a 0)), (3, .ref ou), (4, .int x4)]) hx hb d_La_law_185 hl (by decide) rfl (fun ls hl => ?_)
  refine lv_aload_n hx hb d_La_law_187 rfl (lv_at hl 3 rfl) ?_
  have hPf : va_P (dC, dI) classes (([(ou, .inl (k 1, 1, .inr (.inl of)))] ++ (s_q k a f_q r_q c_q ++ (s_t k a f_t g_t ++ (s_r k a r_r ++ (s_c k a f_c g_c))))) ++ ((s_m k a f_m g_m) ++ (P))) H := zpP (by (try simp only [List.append_assoc]); exact List.Perm.refl _) hP
  have hDf : va_D A (([(ou, .inl (k 1, 1, .inr (.inl of)))] ++ (s_q k a f_q r_q c_q ++ (s_t k a f_t g_t ++ (s_r k a r_r ++ (s_c k a f_c g_c))))) ++ ((s_m k a f_m g_m) ++ (P))) := zpD (by (try simp only [List.append_assoc]); exact List.Perm.refl _) hD
  have hFc := zfree hDf hS hA
  refine va_calli (va_runV (As := []) (rest := []) ⟨hx, hb, hml, hown, htz⟩ (m_188 H.size) (cwV 0 htz (z_gV (fun _ h => h) km_La_68 in_Mo_read se_Mo_read ini_Mo m_Mo_read) rfl rfl rfl (by decide +kernel) ⟨(Nat.le_of_ble_eq_true rfl), (Nat.le_of_ble_eq_true rfl)⟩) ⟨z_blind, va_recv hK hP (ci := 4) (q0 := 10) rfl rfl, fun U hU hW => ⟨rfl, by rw [hU], hE.call hS hFc hU hW, by rw [hU]; exact (zPc hPf), va_K.moved hW.alike hK, (zDc hDf)⟩⟩ rfl rfl hl.1 rfl (lv_room (Nat.le_of_ble_eq_true rfl)) d_La_law_188 b_188) hS (fun q _ h => hFc q h) hFc (fun r u t H1 locs ht hvm hw hB hz1 hk1 hS => ?_)
  obtain ⟨hP1, hK1, hD1⟩ := hB
  rw [ht] at hP1
  obtain ⟨hP, hD⟩ := zf hPf hDf hk1 hFc hP1 hD1
  exact k_188 r _ hw H1 locs ls (lv_sub hl [1, 2, 3, 4, 5, 0] rfl) hP hD hS
set_option maxHeartbeats 1000000 in
set_option maxRecDepth 100000 in
theorem k_La_lawL_191 {C : CT} {b_ L_ : Nat} {xs : Nat → Int32} (X : cL C "QuestionTextLaw" b_La_law 7 (some .boolean) b_ L_ xs) (Post : State → Prop) (x4 : Int32) (x5 : Int32) (y0 : Int32) (f_q : FT) (r_q : Nat → Nat → Option Nat) (c_q : Nat) (f_t : FT) (g_t : GT) (r_r : Nat → Nat → Option Nat) (f_c : FT) (g_c : GT) (f_m : FT) (g_m : GT) (P : va_W) (ou : Nat) (of : Nat → Int64) (MM : Nat) (SS : Nat) (c0 s0 : Nat)
    (k_530 : zc_La_lawL C Post c0 s0 530 [(0, .ref b_), (1, .ref (ad C.1 24)), (2, .ref (ad C.1 0)), (3, .ref ou), (4, .int x4)] [] ([(ou, .inl (C.1.2.2.2.1 1, 1, .inr (.inl of)))] ++ (s_q C.1.2.2.2.1 C.1.2.2.2.2 f_q r_q c_q ++ (s_t C.1.2.2.2.1 C.1.2.2.2.2 f_t g_t ++ (s_r C.1.2.2.2.1 C.1.2.2.2.2 r_r ++ (s_c C.1.2.2.2.1 C.1.2.2.2.2 f_c g_c ++ (s_m C.1.2.2.2.1 C.1.2.2.2.2 f_m g_m ++ (P)))))))) : zc_La_lawL C Post c0 s0 191 [(0, .ref b_), (1, .ref (ad C.1 24)), (2, .ref (ad C.1 0)), (3, .ref ou), (4, .int x4), (5, .int x5)] [.int y0] ([(ou, .inl (C.1.2.2.2.1 1, 1, .inr (.inl of)))] ++ (s_q C.1.2.2.2.1 C.1.2.2.2.2 f_q r_q c_q ++ (s_t C.1.2.2.2.1 C.1.2.2.2.2 f_t g_t ++ (s_r C.1.2.2.2.1 C.1.2.2.2.2 r_r ++ (s_c C.1.2.2.2.1 C.1.2.2.2.2 f_c g_c ++ (s_m C.1.2.2.2.1 C.1.2.2.2.2 f_m g_m ++ (P))))))) := by
  obtain ⟨⟨l, dC, dI, k, a⟩, p, e, s, m, args, below, meth, c, A⟩ := C
  obtain ⟨⟨hx, hb, hr, htz, hown, hlocks, hml, hE, hK, hA⟩, hX, hbl, hbA, hlt⟩ := X
  intro H locs ls hl hP hD hS
  have hl : lv_has ls 7 [(0, .ref b_), (1, .ref (a 24)), (2, .ref (a 0)), (3, .ref ou), (4, .int x4), (5, .int x5)] := hl
  have hP : va_P (dC, dI) classes ([(ou, .inl (k 1, 1, .inr (.inl of)))] ++ (s_q k a f_q r_q c_q ++ (s_t k a f_t g_t ++ (s_r k a r_r ++ (s_c k a f_c g_c ++ (s_m k a f_m g_m ++ (P))))))) H := hP
  have hD : va_D A ([(ou, .inl (k 1, 1, .inr (.inl of)))] ++ (s_q k a f_q r_q c_q ++ (s_t k a f_t g_t ++ (s_r k a r_r ++ (s_c k a f_c g_c ++ (s_m k a f_m g_m ++ (P))))))) := hD
  show W p l e room_1 s m args below meth c H locs c0 s0 _ (F0 m 191 ls [.int y0])
  refine lv_istore (lv' := [(6, .int y0), (0, .ref b_), (1, .ref (a 24)), (2, .ref (a 0)), (3, .ref ou), (4, .int x4), (5, .int x5)]) hx hb d_La_law_191 hl (by decide) rfl (fun ls hl => ?_)
  refine lv_goto (tgt := 530) hx hb d_La_law_193 (by decide) ?_
  exact k_530 H locs ls (lv_sub hl [1, 2, 3, 4, 5] rfl) hP hD hS
set_option maxHeartbeats 1000000 in
set_option maxRecDepth 100000 in
theorem k_La_lawL_200 {C : CT} {b_ L_ : Nat} {xs : Nat → Int32} (X : cL C "QuestionTextLaw" b_La_law 7 (some .boolean) b_ L_ xs) (Post : State → Prop) {P_202 : Int32 → va_W → Prop} (x4 : Int32) (y0 : Int32) (f_q : FT) (r_q : Nat → Nat → Option Nat) (c_q : Nat) (f_t : FT) (g_t : GT) (r_r : Nat → Nat → Option Nat) (f_c : FT) (g_c : GT) (f_m : FT) (g_m : GT) (P : va_W) (ou : Nat) (of : Nat → Int64) (MM : Nat) (SS : Nat) (c0 s0 : Nat)
    (b_202 : c0 ≤ 601024 ∧ s0 ≤ 7293034)
    (m_202 : uI C.1 y_Mo_place (Cond.code y_Mo_place b_Mo_place 1 (some .int)) 0 0 0 [.ref (ad C.1 0)] (s_m C.1.2.2.2.1 C.1.2.2.2.2 f_m g_m) P_202)
    (k_202 : ∀ (r : Int32) (u : va_W), P_202 r u → zc_La_lawL C Post c0 s0 205 [(0, .ref b_), (1, .ref (ad C.1 24)), (2, .ref (ad C.1 0)), (3, .ref ou), (4, .int x4)] [.int r] ([(ou, .inl (C.1.2.2.2.1 1, 1, .inr (.inl of)))] ++ (s_q C.1.2.2.2.1 C.1.2.2.2.2 f_q r_q c_q ++ (s_t C.1.2.2.2.1 C.1.2.2.2.2 f_t g_t ++ (s_r C.1.2.2.2.1 C.1.2.2.2.2 r_r ++ (s_c C.1.2.2.2.1 C.1.2.2.2.2 f_c g_c)))) ++ (u ++ (P)))) : zc_La_lawL C Post c0 s0 200 [(0, .ref b_), (1, .ref (ad C.1 24)), (2, .ref (ad C.1 0)), (3, .ref ou), (4, .int x4)] [.int y0] ([(ou, .inl (C.1.2.2.2.1 1, 1, .inr (.inl of)))] ++ (s_q C.1.2.2.2.1 C.1.2.2.2.2 f_q r_q c_q ++ (s_t C.1.2.2.2.1 C.1.2.2.2.2 f_t g_t ++ (s_r C.1.2.2.2.1 C.1.2.2.2.2 r_r ++ (s_c C.1.2.2.2.1 C.1.2.2.2.2 f_c g_c ++ (s_m C.1.2.2.2.1 C.1.2.2.2.2 f_m g_m ++ (P))))))) := by
  obtain ⟨⟨l, dC, dI, k, a⟩, p, e, s, m, args, below, meth, c, A⟩ := C
  obtain ⟨⟨hx, hb, hr, htz, hown, hlocks, hml, hE, hK, hA⟩, hX, hbl, hbA, hlt⟩ := X
  intro H locs ls hl hP hD hS
  have hl : lv_has ls 7 [(0, .ref b_), (1, .ref (a 24)), (2, .ref (a 0)), (3, .ref ou), (4, .int x4)] := hl
  have hP : va_P (dC, dI) classes ([(ou, .inl (k 1, 1, .inr (.inl of)))] ++ (s_q k a f_q r_q c_q ++ (s_t k a f_t g_t ++ (s_r k a r_r ++ (s_c k a f_c g_c ++ (s_m k a f_m g_m ++ (P))))))) H := hP
  have hD : va_D A ([(ou, .inl (k 1, 1, .inr (.inl of)))] ++ (s_q k a f_q r_q c_q ++ (s_t k a f_t g_t ++ (s_r k a r_r ++ (s_c k a f_c g_c ++ (s_m k a f_m g_m ++ (P))))))) := hD
  show W p l e room_1 s m args below meth c H locs c0 s0 _ (F0 m 200 ls [.int y0])
  refine lv_pop hx hb d_La_law_200 rfl ?_
  refine lv_aload_n hx hb d_La_law_201 rfl (lv_at hl 2 rfl) ?_
  have hPf : va_P (dC, dI) classes (([(ou, .inl (k 1, 1, .inr (.inl of)))] ++ (s_q k a f_q r_q c_q ++ (s_t k a f_t g_t ++ (s_r k a r_r ++ (s_c k a f_c g_c))))) ++ ((s_m k a f_m g_m) ++ (P))) H := zpP (by (try simp only [List.append_assoc]); exact List.Perm.refl _) hP
  have hDf : va_D A (([(ou, .inl (k 1, 1, .inr (.inl of)))] ++ (s_q k a f_q r_q c_q ++ (s_t k a f_t g_t ++ (s_r k a r_r ++ (s_c k a f_c g_c))))) ++ ((s_m k a f_m g_m) ++ (P))) := zpD (by (try simp only [List.append_assoc]); exact List.Perm.refl _) hD
  have hFc := zfree hDf hS hA
  refine va_calli (va_runV (As := []) (rest := []) ⟨hx, hb, hml, hown, htz⟩ (m_202 H.size) (cwV 0 htz (z_gV (fun _ h => h) km_La_72 in_Mo_place se_Mo_place ini_Mo m_Mo_place) rfl rfl rfl (by decide +kernel) ⟨(Nat.le_of_ble_eq_true rfl), (Nat.le_of_ble_eq_true rfl)⟩) ⟨z_blind, va_recv hK hP (ci := 4) (q0 := 10) rfl rfl, fun U hU hW => ⟨rfl, by rw [hU], hE.call hS hFc hU hW, by rw [hU]; exact (zPc hPf), va_K.moved hW.alike hK, (zDc hDf)⟩⟩ rfl rfl hl.1 rfl (lv_room (Nat.le_of_ble_eq_true rfl)) d_La_law_202 b_202) hS (fun q _ h => hFc q h) hFc (fun r u t H1 locs ht hvm hw hB hz1 hk1 hS => ?_)
  obtain ⟨hP1, hK1, hD1⟩ := hB
  rw [ht] at hP1
  obtain ⟨hP, hD⟩ := zf hPf hDf hk1 hFc hP1 hD1
  exact k_202 r _ hw H1 locs ls (lv_sub hl [0, 1, 2, 3, 4] rfl) hP hD hS
set_option maxHeartbeats 1000000 in
set_option maxRecDepth 100000 in
theorem k_La_lawL_205 {C : CT} {b_ L_ : Nat} {xs : Nat → Int32} (X : cL C "QuestionTextLaw" b_La_law 7 (some .boolean) b_ L_ xs) (Post : State → Prop) (x4 : Int32) (y0 : Int32) (f_q : FT) (r_q : Nat → Nat → Option Nat) (c_q : Nat) (f_t : FT) (g_t : GT) (r_r : Nat → Nat → Option Nat) (f_c : FT) (g_c : GT) (f_m : FT) (g_m : GT) (P : va_W) (ou : Nat) (of : Nat → Int64) (MM : Nat) (SS : Nat) (c0 s0 : Nat)
    (k_530 : zc_La_lawL C Post c0 s0 530 [(0, .ref b_), (1, .ref (ad C.1 24)), (2, .ref (ad C.1 0)), (3, .ref ou), (4, .int x4)] [] ([(ou, .inl (C.1.2.2.2.1 1, 1, .inr (.inl of)))] ++ (s_q C.1.2.2.2.1 C.1.2.2.2.2 f_q r_q c_q ++ (s_t C.1.2.2.2.1 C.1.2.2.2.2 f_t g_t ++ (s_r C.1.2.2.2.1 C.1.2.2.2.2 r_r ++ (s_c C.1.2.2.2.1 C.1.2.2.2.2 f_c g_c ++ (s_m C.1.2.2.2.1 C.1.2.2.2.2 f_m g_m ++ (P)))))))) : zc_La_lawL C Post c0 s0 205 [(0, .ref b_), (1, .ref (ad C.1 24)), (2, .ref (ad C.1 0)), (3, .ref ou), (4, .int x4)] [.int y0] ([(ou, .inl (C.1.2.2.2.1 1, 1, .inr (.inl of)))] ++ (s_q C.1.2.2.2.1 C.1.2.2.2.2 f_q r_q c_q ++ (s_t C.1.2.2.2.1 C.1.2.2.2.2 f_t g_t ++ (s_r C.1.2.2.2.1 C.1.2.2.2.2 r_r ++ (s_c C.1.2.2.2.1 C.1.2.2.2.2 f_c g_c ++ (s_m C.1.2.2.2.1 C.1.2.2.2.2 f_m g_m ++ (P))))))) := by
  obtain ⟨⟨l, dC, dI, k, a⟩, p, e, s, m, args, below, meth, c, A⟩ := C
  obtain ⟨⟨hx, hb, hr, htz, hown, hlocks, hml, hE, hK, hA⟩, hX, hbl, hbA, hlt⟩ := X
  intro H locs ls hl hP hD hS
  have hl : lv_has ls 7 [(0, .ref b_), (1, .ref (a 24)), (2, .ref (a 0)), (3, .ref ou), (4, .int x4)] := hl
  have hP : va_P (dC, dI) classes ([(ou, .inl (k 1, 1, .inr (.inl of)))] ++ (s_q k a f_q r_q c_q ++ (s_t k a f_t g_t ++ (s_r k a r_r ++ (s_c k a f_c g_c ++ (s_m k a f_m g_m ++ (P))))))) H := hP
  have hD : va_D A ([(ou, .inl (k 1, 1, .inr (.inl of)))] ++ (s_q k a f_q r_q c_q ++ (s_t k a f_t g_t ++ (s_r k a r_r ++ (s_c k a f_c g_c ++ (s_m k a f_m g_m ++ (P))))))) := hD
  show W p l e room_1 s m args below meth c H locs c0 s0 _ (F0 m 205 ls [.int y0])
  refine lv_pop hx hb d_La_law_205 rfl ?_
  refine lv_goto (tgt := 530) hx hb d_La_law_206 (by decide) ?_
  exact k_530 H locs ls (lv_sub hl [0, 1, 2, 3, 4] rfl) hP hD hS
set_option maxHeartbeats 1000000 in
set_option maxRecDepth 100000 in
theorem k_La_lawL_220 {C : CT} {b_ L_ : Nat} {xs : Nat → Int32} (X : cL C "QuestionTextLaw" b_La_law 7 (some .boolean) b_ L_ xs) (Post : State → Prop) {P_229 : Int32 → va_W → Prop} (x4 : Int32) (y0 : Int32) (f_q : FT) (r_q : Nat → Nat → Option Nat) (c_q : Nat) (f_t : FT) (g_t : GT) (r_r : Nat → Nat → Option Nat) (f_c : FT) (g_c : GT) (f_m : FT) (g_m : GT) (P : va_W) (ou : Nat) (of : Nat → Int64) (MM : Nat) (SS : Nat) (c0 s0 : Nat)
    (h_228 : vp_in (x4 + 1) L_)
    (b_229 : c0 ≤ 601024 ∧ s0 ≤ 7293034)
    (m_229 : uI C.1 y_Mo_edition (Cond.code y_Mo_edition b_Mo_edition 2 (some .int)) 1 0 0 [.ref (ad C.1 0), .int (xs (x4 + 1 : Int32).toNatClampNeg)] (s_m C.1.2.2.2.1 C.1.2.2.2.2 f_m g_m) P_229)
    (k_229 : ∀ (r : Int32) (u : va_W), P_229 r u → zc_La_lawL C Post c0 s0 232 [(0, .ref b_), (1, .ref (ad C.1 24)), (2, .ref (ad C.1 0)), (3, .ref ou), (4, .int x4), (5, .int y0)] [.int r] ([(ou, .inl (C.1.2.2.2.1 1, 1, .inr (.inl of)))] ++ (s_q C.1.2.2.2.1 C.1.2.2.2.2 f_q r_q c_q ++ (s_t C.1.2.2.2.1 C.1.2.2.2.2 f_t g_t ++ (s_r C.1.2.2.2.1 C.1.2.2.2.2 r_r ++ (s_c C.1.2.2.2.1 C.1.2.2.2.2 f_c g_c)))) ++ (u ++ (P)))) : zc_La_lawL C Post c0 s0 220 [(0, .ref b_), (1, .ref (ad C.1 24)), (2, .ref (ad C.1 0)), (3, .ref ou), (4, .int x4)] [.int y0] ([(ou, .inl (C.1.2.2.2.1 1, 1, .inr (.inl of)))] ++ (s_q C.1.2.2.2.1 C.1.2.2.2.2 f_q r_q c_q ++ (s_t C.1.2.2.2.1 C.1.2.2.2.2 f_t g_t ++ (s_r C.1.2.2.2.1 C.1.2.2.2.2 r_r ++ (s_c C.1.2.2.2.1 C.1.2.2.2.2 f_c g_c ++ (s_m C.1.2.2.2.1 C.1.2.2.2.2 f_m g_m ++ (P))))))) := by
  obtain ⟨⟨l, dC, dI, k, a⟩, p, e, s, m, args, below, meth, c, A⟩ := C
  obtain ⟨⟨hx, hb, hr, htz, hown, hlocks, hml, hE, hK, hA⟩, hX, hbl, hbA, hlt⟩ := X
  intro H locs ls hl hP hD hS
  have hl : lv_has ls 7 [(0, .ref b_), (1, .ref (a 24)), (2, .ref (a 0)), (3, .ref ou), (4, .int x4)] := hl
  have hP : va_P (dC, dI) classes ([(ou, .inl (k 1, 1, .inr (.inl of)))] ++ (s_q k a f_q r_q c_q ++ (s_t k a f_t g_t ++ (s_r k a r_r ++ (s_c k a f_c g_c ++ (s_m k a f_m g_m ++ (P))))))) H := hP
  have hD : va_D A ([(ou, .inl (k 1, 1, .inr (.inl of)))] ++ (s_q k a f_q r_q c_q ++ (s_t k a f_t g_t ++ (s_r k a r_r ++ (s_c k a f_c g_c ++ (s_m k a f_m g_m ++ (P))))))) := hD
  show W p l e room_1 s m args below meth c H locs c0 s0 _ (F0 m 220 ls [.int y0])
  refine lv_istore (lv' := [(5, .int y0), (0, .ref b_), (1, .ref (a 24)), (2, .ref (a 0)), (3, .ref ou), (4, .int x4)]) hx hb d_La_law_220 hl (by decide) rfl (fun ls hl => ?_)
  refine lv_aload_n hx hb d_La_law_222 rfl (lv_at hl 3 rfl) ?_
  refine lv_aload_n hx hb d_La_law_223 rfl (lv_at hl 1 rfl) ?_
  refine lv_iload hx hb d_La_law_224 (lv_at hl 5 rfl) ?_
  refine lv_iconst (v := 1) hx hb d_La_law_226 (by decide) ?_
  refine lv_iadd hx hb d_La_law_227 ?_
  refine va_sld hx hb hX hbl hbA hS (i := x4 + 1) h_228 d_La_law_228 ?_
  have hPf : va_P (dC, dI) classes (([(ou, .inl (k 1, 1, .inr (.inl of)))] ++ (s_q k a f_q r_q c_q ++ (s_t k a f_t g_t ++ (s_r k a r_r ++ (s_c k a f_c g_c))))) ++ ((s_m k a f_m g_m) ++ (P))) H := zpP (by (try simp only [List.append_assoc]); exact List.Perm.refl _) hP
  have hDf : va_D A (([(ou, .inl (k 1, 1, .inr (.inl of)))] ++ (s_q k a f_q r_q c_q ++ (s_t k a f_t g_t ++ (s_r k a r_r ++ (s_c k a f_c g_c))))) ++ ((s_m k a f_m g_m) ++ (P))) := zpD (by (try simp only [List.append_assoc]); exact List.Perm.refl _) hD
  have hFc := zfree hDf hS hA
  refine va_calli (va_runV (As := [.int (xs (x4 + 1 : Int32).toNatClampNeg)]) (rest := []) ⟨hx, hb, hml, hown, htz⟩ (m_229 H.size) (cwV 1 htz (z_gV (fun _ h => h) km_La_76 in_Mo_edition se_Mo_edition ini_Mo m_Mo_edition) rfl rfl rfl (by decide +kernel) ⟨(Nat.le_of_ble_eq_true rfl), (Nat.le_of_ble_eq_true rfl)⟩) ⟨z_blind, va_recv hK hP (ci := 4) (q0 := 10) rfl rfl, fun U hU hW => ⟨rfl, by rw [hU], hE.call hS hFc hU hW, by rw [hU]; exact (zPc hPf), va_K.moved hW.alike hK, (zDc hDf)⟩⟩ rfl rfl hl.1 rfl (lv_room (Nat.le_of_ble_eq_true rfl)) d_La_law_229 b_229) hS (fun q _ h => hFc q h) hFc (fun r u t H1 locs ht hvm hw hB hz1 hk1 hS => ?_)
  obtain ⟨hP1, hK1, hD1⟩ := hB
  rw [ht] at hP1
  obtain ⟨hP, hD⟩ := zf hPf hDf hk1 hFc hP1 hD1
  exact k_229 r _ hw H1 locs ls (lv_sub hl [1, 2, 3, 4, 5, 0] rfl) hP hD hS
set_option maxHeartbeats 1000000 in
set_option maxRecDepth 100000 in
theorem k_La_lawL_232 {C : CT} {b_ L_ : Nat} {xs : Nat → Int32} (X : cL C "QuestionTextLaw" b_La_law 7 (some .boolean) b_ L_ xs) (Post : State → Prop) (x4 : Int32) (x5 : Int32) (y0 : Int32) (f_q : FT) (r_q : Nat → Nat → Option Nat) (c_q : Nat) (f_t : FT) (g_t : GT) (r_r : Nat → Nat → Option Nat) (f_c : FT) (g_c : GT) (f_m : FT) (g_m : GT) (P : va_W) (ou : Nat) (of : Nat → Int64) (MM : Nat) (SS : Nat) (c0 s0 : Nat)
    (k_530 : zc_La_lawL C Post c0 s0 530 [(0, .ref b_), (1, .ref (ad C.1 24)), (2, .ref (ad C.1 0)), (3, .ref ou), (4, .int x4)] [] ([(ou, .inl (C.1.2.2.2.1 1, 1, .inr (.inl of)))] ++ (s_q C.1.2.2.2.1 C.1.2.2.2.2 f_q r_q c_q ++ (s_t C.1.2.2.2.1 C.1.2.2.2.2 f_t g_t ++ (s_r C.1.2.2.2.1 C.1.2.2.2.2 r_r ++ (s_c C.1.2.2.2.1 C.1.2.2.2.2 f_c g_c ++ (s_m C.1.2.2.2.1 C.1.2.2.2.2 f_m g_m ++ (P)))))))) : zc_La_lawL C Post c0 s0 232 [(0, .ref b_), (1, .ref (ad C.1 24)), (2, .ref (ad C.1 0)), (3, .ref ou), (4, .int x4), (5, .int x5)] [.int y0] ([(ou, .inl (C.1.2.2.2.1 1, 1, .inr (.inl of)))] ++ (s_q C.1.2.2.2.1 C.1.2.2.2.2 f_q r_q c_q ++ (s_t C.1.2.2.2.1 C.1.2.2.2.2 f_t g_t ++ (s_r C.1.2.2.2.1 C.1.2.2.2.2 r_r ++ (s_c C.1.2.2.2.1 C.1.2.2.2.2 f_c g_c ++ (s_m C.1.2.2.2.1 C.1.2.2.2.2 f_m g_m ++ (P))))))) := by
  obtain ⟨⟨l, dC, dI, k, a⟩, p, e, s, m, args, below, meth, c, A⟩ := C
  obtain ⟨⟨hx, hb, hr, htz, hown, hlocks, hml, hE, hK, hA⟩, hX, hbl, hbA, hlt⟩ := X
  intro H locs ls hl hP hD hS
  have hl : lv_has ls 7 [(0, .ref b_), (1, .ref (a 24)), (2, .ref (a 0)), (3, .ref ou), (4, .int x4), (5, .int x5)] := hl
  have hP : va_P (dC, dI) classes ([(ou, .inl (k 1, 1, .inr (.inl of)))] ++ (s_q k a f_q r_q c_q ++ (s_t k a f_t g_t ++ (s_r k a r_r ++ (s_c k a f_c g_c ++ (s_m k a f_m g_m ++ (P))))))) H := hP
  have hD : va_D A ([(ou, .inl (k 1, 1, .inr (.inl of)))] ++ (s_q k a f_q r_q c_q ++ (s_t k a f_t g_t ++ (s_r k a r_r ++ (s_c k a f_c g_c ++ (s_m k a f_m g_m ++ (P))))))) := hD
  show W p l e room_1 s m args below meth c H locs c0 s0 _ (F0 m 232 ls [.int y0])
  refine lv_istore (lv' := [(6, .int y0), (0, .ref b_), (1, .ref (a 24)), (2, .ref (a 0)), (3, .ref ou), (4, .int x4), (5, .int x5)]) hx hb d_La_law_232 hl (by decide) rfl (fun ls hl => ?_)
  refine lv_goto (tgt := 530) hx hb d_La_law_234 (by decide) ?_
  exact k_530 H locs ls (lv_sub hl [1, 2, 3, 4, 5] rfl) hP hD hS
set_option maxHeartbeats 1000000 in
set_option maxRecDepth 100000 in
theorem k_La_lawL_248 {C : CT} {b_ L_ : Nat} {xs : Nat → Int32} (X : cL C "QuestionTextLaw" b_La_law 7 (some .boolean) b_ L_ xs) (Post : State → Prop) {P_257 : Int32 → va_W → Prop} (x4 : Int32) (y0 : Int32) (f_q : FT) (r_q : Nat → Nat → Option Nat) (c_q : Nat) (f_t : FT) (g_t : GT) (r_r : Nat → Nat → Option Nat) (f_c : FT) (g_c : GT) (f_m : FT) (g_m : GT) (P : va_W) (ou : Nat) (of : Nat → Int64) (MM : Nat) (SS : Nat) (c0 s0 : Nat)
    (h_256 : vp_in (x4 + 1) L_)
    (b_257 : c0 ≤ 601024 ∧ s0 ≤ 7293034)
    (m_257 : uI C.1 y_Mo_first (Cond.code y_Mo_first b_Mo_first 3 (some .int)) 2 0 0 [.ref (ad C.1 0), .int (xs (x4 + 1 : Int32).toNatClampNeg)] (s_m C.1.2.2.2.1 C.1.2.2.2.2 f_m g_m) P_257)
    (k_257 : ∀ (r : Int32) (u : va_W), P_257 r u → zc_La_lawL C Post c0 s0 260 [(0, .ref b_), (1, .ref (ad C.1 24)), (2, .ref (ad C.1 0)), (3, .ref ou), (4, .int x4), (5, .int y0)] [.int r] ([(ou, .inl (C.1.2.2.2.1 1, 1, .inr (.inl of)))] ++ (s_q C.1.2.2.2.1 C.1.2.2.2.2 f_q r_q c_q ++ (s_t C.1.2.2.2.1 C.1.2.2.2.2 f_t g_t ++ (s_r C.1.2.2.2.1 C.1.2.2.2.2 r_r ++ (s_c C.1.2.2.2.1 C.1.2.2.2.2 f_c g_c)))) ++ (u ++ (P)))) : zc_La_lawL C Post c0 s0 248 [(0, .ref b_), (1, .ref (ad C.1 24)), (2, .ref (ad C.1 0)), (3, .ref ou), (4, .int x4)] [.int y0] ([(ou, .inl (C.1.2.2.2.1 1, 1, .inr (.inl of)))] ++ (s_q C.1.2.2.2.1 C.1.2.2.2.2 f_q r_q c_q ++ (s_t C.1.2.2.2.1 C.1.2.2.2.2 f_t g_t ++ (s_r C.1.2.2.2.1 C.1.2.2.2.2 r_r ++ (s_c C.1.2.2.2.1 C.1.2.2.2.2 f_c g_c ++ (s_m C.1.2.2.2.1 C.1.2.2.2.2 f_m g_m ++ (P))))))) := by
  obtain ⟨⟨l, dC, dI, k, a⟩, p, e, s, m, args, below, meth, c, A⟩ := C
  obtain ⟨⟨hx, hb, hr, htz, hown, hlocks, hml, hE, hK, hA⟩, hX, hbl, hbA, hlt⟩ := X
  intro H locs ls hl hP hD hS
  have hl : lv_has ls 7 [(0, .ref b_), (1, .ref (a 24)), (2, .ref (a 0)), (3, .ref ou), (4, .int x4)] := hl
  have hP : va_P (dC, dI) classes ([(ou, .inl (k 1, 1, .inr (.inl of)))] ++ (s_q k a f_q r_q c_q ++ (s_t k a f_t g_t ++ (s_r k a r_r ++ (s_c k a f_c g_c ++ (s_m k a f_m g_m ++ (P))))))) H := hP
  have hD : va_D A ([(ou, .inl (k 1, 1, .inr (.inl of)))] ++ (s_q k a f_q r_q c_q ++ (s_t k a f_t g_t ++ (s_r k a r_r ++ (s_c k a f_c g_c ++ (s_m k a f_m g_m ++ (P))))))) := hD
  show W p l e room_1 s m args below meth c H locs c0 s0 _ (F0 m 248 ls [.int y0])
  refine lv_istore (lv' := [(5, .int y0), (0, .ref b_), (1, .ref (a 24)), (2, .ref (a 0)), (3, .ref ou), (4, .int x4)]) hx hb d_La_law_248 hl (by decide) rfl (fun ls hl => ?_)
  refine lv_aload_n hx hb d_La_law_250 rfl (lv_at hl 3 rfl) ?_
  refine lv_aload_n hx hb d_La_law_251 rfl (lv_at hl 1 rfl) ?_
  refine lv_iload hx hb d_La_law_252 (lv_at hl 5 rfl) ?_
  refine lv_iconst (v := 1) hx hb d_La_law_254 (by decide) ?_
  refine lv_iadd hx hb d_La_law_255 ?_
  refine va_sld hx hb hX hbl hbA hS (i := x4 + 1) h_256 d_La_law_256 ?_
  have hPf : va_P (dC, dI) classes (([(ou, .inl (k 1, 1, .inr (.inl of)))] ++ (s_q k a f_q r_q c_q ++ (s_t k a f_t g_t ++ (s_r k a r_r ++ (s_c k a f_c g_c))))) ++ ((s_m k a f_m g_m) ++ (P))) H := zpP (by (try simp only [List.append_assoc]); exact List.Perm.refl _) hP
  have hDf : va_D A (([(ou, .inl (k 1, 1, .inr (.inl of)))] ++ (s_q k a f_q r_q c_q ++ (s_t k a f_t g_t ++ (s_r k a r_r ++ (s_c k a f_c g_c))))) ++ ((s_m k a f_m g_m) ++ (P))) := zpD (by (try simp only [List.append_assoc]); exact List.Perm.refl _) hD
  have hFc := zfree hDf hS hA
  refine va_calli (va_runV (As := [.int (xs (x4 + 1 : Int32).toNatClampNeg)]) (rest := []) ⟨hx, hb, hml, hown, htz⟩ (m_257 H.size) (cwV 1 htz (z_gV (fun _ h => h) km_La_79 in_Mo_first se_Mo_first ini_Mo m_Mo_first) rfl rfl rfl (by decide +kernel) ⟨(Nat.le_of_ble_eq_true rfl), (Nat.le_of_ble_eq_true rfl)⟩) ⟨z_blind, va_recv hK hP (ci := 4) (q0 := 10) rfl rfl, fun U hU hW => ⟨rfl, by rw [hU], hE.call hS hFc hU hW, by rw [hU]; exact (zPc hPf), va_K.moved hW.alike hK, (zDc hDf)⟩⟩ rfl rfl hl.1 rfl (lv_room (Nat.le_of_ble_eq_true rfl)) d_La_law_257 b_257) hS (fun q _ h => hFc q h) hFc (fun r u t H1 locs ht hvm hw hB hz1 hk1 hS => ?_)
  obtain ⟨hP1, hK1, hD1⟩ := hB
  rw [ht] at hP1
  obtain ⟨hP, hD⟩ := zf hPf hDf hk1 hFc hP1 hD1
  exact k_257 r _ hw H1 locs ls (lv_sub hl [1, 2, 3, 4, 5, 0] rfl) hP hD hS
set_option maxHeartbeats 1000000 in
set_option maxRecDepth 100000 in
theorem k_La_lawL_260 {C : CT} {b_ L_ : Nat} {xs : Nat → Int32} (X : cL C "QuestionTextLaw" b_La_law 7 (some .boolean) b_ L_ xs) (Post : State → Prop) (x4 : Int32) (x5 : Int32) (y0 : Int32) (f_q : FT) (r_q : Nat → Nat → Option Nat) (c_q : Nat) (f_t : FT) (g_t : GT) (r_r : Nat → Nat → Option Nat) (f_c : FT) (g_c : GT) (f_m : FT) (g_m : GT) (P : va_W) (ou : Nat) (of : Nat → Int64) (MM : Nat) (SS : Nat) (c0 s0 : Nat)
    (k_530 : zc_La_lawL C Post c0 s0 530 [(0, .ref b_), (1, .ref (ad C.1 24)), (2, .ref (ad C.1 0)), (3, .ref ou), (4, .int x4)] [] ([(ou, .inl (C.1.2.2.2.1 1, 1, .inr (.inl of)))] ++ (s_q C.1.2.2.2.1 C.1.2.2.2.2 f_q r_q c_q ++ (s_t C.1.2.2.2.1 C.1.2.2.2.2 f_t g_t ++ (s_r C.1.2.2.2.1 C.1.2.2.2.2 r_r ++ (s_c C.1.2.2.2.1 C.1.2.2.2.2 f_c g_c ++ (s_m C.1.2.2.2.1 C.1.2.2.2.2 f_m g_m ++ (P)))))))) : zc_La_lawL C Post c0 s0 260 [(0, .ref b_), (1, .ref (ad C.1 24)), (2, .ref (ad C.1 0)), (3, .ref ou), (4, .int x4), (5, .int x5)] [.int y0] ([(ou, .inl (C.1.2.2.2.1 1, 1, .inr (.inl of)))] ++ (s_q C.1.2.2.2.1 C.1.2.2.2.2 f_q r_q c_q ++ (s_t C.1.2.2.2.1 C.1.2.2.2.2 f_t g_t ++ (s_r C.1.2.2.2.1 C.1.2.2.2.2 r_r ++ (s_c C.1.2.2.2.1 C.1.2.2.2.2 f_c g_c ++ (s_m C.1.2.2.2.1 C.1.2.2.2.2 f_m g_m ++ (P))))))) := by
  obtain ⟨⟨l, dC, dI, k, a⟩, p, e, s, m, args, below, meth, c, A⟩ := C
  obtain ⟨⟨hx, hb, hr, htz, hown, hlocks, hml, hE, hK, hA⟩, hX, hbl, hbA, hlt⟩ := X
  intro H locs ls hl hP hD hS
  have hl : lv_has ls 7 [(0, .ref b_), (1, .ref (a 24)), (2, .ref (a 0)), (3, .ref ou), (4, .int x4), (5, .int x5)] := hl
  have hP : va_P (dC, dI) classes ([(ou, .inl (k 1, 1, .inr (.inl of)))] ++ (s_q k a f_q r_q c_q ++ (s_t k a f_t g_t ++ (s_r k a r_r ++ (s_c k a f_c g_c ++ (s_m k a f_m g_m ++ (P))))))) H := hP
  have hD : va_D A ([(ou, .inl (k 1, 1, .inr (.inl of)))] ++ (s_q k a f_q r_q c_q ++ (s_t k a f_t g_t ++ (s_r k a r_r ++ (s_c k a f_c g_c ++ (s_m k a f_m g_m ++ (P))))))) := hD
  show W p l e room_1 s m args below meth c H locs c0 s0 _ (F0 m 260 ls [.int y0])
  refine lv_istore (lv' := [(6, .int y0), (0, .ref b_), (1, .ref (a 24)), (2, .ref (a 0)), (3, .ref ou), (4, .int x4), (5, .int x5)]) hx hb d_La_law_260 hl (by decide) rfl (fun ls hl => ?_)
  refine lv_goto (tgt := 530) hx hb d_La_law_262 (by decide) ?_
  exact k_530 H locs ls (lv_sub hl [1, 2, 3, 4, 5] rfl) hP hD hS
set_option maxHeartbeats 1000000 in
set_option maxRecDepth 100000 in
theorem k_La_lawL_276 {C : CT} {b_ L_ : Nat} {xs : Nat → Int32} (X : cL C "QuestionTextLaw" b_La_law 7 (some .boolean) b_ L_ xs) (Post : State → Prop) {P_285 : Int32 → va_W → Prop} (x4 : Int32) (y0 : Int32) (f_q : FT) (r_q : Nat → Nat → Option Nat) (c_q : Nat) (f_t : FT) (g_t : GT) (r_r : Nat → Nat → Option Nat) (f_c : FT) (g_c : GT) (f_m : FT) (g_m : GT) (P : va_W) (ou : Nat) (of : Nat → Int64) (MM : Nat) (SS : Nat) (c0 s0 : Nat)
    (h_284 : vp_in (x4 + 1) L_)
    (b_285 : c0 ≤ 601024 ∧ s0 ≤ 7293034)
    (m_285 : uI C.1 y_Mo_answer (Cond.code y_Mo_answer b_Mo_answer 5 (some .int)) 2 0 0 [.ref (ad C.1 0), .int (xs (x4 + 1 : Int32).toNatClampNeg)] (s_m C.1.2.2.2.1 C.1.2.2.2.2 f_m g_m) P_285)
    (k_285 : ∀ (r : Int32) (u : va_W), P_285 r u → zc_La_lawL C Post c0 s0 288 [(0, .ref b_), (1, .ref (ad C.1 24)), (2, .ref (ad C.1 0)), (3, .ref ou), (4, .int x4), (5, .int y0)] [.int r] ([(ou, .inl (C.1.2.2.2.1 1, 1, .inr (.inl of)))] ++ (s_q C.1.2.2.2.1 C.1.2.2.2.2 f_q r_q c_q ++ (s_t C.1.2.2.2.1 C.1.2.2.2.2 f_t g_t ++ (s_r C.1.2.2.2.1 C.1.2.2.2.2 r_r ++ (s_c C.1.2.2.2.1 C.1.2.2.2.2 f_c g_c)))) ++ (u ++ (P)))) : zc_La_lawL C Post c0 s0 276 [(0, .ref b_), (1, .ref (ad C.1 24)), (2, .ref (ad C.1 0)), (3, .ref ou), (4, .int x4)] [.int y0] ([(ou, .inl (C.1.2.2.2.1 1, 1, .inr (.inl of)))] ++ (s_q C.1.2.2.2.1 C.1.2.2.2.2 f_q r_q c_q ++ (s_t C.1.2.2.2.1 C.1.2.2.2.2 f_t g_t ++ (s_r C.1.2.2.2.1 C.1.2.2.2.2 r_r ++ (s_c C.1.2.2.2.1 C.1.2.2.2.2 f_c g_c ++ (s_m C.1.2.2.2.1 C.1.2.2.2.2 f_m g_m ++ (P))))))) := by
  obtain ⟨⟨l, dC, dI, k, a⟩, p, e, s, m, args, below, meth, c, A⟩ := C
  obtain ⟨⟨hx, hb, hr, htz, hown, hlocks, hml, hE, hK, hA⟩, hX, hbl, hbA, hlt⟩ := X
  intro H locs ls hl hP hD hS
  have hl : lv_has ls 7 [(0, .ref b_), (1, .ref (a 24)), (2, .ref (a 0)), (3, .ref ou), (4, .int x4)] := hl
  have hP : va_P (dC, dI) classes ([(ou, .inl (k 1, 1, .inr (.inl of)))] ++ (s_q k a f_q r_q c_q ++ (s_t k a f_t g_t ++ (s_r k a r_r ++ (s_c k a f_c g_c ++ (s_m k a f_m g_m ++ (P))))))) H := hP
  have hD : va_D A ([(ou, .inl (k 1, 1, .inr (.inl of)))] ++ (s_q k a f_q r_q c_q ++ (s_t k a f_t g_t ++ (s_r k a r_r ++ (s_c k a f_c g_c ++ (s_m k a f_m g_m ++ (P))))))) := hD
  show W p l e room_1 s m args below meth c H locs c0 s0 _ (F0 m 276 ls [.int y0])
  refine lv_istore (lv' := [(5, .int y0), (0, .ref b_), (1, .ref (a 24)), (2, .ref (a 0)), (3, .ref ou), (4, .int x4)]) hx hb d_La_law_276 hl (by decide) rfl (fun ls hl => ?_)
  refine lv_aload_n hx hb d_La_law_278 rfl (lv_at hl 3 rfl) ?_
  refine lv_aload_n hx hb d_La_law_279 rfl (lv_at hl 1 rfl) ?_
  refine lv_iload hx hb d_La_law_280 (lv_at hl 5 rfl) ?_
  refine lv_iconst (v := 1) hx hb d_La_law_282 (by decide) ?_
  refine lv_iadd hx hb d_La_law_283 ?_
  refine va_sld hx hb hX hbl hbA hS (i := x4 + 1) h_284 d_La_law_284 ?_
  have hPf : va_P (dC, dI) classes (([(ou, .inl (k 1, 1, .inr (.inl of)))] ++ (s_q k a f_q r_q c_q ++ (s_t k a f_t g_t ++ (s_r k a r_r ++ (s_c k a f_c g_c))))) ++ ((s_m k a f_m g_m) ++ (P))) H := zpP (by (try simp only [List.append_assoc]); exact List.Perm.refl _) hP
  have hDf : va_D A (([(ou, .inl (k 1, 1, .inr (.inl of)))] ++ (s_q k a f_q r_q c_q ++ (s_t k a f_t g_t ++ (s_r k a r_r ++ (s_c k a f_c g_c))))) ++ ((s_m k a f_m g_m) ++ (P))) := zpD (by (try simp only [List.append_assoc]); exact List.Perm.refl _) hD
  have hFc := zfree hDf hS hA
  refine va_calli (va_runV (As := [.int (xs (x4 + 1 : Int32).toNatClampNeg)]) (rest := []) ⟨hx, hb, hml, hown, htz⟩ (m_285 H.size) (cwV 1 htz (z_gV (fun _ h => h) km_La_82 in_Mo_answer se_Mo_answer ini_Mo m_Mo_answer) rfl rfl rfl (by decide +kernel) ⟨(Nat.le_of_ble_eq_true rfl), (Nat.le_of_ble_eq_true rfl)⟩) ⟨z_blind, va_recv hK hP (ci := 4) (q0 := 10) rfl rfl, fun U hU hW => ⟨rfl, by rw [hU], hE.call hS hFc hU hW, by rw [hU]; exact (zPc hPf), va_K.moved hW.alike hK, (zDc hDf)⟩⟩ rfl rfl hl.1 rfl (lv_room (Nat.le_of_ble_eq_true rfl)) d_La_law_285 b_285) hS (fun q _ h => hFc q h) hFc (fun r u t H1 locs ht hvm hw hB hz1 hk1 hS => ?_)
  obtain ⟨hP1, hK1, hD1⟩ := hB
  rw [ht] at hP1
  obtain ⟨hP, hD⟩ := zf hPf hDf hk1 hFc hP1 hD1
  exact k_285 r _ hw H1 locs ls (lv_sub hl [1, 2, 3, 4, 5, 0] rfl) hP hD hS
set_option maxHeartbeats 1000000 in
set_option maxRecDepth 100000 in
theorem k_La_lawL_288 {C : CT} {b_ L_ : Nat} {xs : Nat → Int32} (X : cL C "QuestionTextLaw" b_La_law 7 (some .boolean) b_ L_ xs) (Post : State → Prop) (x4 : Int32) (x5 : Int32) (y0 : Int32) (f_q : FT) (r_q : Nat → Nat → Option Nat) (c_q : Nat) (f_t : FT) (g_t : GT) (r_r : Nat → Nat → Option Nat) (f_c : FT) (g_c : GT) (f_m : FT) (g_m : GT) (P : va_W) (ou : Nat) (of : Nat → Int64) (MM : Nat) (SS : Nat) (c0 s0 : Nat)
    (k_530 : zc_La_lawL C Post c0 s0 530 [(0, .ref b_), (1, .ref (ad C.1 24)), (2, .ref (ad C.1 0)), (3, .ref ou), (4, .int x4)] [] ([(ou, .inl (C.1.2.2.2.1 1, 1, .inr (.inl of)))] ++ (s_q C.1.2.2.2.1 C.1.2.2.2.2 f_q r_q c_q ++ (s_t C.1.2.2.2.1 C.1.2.2.2.2 f_t g_t ++ (s_r C.1.2.2.2.1 C.1.2.2.2.2 r_r ++ (s_c C.1.2.2.2.1 C.1.2.2.2.2 f_c g_c ++ (s_m C.1.2.2.2.1 C.1.2.2.2.2 f_m g_m ++ (P)))))))) : zc_La_lawL C Post c0 s0 288 [(0, .ref b_), (1, .ref (ad C.1 24)), (2, .ref (ad C.1 0)), (3, .ref ou), (4, .int x4), (5, .int x5)] [.int y0] ([(ou, .inl (C.1.2.2.2.1 1, 1, .inr (.inl of)))] ++ (s_q C.1.2.2.2.1 C.1.2.2.2.2 f_q r_q c_q ++ (s_t C.1.2.2.2.1 C.1.2.2.2.2 f_t g_t ++ (s_r C.1.2.2.2.1 C.1.2.2.2.2 r_r ++ (s_c C.1.2.2.2.1 C.1.2.2.2.2 f_c g_c ++ (s_m C.1.2.2.2.1 C.1.2.2.2.2 f_m g_m ++ (P))))))) := by
  obtain ⟨⟨l, dC, dI, k, a⟩, p, e, s, m, args, below, meth, c, A⟩ := C
  obtain ⟨⟨hx, hb, hr, htz, hown, hlocks, hml, hE, hK, hA⟩, hX, hbl, hbA, hlt⟩ := X
  intro H locs ls hl hP hD hS
  have hl : lv_has ls 7 [(0, .ref b_), (1, .ref (a 24)), (2, .ref (a 0)), (3, .ref ou), (4, .int x4), (5, .int x5)] := hl
  have hP : va_P (dC, dI) classes ([(ou, .inl (k 1, 1, .inr (.inl of)))] ++ (s_q k a f_q r_q c_q ++ (s_t k a f_t g_t ++ (s_r k a r_r ++ (s_c k a f_c g_c ++ (s_m k a f_m g_m ++ (P))))))) H := hP
  have hD : va_D A ([(ou, .inl (k 1, 1, .inr (.inl of)))] ++ (s_q k a f_q r_q c_q ++ (s_t k a f_t g_t ++ (s_r k a r_r ++ (s_c k a f_c g_c ++ (s_m k a f_m g_m ++ (P))))))) := hD
  show W p l e room_1 s m args below meth c H locs c0 s0 _ (F0 m 288 ls [.int y0])
  refine lv_istore (lv' := [(6, .int y0), (0, .ref b_), (1, .ref (a 24)), (2, .ref (a 0)), (3, .ref ou), (4, .int x4), (5, .int x5)]) hx hb d_La_law_288 hl (by decide) rfl (fun ls hl => ?_)
  refine lv_goto (tgt := 530) hx hb d_La_law_290 (by decide) ?_
  exact k_530 H locs ls (lv_sub hl [1, 2, 3, 4, 5] rfl) hP hD hS
set_option maxHeartbeats 1000000 in
set_option maxRecDepth 100000 in
theorem k_La_lawL_297 {C : CT} {b_ L_ : Nat} {xs : Nat → Int32} (X : cL C "QuestionTextLaw" b_La_law 7 (some .boolean) b_ L_ xs) (Post : State → Prop) {P_299 : Int32 → va_W → Prop} (x4 : Int32) (y0 : Int32) (f_q : FT) (r_q : Nat → Nat → Option Nat) (c_q : Nat) (f_t : FT) (g_t : GT) (r_r : Nat → Nat → Option Nat) (f_c : FT) (g_c : GT) (f_m : FT) (g_m : GT) (P : va_W) (ou : Nat) (of : Nat → Int64) (MM : Nat) (SS : Nat) (c0 s0 : Nat)
    (b_299 : c0 ≤ 601024 ∧ s0 ≤ 7293034)
    (m_299 : uI C.1 y_Mo_kind (Cond.code y_Mo_kind b_Mo_kind 1 (some .int)) 0 0 0 [.ref (ad C.1 0)] (s_m C.1.2.2.2.1 C.1.2.2.2.2 f_m g_m) P_299)
    (k_299 : ∀ (r : Int32) (u : va_W), P_299 r u → zc_La_lawL C Post c0 s0 302 [(0, .ref b_), (1, .ref (ad C.1 24)), (2, .ref (ad C.1 0)), (3, .ref ou), (4, .int x4)] [.int r] ([(ou, .inl (C.1.2.2.2.1 1, 1, .inr (.inl of)))] ++ (s_q C.1.2.2.2.1 C.1.2.2.2.2 f_q r_q c_q ++ (s_t C.1.2.2.2.1 C.1.2.2.2.2 f_t g_t ++ (s_r C.1.2.2.2.1 C.1.2.2.2.2 r_r ++ (s_c C.1.2.2.2.1 C.1.2.2.2.2 f_c g_c)))) ++ (u ++ (P)))) : zc_La_lawL C Post c0 s0 297 [(0, .ref b_), (1, .ref (ad C.1 24)), (2, .ref (ad C.1 0)), (3, .ref ou), (4, .int x4)] [.int y0] ([(ou, .inl (C.1.2.2.2.1 1, 1, .inr (.inl of)))] ++ (s_q C.1.2.2.2.1 C.1.2.2.2.2 f_q r_q c_q ++ (s_t C.1.2.2.2.1 C.1.2.2.2.2 f_t g_t ++ (s_r C.1.2.2.2.1 C.1.2.2.2.2 r_r ++ (s_c C.1.2.2.2.1 C.1.2.2.2.2 f_c g_c ++ (s_m C.1.2.2.2.1 C.1.2.2.2.2 f_m g_m ++ (P))))))) := by
  obtain ⟨⟨l, dC, dI, k, a⟩, p, e, s, m, args, below, meth, c, A⟩ := C
  obtain ⟨⟨hx, hb, hr, htz, hown, hlocks, hml, hE, hK, hA⟩, hX, hbl, hbA, hlt⟩ := X
  intro H locs ls hl hP hD hS
  have hl : lv_has ls 7 [(0, .ref b_), (1, .ref (a 24)), (2, .ref (a 0)), (3, .ref ou), (4, .int x4)] := hl
  have hP : va_P (dC, dI) classes ([(ou, .inl (k 1, 1, .inr (.inl of)))] ++ (s_q k a f_q r_q c_q ++ (s_t k a f_t g_t ++ (s_r k a r_r ++ (s_c k a f_c g_c ++ (s_m k a f_m g_m ++ (P))))))) H := hP
  have hD : va_D A ([(ou, .inl (k 1, 1, .inr (.inl of)))] ++ (s_q k a f_q r_q c_q ++ (s_t k a f_t g_t ++ (s_r k a r_r ++ (s_c k a f_c g_c ++ (s_m k a f_m g_m ++ (P))))))) := hD
  show W p l e room_1 s m args below meth c H locs c0 s0 _ (F0 m 297 ls [.int y0])
  refine lv_pop hx hb d_La_law_297 rfl ?_
  refine lv_aload_n hx hb d_La_law_298 rfl (lv_at hl 2 rfl) ?_
  have hPf : va_P (dC, dI) classes (([(ou, .inl (k 1, 1, .inr (.inl of)))] ++ (s_q k a f_q r_q c_q ++ (s_t k a f_t g_t ++ (s_r k a r_r ++ (s_c k a f_c g_c))))) ++ ((s_m k a f_m g_m) ++ (P))) H := zpP (by (try simp only [List.append_assoc]); exact List.Perm.refl _) hP
  have hDf : va_D A (([(ou, .inl (k 1, 1, .inr (.inl of)))] ++ (s_q k a f_q r_q c_q ++ (s_t k a f_t g_t ++ (s_r k a r_r ++ (s_c k a f_c g_c))))) ++ ((s_m k a f_m g_m) ++ (P))) := zpD (by (try simp only [List.append_assoc]); exact List.Perm.refl _) hD
  have hFc := zfree hDf hS hA
  refine va_calli (va_runV (As := []) (rest := []) ⟨hx, hb, hml, hown, htz⟩ (m_299 H.size) (cwV 0 htz (z_gV (fun _ h => h) km_La_86 in_Mo_kind se_Mo_kind ini_Mo m_Mo_kind) rfl rfl rfl (by decide +kernel) ⟨(Nat.le_of_ble_eq_true rfl), (Nat.le_of_ble_eq_true rfl)⟩) ⟨z_blind, va_recv hK hP (ci := 4) (q0 := 10) rfl rfl, fun U hU hW => ⟨rfl, by rw [hU], hE.call hS hFc hU hW, by rw [hU]; exact (zPc hPf), va_K.moved hW.alike hK, (zDc hDf)⟩⟩ rfl rfl hl.1 rfl (lv_room (Nat.le_of_ble_eq_true rfl)) d_La_law_299 b_299) hS (fun q _ h => hFc q h) hFc (fun r u t H1 locs ht hvm hw hB hz1 hk1 hS => ?_)
  obtain ⟨hP1, hK1, hD1⟩ := hB
  rw [ht] at hP1
  obtain ⟨hP, hD⟩ := zf hPf hDf hk1 hFc hP1 hD1
  exact k_299 r _ hw H1 locs ls (lv_sub hl [0, 1, 2, 3, 4] rfl) hP hD hS
set_option maxHeartbeats 1000000 in
set_option maxRecDepth 100000 in
theorem k_La_lawL_302 {C : CT} {b_ L_ : Nat} {xs : Nat → Int32} (X : cL C "QuestionTextLaw" b_La_law 7 (some .boolean) b_ L_ xs) (Post : State → Prop) (x4 : Int32) (y0 : Int32) (f_q : FT) (r_q : Nat → Nat → Option Nat) (c_q : Nat) (f_t : FT) (g_t : GT) (r_r : Nat → Nat → Option Nat) (f_c : FT) (g_c : GT) (f_m : FT) (g_m : GT) (P : va_W) (ou : Nat) (of : Nat → Int64) (MM : Nat) (SS : Nat) (c0 s0 : Nat)
    (k_530 : zc_La_lawL C Post c0 s0 530 [(0, .ref b_), (1, .ref (ad C.1 24)), (2, .ref (ad C.1 0)), (3, .ref ou), (4, .int x4)] [] ([(ou, .inl (C.1.2.2.2.1 1, 1, .inr (.inl of)))] ++ (s_q C.1.2.2.2.1 C.1.2.2.2.2 f_q r_q c_q ++ (s_t C.1.2.2.2.1 C.1.2.2.2.2 f_t g_t ++ (s_r C.1.2.2.2.1 C.1.2.2.2.2 r_r ++ (s_c C.1.2.2.2.1 C.1.2.2.2.2 f_c g_c ++ (s_m C.1.2.2.2.1 C.1.2.2.2.2 f_m g_m ++ (P)))))))) : zc_La_lawL C Post c0 s0 302 [(0, .ref b_), (1, .ref (ad C.1 24)), (2, .ref (ad C.1 0)), (3, .ref ou), (4, .int x4)] [.int y0] ([(ou, .inl (C.1.2.2.2.1 1, 1, .inr (.inl of)))] ++ (s_q C.1.2.2.2.1 C.1.2.2.2.2 f_q r_q c_q ++ (s_t C.1.2.2.2.1 C.1.2.2.2.2 f_t g_t ++ (s_r C.1.2.2.2.1 C.1.2.2.2.2 r_r ++ (s_c C.1.2.2.2.1 C.1.2.2.2.2 f_c g_c ++ (s_m C.1.2.2.2.1 C.1.2.2.2.2 f_m g_m ++ (P))))))) := by
  obtain ⟨⟨l, dC, dI, k, a⟩, p, e, s, m, args, below, meth, c, A⟩ := C
  obtain ⟨⟨hx, hb, hr, htz, hown, hlocks, hml, hE, hK, hA⟩, hX, hbl, hbA, hlt⟩ := X
  intro H locs ls hl hP hD hS
  have hl : lv_has ls 7 [(0, .ref b_), (1, .ref (a 24)), (2, .ref (a 0)), (3, .ref ou), (4, .int x4)] := hl
  have hP : va_P (dC, dI) classes ([(ou, .inl (k 1, 1, .inr (.inl of)))] ++ (s_q k a f_q r_q c_q ++ (s_t k a f_t g_t ++ (s_r k a r_r ++ (s_c k a f_c g_c ++ (s_m k a f_m g_m ++ (P))))))) H := hP
  have hD : va_D A ([(ou, .inl (k 1, 1, .inr (.inl of)))] ++ (s_q k a f_q r_q c_q ++ (s_t k a f_t g_t ++ (s_r k a r_r ++ (s_c k a f_c g_c ++ (s_m k a f_m g_m ++ (P))))))) := hD
  show W p l e room_1 s m args below meth c H locs c0 s0 _ (F0 m 302 ls [.int y0])
  refine lv_pop hx hb d_La_law_302 rfl ?_
  refine lv_goto (tgt := 530) hx hb d_La_law_303 (by decide) ?_
  exact k_530 H locs ls (lv_sub hl [0, 1, 2, 3, 4] rfl) hP hD hS
set_option maxHeartbeats 1000000 in
set_option maxRecDepth 100000 in
theorem k_La_lawL_311 {C : CT} {b_ L_ : Nat} {xs : Nat → Int32} (X : cL C "QuestionTextLaw" b_La_law 7 (some .boolean) b_ L_ xs) (Post : State → Prop) {P_314 : Int32 → va_W → Prop} (x4 : Int32) (y0 : Int32) (f_q : FT) (r_q : Nat → Nat → Option Nat) (c_q : Nat) (f_t : FT) (g_t : GT) (r_r : Nat → Nat → Option Nat) (f_c : FT) (g_c : GT) (f_m : FT) (g_m : GT) (P : va_W) (ou : Nat) (of : Nat → Int64) (MM : Nat) (SS : Nat) (c0 s0 : Nat)
    (b_314 : c0 ≤ 601024 ∧ s0 ≤ 7293034)
    (m_314 : uI C.1 y_Mo_priority (Cond.code y_Mo_priority b_Mo_priority 6 (some .int)) 1 0 0 [.ref (ad C.1 0)] (s_m C.1.2.2.2.1 C.1.2.2.2.2 f_m g_m) P_314)
    (k_314 : ∀ (r : Int32) (u : va_W), P_314 r u → zc_La_lawL C Post c0 s0 317 [(0, .ref b_), (1, .ref (ad C.1 24)), (2, .ref (ad C.1 0)), (3, .ref ou), (4, .int x4), (5, .int y0)] [.int r] ([(ou, .inl (C.1.2.2.2.1 1, 1, .inr (.inl of)))] ++ (s_q C.1.2.2.2.1 C.1.2.2.2.2 f_q r_q c_q ++ (s_t C.1.2.2.2.1 C.1.2.2.2.2 f_t g_t ++ (s_r C.1.2.2.2.1 C.1.2.2.2.2 r_r ++ (s_c C.1.2.2.2.1 C.1.2.2.2.2 f_c g_c)))) ++ (u ++ (P)))) : zc_La_lawL C Post c0 s0 311 [(0, .ref b_), (1, .ref (ad C.1 24)), (2, .ref (ad C.1 0)), (3, .ref ou), (4, .int x4)] [.int y0] ([(ou, .inl (C.1.2.2.2.1 1, 1, .inr (.inl of)))] ++ (s_q C.1.2.2.2.1 C.1.2.2.2.2 f_q r_q c_q ++ (s_t C.1.2.2.2.1 C.1.2.2.2.2 f_t g_t ++ (s_r C.1.2.2.2.1 C.1.2.2.2.2 r_r ++ (s_c C.1.2.2.2.1 C.1.2.2.2.2 f_c g_c ++ (s_m C.1.2.2.2.1 C.1.2.2.2.2 f_m g_m ++ (P))))))) := by
  obtain ⟨⟨l, dC, dI, k, a⟩, p, e, s, m, args, below, meth, c, A⟩ := C
  obtain ⟨⟨hx, hb, hr, htz, hown, hlocks, hml, hE, hK, hA⟩, hX, hbl, hbA, hlt⟩ := X
  intro H locs ls hl hP hD hS
  have hl : lv_has ls 7 [(0, .ref b_), (1, .ref (a 24)), (2, .ref (a 0)), (3, .ref ou), (4, .int x4)] := hl
  have hP : va_P (dC, dI) classes ([(ou, .inl (k 1, 1, .inr (.inl of)))] ++ (s_q k a f_q r_q c_q ++ (s_t k a f_t g_t ++ (s_r k a r_r ++ (s_c k a f_c g_c ++ (s_m k a f_m g_m ++ (P))))))) H := hP
  have hD : va_D A ([(ou, .inl (k 1, 1, .inr (.inl of)))] ++ (s_q k a f_q r_q c_q ++ (s_t k a f_t g_t ++ (s_r k a r_r ++ (s_c k a f_c g_c ++ (s_m k a f_m g_m ++ (P))))))) := hD
  show W p l e room_1 s m args below meth c H locs c0 s0 _ (F0 m 311 ls [.int y0])
  refine lv_istore (lv' := [(5, .int y0), (0, .ref b_), (1, .ref (a 24)), (2, .ref (a 0)), (3, .ref ou), (4, .int x4)]) hx hb d_La_law_311 hl (by decide) rfl (fun ls hl => ?_)
  refine lv_aload_n hx hb d_La_law_313 rfl (lv_at hl 3 rfl) ?_
  have hPf : va_P (dC, dI) classes (([(ou, .inl (k 1, 1, .inr (.inl of)))] ++ (s_q k a f_q r_q c_q ++ (s_t k a f_t g_t ++ (s_r k a r_r ++ (s_c k a f_c g_c))))) ++ ((s_m k a f_m g_m) ++ (P))) H := zpP (by (try simp only [List.append_assoc]); exact List.Perm.refl _) hP
  have hDf : va_D A (([(ou, .inl (k 1, 1, .inr (.inl of)))] ++ (s_q k a f_q r_q c_q ++ (s_t k a f_t g_t ++ (s_r k a r_r ++ (s_c k a f_c g_c))))) ++ ((s_m k a f_m g_m) ++ (P))) := zpD (by (try simp only [List.append_assoc]); exact List.Perm.refl _) hD
  have hFc := zfree hDf hS hA
  refine va_calli (va_runV (As := []) (rest := []) ⟨hx, hb, hml, hown, htz⟩ (m_314 H.size) (cwV 0 htz (z_gV (fun _ h => h) km_La_89 in_Mo_priority se_Mo_priority ini_Mo m_Mo_priority) rfl rfl rfl (by decide +kernel) ⟨(Nat.le_of_ble_eq_true rfl), (Nat.le_of_ble_eq_true rfl)⟩) ⟨z_blind, va_recv hK hP (ci := 4) (q0 := 10) rfl rfl, fun U hU hW => ⟨rfl, by rw [hU], hE.call hS hFc hU hW, by rw [hU]; exact (zPc hPf), va_K.moved hW.alike hK, (zDc hDf)⟩⟩ rfl rfl hl.1 rfl (lv_room (Nat.le_of_ble_eq_true rfl)) d_La_law_314 b_314) hS (fun q _ h => hFc q h) hFc (fun r u t H1 locs ht hvm hw hB hz1 hk1 hS => ?_)
  obtain ⟨hP1, hK1, hD1⟩ := hB
  rw [ht] at hP1
  obtain ⟨hP, hD⟩ := zf hPf hDf hk1 hFc hP1 hD1
  exact k_314 r _ hw H1 locs ls (lv_sub hl [1, 2, 3, 4, 5, 0] rfl) hP hD hS
set_option maxHeartbeats 1000000 in
set_option maxRecDepth 100000 in
theorem k_La_lawL_317 {C : CT} {b_ L_ : Nat} {xs : Nat → Int32} (X : cL C "QuestionTextLaw" b_La_law 7 (some .boolean) b_ L_ xs) (Post : State → Prop) (x4 : Int32) (x5 : Int32) (y0 : Int32) (f_q : FT) (r_q : Nat → Nat → Option Nat) (c_q : Nat) (f_t : FT) (g_t : GT) (r_r : Nat → Nat → Option Nat) (f_c : FT) (g_c : GT) (f_m : FT) (g_m : GT) (P : va_W) (ou : Nat) (of : Nat → Int64) (MM : Nat) (SS : Nat) (c0 s0 : Nat)
    (k_530 : zc_La_lawL C Post c0 s0 530 [(0, .ref b_), (1, .ref (ad C.1 24)), (2, .ref (ad C.1 0)), (3, .ref ou), (4, .int x4)] [] ([(ou, .inl (C.1.2.2.2.1 1, 1, .inr (.inl of)))] ++ (s_q C.1.2.2.2.1 C.1.2.2.2.2 f_q r_q c_q ++ (s_t C.1.2.2.2.1 C.1.2.2.2.2 f_t g_t ++ (s_r C.1.2.2.2.1 C.1.2.2.2.2 r_r ++ (s_c C.1.2.2.2.1 C.1.2.2.2.2 f_c g_c ++ (s_m C.1.2.2.2.1 C.1.2.2.2.2 f_m g_m ++ (P)))))))) : zc_La_lawL C Post c0 s0 317 [(0, .ref b_), (1, .ref (ad C.1 24)), (2, .ref (ad C.1 0)), (3, .ref ou), (4, .int x4), (5, .int x5)] [.int y0] ([(ou, .inl (C.1.2.2.2.1 1, 1, .inr (.inl of)))] ++ (s_q C.1.2.2.2.1 C.1.2.2.2.2 f_q r_q c_q ++ (s_t C.1.2.2.2.1 C.1.2.2.2.2 f_t g_t ++ (s_r C.1.2.2.2.1 C.1.2.2.2.2 r_r ++ (s_c C.1.2.2.2.1 C.1.2.2.2.2 f_c g_c ++ (s_m C.1.2.2.2.1 C.1.2.2.2.2 f_m g_m ++ (P))))))) := by
  obtain ⟨⟨l, dC, dI, k, a⟩, p, e, s, m, args, below, meth, c, A⟩ := C
  obtain ⟨⟨hx, hb, hr, htz, hown, hlocks, hml, hE, hK, hA⟩, hX, hbl, hbA, hlt⟩ := X
  intro H locs ls hl hP hD hS
  have hl : lv_has ls 7 [(0, .ref b_), (1, .ref (a 24)), (2, .ref (a 0)), (3, .ref ou), (4, .int x4), (5, .int x5)] := hl
  have hP : va_P (dC, dI) classes ([(ou, .inl (k 1, 1, .inr (.inl of)))] ++ (s_q k a f_q r_q c_q ++ (s_t k a f_t g_t ++ (s_r k a r_r ++ (s_c k a f_c g_c ++ (s_m k a f_m g_m ++ (P))))))) H := hP
  have hD : va_D A ([(ou, .inl (k 1, 1, .inr (.inl of)))] ++ (s_q k a f_q r_q c_q ++ (s_t k a f_t g_t ++ (s_r k a r_r ++ (s_c k a f_c g_c ++ (s_m k a f_m g_m ++ (P))))))) := hD
  show W p l e room_1 s m args below meth c H locs c0 s0 _ (F0 m 317 ls [.int y0])
  refine lv_istore (lv' := [(6, .int y0), (0, .ref b_), (1, .ref (a 24)), (2, .ref (a 0)), (3, .ref ou), (4, .int x4), (5, .int x5)]) hx hb d_La_law_317 hl (by decide) rfl (fun ls hl => ?_)
  refine lv_goto (tgt := 530) hx hb d_La_law_319 (by decide) ?_
  exact k_530 H locs ls (lv_sub hl [1, 2, 3, 4, 5] rfl) hP hD hS
set_option maxHeartbeats 1000000 in
set_option maxRecDepth 100000 in
theorem k_La_lawL_327 {C : CT} {b_ L_ : Nat} {xs : Nat → Int32} (X : cL C "QuestionTextLaw" b_La_law 7 (some .boolean) b_ L_ xs) (Post : State → Prop) {P_330 : Int32 → va_W → Prop} (x4 : Int32) (y0 : Int32) (f_q : FT) (r_q : Nat → Nat → Option Nat) (c_q : Nat) (f_t : FT) (g_t : GT) (r_r : Nat → Nat → Option Nat) (f_c : FT) (g_c : GT) (f_m : FT) (g_m : GT) (P : va_W) (ou : Nat) (of : Nat → Int64) (MM : Nat) (SS : Nat) (c0 s0 : Nat)
    (b_330 : c0 ≤ 601024 ∧ s0 ≤ 7293034)
    (m_330 : uI C.1 y_Mo_points (Cond.code y_Mo_points b_Mo_points 1 (some .int)) 0 0 0 [.ref (ad C.1 0)] (s_m C.1.2.2.2.1 C.1.2.2.2.2 f_m g_m) P_330)
    (k_330 : ∀ (r : Int32) (u : va_W), P_330 r u → zc_La_lawL C Post c0 s0 333 [(0, .ref b_), (1, .ref (ad C.1 24)), (2, .ref (ad C.1 0)), (3, .ref ou), (4, .int x4), (5, .int y0)] [.int r] ([(ou, .inl (C.1.2.2.2.1 1, 1, .inr (.inl of)))] ++ (s_q C.1.2.2.2.1 C.1.2.2.2.2 f_q r_q c_q ++ (s_t C.1.2.2.2.1 C.1.2.2.2.2 f_t g_t ++ (s_r C.1.2.2.2.1 C.1.2.2.2.2 r_r ++ (s_c C.1.2.2.2.1 C.1.2.2.2.2 f_c g_c)))) ++ (u ++ (P)))) : zc_La_lawL C Post c0 s0 327 [(0, .ref b_), (1, .ref (ad C.1 24)), (2, .ref (ad C.1 0)), (3, .ref ou), (4, .int x4)] [.int y0] ([(ou, .inl (C.1.2.2.2.1 1, 1, .inr (.inl of)))] ++ (s_q C.1.2.2.2.1 C.1.2.2.2.2 f_q r_q c_q ++ (s_t C.1.2.2.2.1 C.1.2.2.2.2 f_t g_t ++ (s_r C.1.2.2.2.1 C.1.2.2.2.2 r_r ++ (s_c C.1.2.2.2.1 C.1.2.2.2.2 f_c g_c ++ (s_m C.1.2.2.2.1 C.1.2.2.2.2 f_m g_m ++ (P))))))) := by
  obtain ⟨⟨l, dC, dI, k, a⟩, p, e, s, m, args, below, meth, c, A⟩ := C
  obtain ⟨⟨hx, hb, hr, htz, hown, hlocks, hml, hE, hK, hA⟩, hX, hbl, hbA, hlt⟩ := X
  intro H locs ls hl hP hD hS
  have hl : lv_has ls 7 [(0, .ref b_), (1, .ref (a 24)), (2, .ref (a 0)), (3, .ref ou), (4, .int x4)] := hl
  have hP : va_P (dC, dI) classes ([(ou, .inl (k 1, 1, .inr (.inl of)))] ++ (s_q k a f_q r_q c_q ++ (s_t k a f_t g_t ++ (s_r k a r_r ++ (s_c k a f_c g_c ++ (s_m k a f_m g_m ++ (P))))))) H := hP
  have hD : va_D A ([(ou, .inl (k 1, 1, .inr (.inl of)))] ++ (s_q k a f_q r_q c_q ++ (s_t k a f_t g_t ++ (s_r k a r_r ++ (s_c k a f_c g_c ++ (s_m k a f_m g_m ++ (P))))))) := hD
  show W p l e room_1 s m args below meth c H locs c0 s0 _ (F0 m 327 ls [.int y0])
  refine lv_istore (lv' := [(5, .int y0), (0, .ref b_), (1, .ref (a 24)), (2, .ref (a 0)), (3, .ref ou), (4, .int x4)]) hx hb d_La_law_327 hl (by decide) rfl (fun ls hl => ?_)
  refine lv_aload_n hx hb d_La_law_329 rfl (lv_at hl 3 rfl) ?_
  have hPf : va_P (dC, dI) classes (([(ou, .inl (k 1, 1, .inr (.inl of)))] ++ (s_q k a f_q r_q c_q ++ (s_t k a f_t g_t ++ (s_r k a r_r ++ (s_c k a f_c g_c))))) ++ ((s_m k a f_m g_m) ++ (P))) H := zpP (by (try simp only [List.append_assoc]); exact List.Perm.refl _) hP
  have hDf : va_D A (([(ou, .inl (k 1, 1, .inr (.inl of)))] ++ (s_q k a f_q r_q c_q ++ (s_t k a f_t g_t ++ (s_r k a r_r ++ (s_c k a f_c g_c))))) ++ ((s_m k a f_m g_m) ++ (P))) := zpD (by (try simp only [List.append_assoc]); exact List.Perm.refl _) hD
  have hFc := zfree hDf hS hA
  refine va_calli (va_runV (As := []) (rest := []) ⟨hx, hb, hml, hown, htz⟩ (m_330 H.size) (cwV 0 htz (z_gV (fun _ h => h) km_La_92 in_Mo_points se_Mo_points ini_Mo m_Mo_points) rfl rfl rfl (by decide +kernel) ⟨(Nat.le_of_ble_eq_true rfl), (Nat.le_of_ble_eq_true rfl)⟩) ⟨z_blind, va_recv hK hP (ci := 4) (q0 := 10) rfl rfl, fun U hU hW => ⟨rfl, by rw [hU], hE.call hS hFc hU hW, by rw [hU]; exact (zPc hPf), va_K.moved hW.alike hK, (zDc hDf)⟩⟩ rfl rfl hl.1 rfl (lv_room (Nat.le_of_ble_eq_true rfl)) d_La_law_330 b_330) hS (fun q _ h => hFc q h) hFc (fun r u t H1 locs ht hvm hw hB hz1 hk1 hS => ?_)
  obtain ⟨hP1, hK1, hD1⟩ := hB
  rw [ht] at hP1
  obtain ⟨hP, hD⟩ := zf hPf hDf hk1 hFc hP1 hD1
  exact k_330 r _ hw H1 locs ls (lv_sub hl [1, 2, 3, 4, 5, 0] rfl) hP hD hS
set_option maxHeartbeats 1000000 in
set_option maxRecDepth 100000 in
theorem k_La_lawL_333 {C : CT} {b_ L_ : Nat} {xs : Nat → Int32} (X : cL C "QuestionTextLaw" b_La_law 7 (some .boolean) b_ L_ xs) (Post : State → Prop) (x4 : Int32) (x5 : Int32) (y0 : Int32) (f_q : FT) (r_q : Nat → Nat → Option Nat) (c_q : Nat) (f_t : FT) (g_t : GT) (r_r : Nat → Nat → Option Nat) (f_c : FT) (g_c : GT) (f_m : FT) (g_m : GT) (P : va_W) (ou : Nat) (of : Nat → Int64) (MM : Nat) (SS : Nat) (c0 s0 : Nat)
    (k_530 : zc_La_lawL C Post c0 s0 530 [(0, .ref b_), (1, .ref (ad C.1 24)), (2, .ref (ad C.1 0)), (3, .ref ou), (4, .int x4)] [] ([(ou, .inl (C.1.2.2.2.1 1, 1, .inr (.inl of)))] ++ (s_q C.1.2.2.2.1 C.1.2.2.2.2 f_q r_q c_q ++ (s_t C.1.2.2.2.1 C.1.2.2.2.2 f_t g_t ++ (s_r C.1.2.2.2.1 C.1.2.2.2.2 r_r ++ (s_c C.1.2.2.2.1 C.1.2.2.2.2 f_c g_c ++ (s_m C.1.2.2.2.1 C.1.2.2.2.2 f_m g_m ++ (P)))))))) : zc_La_lawL C Post c0 s0 333 [(0, .ref b_), (1, .ref (ad C.1 24)), (2, .ref (ad C.1 0)), (3, .ref ou), (4, .int x4), (5, .int x5)] [.int y0] ([(ou, .inl (C.1.2.2.2.1 1, 1, .inr (.inl of)))] ++ (s_q C.1.2.2.2.1 C.1.2.2.2.2 f_q r_q c_q ++ (s_t C.1.2.2.2.1 C.1.2.2.2.2 f_t g_t ++ (s_r C.1.2.2.2.1 C.1.2.2.2.2 r_r ++ (s_c C.1.2.2.2.1 C.1.2.2.2.2 f_c g_c ++ (s_m C.1.2.2.2.1 C.1.2.2.2.2 f_m g_m ++ (P))))))) := by
  obtain ⟨⟨l, dC, dI, k, a⟩, p, e, s, m, args, below, meth, c, A⟩ := C
  obtain ⟨⟨hx, hb, hr, htz, hown, hlocks, hml, hE, hK, hA⟩, hX, hbl, hbA, hlt⟩ := X
  intro H locs ls hl hP hD hS
  have hl : lv_has ls 7 [(0, .ref b_), (1, .ref (a 24)), (2, .ref (a 0)), (3, .ref ou), (4, .int x4), (5, .int x5)] := hl
  have hP : va_P (dC, dI) classes ([(ou, .inl (k 1, 1, .inr (.inl of)))] ++ (s_q k a f_q r_q c_q ++ (s_t k a f_t g_t ++ (s_r k a r_r ++ (s_c k a f_c g_c ++ (s_m k a f_m g_m ++ (P))))))) H := hP
  have hD : va_D A ([(ou, .inl (k 1, 1, .inr (.inl of)))] ++ (s_q k a f_q r_q c_q ++ (s_t k a f_t g_t ++ (s_r k a r_r ++ (s_c k a f_c g_c ++ (s_m k a f_m g_m ++ (P))))))) := hD
  show W p l e room_1 s m args below meth c H locs c0 s0 _ (F0 m 333 ls [.int y0])
  refine lv_istore (lv' := [(6, .int y0), (0, .ref b_), (1, .ref (a 24)), (2, .ref (a 0)), (3, .ref ou), (4, .int x4), (5, .int x5)]) hx hb d_La_law_333 hl (by decide) rfl (fun ls hl => ?_)
  refine lv_goto (tgt := 530) hx hb d_La_law_335 (by decide) ?_
  exact k_530 H locs ls (lv_sub hl [1, 2, 3, 4, 5] rfl) hP hD hS
set_option maxHeartbeats 1000000 in
set_option maxRecDepth 100000 in
theorem k_La_lawL_349 {C : CT} {b_ L_ : Nat} {xs : Nat → Int32} (X : cL C "QuestionTextLaw" b_La_law 7 (some .boolean) b_ L_ xs) (Post : State → Prop) {P_358 : Int32 → va_W → Prop} (x4 : Int32) (y0 : Int32) (f_q : FT) (r_q : Nat → Nat → Option Nat) (c_q : Nat) (f_t : FT) (g_t : GT) (r_r : Nat → Nat → Option Nat) (f_c : FT) (g_c : GT) (f_m : FT) (g_m : GT) (P : va_W) (ou : Nat) (of : Nat → Int64) (MM : Nat) (SS : Nat) (c0 s0 : Nat)
    (h_357 : vp_in (x4 + 1) L_)
    (b_358 : c0 ≤ 601024 ∧ s0 ≤ 7293034)
    (m_358 : uI C.1 y_Mo_asked (Cond.code y_Mo_asked b_Mo_asked 2 (some .int)) 1 0 0 [.ref (ad C.1 0), .int (xs (x4 + 1 : Int32).toNatClampNeg)] (s_m C.1.2.2.2.1 C.1.2.2.2.2 f_m g_m) P_358)
    (k_358 : ∀ (r : Int32) (u : va_W), P_358 r u → zc_La_lawL C Post c0 s0 361 [(0, .ref b_), (1, .ref (ad C.1 24)), (2, .ref (ad C.1 0)), (3, .ref ou), (4, .int x4), (5, .int y0)] [.int r] ([(ou, .inl (C.1.2.2.2.1 1, 1, .inr (.inl of)))] ++ (s_q C.1.2.2.2.1 C.1.2.2.2.2 f_q r_q c_q ++ (s_t C.1.2.2.2.1 C.1.2.2.2.2 f_t g_t ++ (s_r C.1.2.2.2.1 C.1.2.2.2.2 r_r ++ (s_c C.1.2.2.2.1 C.1.2.2.2.2 f_c g_c)))) ++ (u ++ (P)))) : zc_La_lawL C Post c0 s0 349 [(0, .ref b_), (1, .ref (ad C.1 24)), (2, .ref (ad C.1 0)), (3, .ref ou), (4, .int x4)] [.int y0] ([(ou, .inl (C.1.2.2.2.1 1, 1, .inr (.inl of)))] ++ (s_q C.1.2.2.2.1 C.1.2.2.2.2 f_q r_q c_q ++ (s_t C.1.2.2.2.1 C.1.2.2.2.2 f_t g_t ++ (s_r C.1.2.2.2.1 C.1.2.2.2.2 r_r ++ (s_c C.1.2.2.2.1 C.1.2.2.2.2 f_c g_c ++ (s_m C.1.2.2.2.1 C.1.2.2.2.2 f_m g_m ++ (P))))))) := by
  obtain ⟨⟨l, dC, dI, k, a⟩, p, e, s, m, args, below, meth, c, A⟩ := C
  obtain ⟨⟨hx, hb, hr, htz, hown, hlocks, hml, hE, hK, hA⟩, hX, hbl, hbA, hlt⟩ := X
  intro H locs ls hl hP hD hS
  have hl : lv_has ls 7 [(0, .ref b_), (1, .ref (a 24)), (2, .ref (a 0)), (3, .ref ou), (4, .int x4)] := hl
  have hP : va_P (dC, dI) classes ([(ou, .inl (k 1, 1, .inr (.inl of)))] ++ (s_q k a f_q r_q c_q ++ (s_t k a f_t g_t ++ (s_r k a r_r ++ (s_c k a f_c g_c ++ (s_m k a f_m g_m ++ (P))))))) H := hP
  have hD : va_D A ([(ou, .inl (k 1, 1, .inr (.inl of)))] ++ (s_q k a f_q r_q c_q ++ (s_t k a f_t g_t ++ (s_r k a r_r ++ (s_c k a f_c g_c ++ (s_m k a f_m g_m ++ (P))))))) := hD
  show W p l e room_1 s m args below meth c H locs c0 s0 _ (F0 m 349 ls [.int y0])
  refine lv_istore (lv' := [(5, .int y0), (0, .ref b_), (1, .ref (a 24)), (2, .ref (a 0)), (3, .ref ou), (4, .int x4)]) hx hb d_La_law_349 hl (by decide) rfl (fun ls hl => ?_)
  refine lv_aload_n hx hb d_La_law_351 rfl (lv_at hl 3 rfl) ?_
  refine lv_aload_n hx hb d_La_law_352 rfl (lv_at hl 1 rfl) ?_
  refine lv_iload hx hb d_La_law_353 (lv_at hl 5 rfl) ?_
  refine lv_iconst (v := 1) hx hb d_La_law_355 (by decide) ?_
  refine lv_iadd hx hb d_La_law_356 ?_
  refine va_sld hx hb hX hbl hbA hS (i := x4 + 1) h_357 d_La_law_357 ?_
  have hPf : va_P (dC, dI) classes (([(ou, .inl (k 1, 1, .inr (.inl of)))] ++ (s_q k a f_q r_q c_q ++ (s_t k a f_t g_t ++ (s_r k a r_r ++ (s_c k a f_c g_c))))) ++ ((s_m k a f_m g_m) ++ (P))) H := zpP (by (try simp only [List.append_assoc]); exact List.Perm.refl _) hP
  have hDf : va_D A (([(ou, .inl (k 1, 1, .inr (.inl of)))] ++ (s_q k a f_q r_q c_q ++ (s_t k a f_t g_t ++ (s_r k a r_r ++ (s_c k a f_c g_c))))) ++ ((s_m k a f_m g_m) ++ (P))) := zpD (by (try simp only [List.append_assoc]); exact List.Perm.refl _) hD
  have hFc := zfree hDf hS hA
  refine va_calli (va_runV (As := [.int (xs (x4 + 1 : Int32).toNatClampNeg)]) (rest := []) ⟨hx, hb, hml, hown, htz⟩ (m_358 H.size) (cwV 1 htz (z_gV (fun _ h => h) km_La_95 in_Mo_asked se_Mo_asked ini_Mo m_Mo_asked) rfl rfl rfl (by decide +kernel) ⟨(Nat.le_of_ble_eq_true rfl), (Nat.le_of_ble_eq_true rfl)⟩) ⟨z_blind, va_recv hK hP (ci := 4) (q0 := 10) rfl rfl, fun U hU hW => ⟨rfl, by rw [hU], hE.call hS hFc hU hW, by rw [hU]; exact (zPc hPf), va_K.moved hW.alike hK, (zDc hDf)⟩⟩ rfl rfl hl.1 rfl (lv_room (Nat.le_of_ble_eq_true rfl)) d_La_law_358 b_358) hS (fun q _ h => hFc q h) hFc (fun r u t H1 locs ht hvm hw hB hz1 hk1 hS => ?_)
  obtain ⟨hP1, hK1, hD1⟩ := hB
  rw [ht] at hP1
  obtain ⟨hP, hD⟩ := zf hPf hDf hk1 hFc hP1 hD1
  exact k_358 r _ hw H1 locs ls (lv_sub hl [1, 2, 3, 4, 5, 0] rfl) hP hD hS
set_option maxHeartbeats 1000000 in
set_option maxRecDepth 100000 in
theorem k_La_lawL_361 {C : CT} {b_ L_ : Nat} {xs : Nat → Int32} (X : cL C "QuestionTextLaw" b_La_law 7 (some .boolean) b_ L_ xs) (Post : State → Prop) (x4 : Int32) (x5 : Int32) (y0 : Int32) (f_q : FT) (r_q : Nat → Nat → Option Nat) (c_q : Nat) (f_t : FT) (g_t : GT) (r_r : Nat → Nat → Option Nat) (f_c : FT) (g_c : GT) (f_m : FT) (g_m : GT) (P : va_W) (ou : Nat) (of : Nat → Int64) (MM : Nat) (SS : Nat) (c0 s0 : Nat)
    (k_530 : zc_La_lawL C Post c0 s0 530 [(0, .ref b_), (1, .ref (ad C.1 24)), (2, .ref (ad C.1 0)), (3, .ref ou), (4, .int x4)] [] ([(ou, .inl (C.1.2.2.2.1 1, 1, .inr (.inl of)))] ++ (s_q C.1.2.2.2.1 C.1.2.2.2.2 f_q r_q c_q ++ (s_t C.1.2.2.2.1 C.1.2.2.2.2 f_t g_t ++ (s_r C.1.2.2.2.1 C.1.2.2.2.2 r_r ++ (s_c C.1.2.2.2.1 C.1.2.2.2.2 f_c g_c ++ (s_m C.1.2.2.2.1 C.1.2.2.2.2 f_m g_m ++ (P)))))))) : zc_La_lawL C Post c0 s0 361 [(0, .ref b_), (1, .ref (ad C.1 24)), (2, .ref (ad C.1 0)), (3, .ref ou), (4, .int x4), (5, .int x5)] [.int y0] ([(ou, .inl (C.1.2.2.2.1 1, 1, .inr (.inl of)))] ++ (s_q C.1.2.2.2.1 C.1.2.2.2.2 f_q r_q c_q ++ (s_t C.1.2.2.2.1 C.1.2.2.2.2 f_t g_t ++ (s_r C.1.2.2.2.1 C.1.2.2.2.2 r_r ++ (s_c C.1.2.2.2.1 C.1.2.2.2.2 f_c g_c ++ (s_m C.1.2.2.2.1 C.1.2.2.2.2 f_m g_m ++ (P))))))) := by
  obtain ⟨⟨l, dC, dI, k, a⟩, p, e, s, m, args, below, meth, c, A⟩ := C
  obtain ⟨⟨hx, hb, hr, htz, hown, hlocks, hml, hE, hK, hA⟩, hX, hbl, hbA, hlt⟩ := X
  intro H locs ls hl hP hD hS
  have hl : lv_has ls 7 [(0, .ref b_), (1, .ref (a 24)), (2, .ref (a 0)), (3, .ref ou), (4, .int x4), (5, .int x5)] := hl
  have hP : va_P (dC, dI) classes ([(ou, .inl (k 1, 1, .inr (.inl of)))] ++ (s_q k a f_q r_q c_q ++ (s_t k a f_t g_t ++ (s_r k a r_r ++ (s_c k a f_c g_c ++ (s_m k a f_m g_m ++ (P))))))) H := hP
  have hD : va_D A ([(ou, .inl (k 1, 1, .inr (.inl of)))] ++ (s_q k a f_q r_q c_q ++ (s_t k a f_t g_t ++ (s_r k a r_r ++ (s_c k a f_c g_c ++ (s_m k a f_m g_m ++ (P))))))) := hD
  show W p l e room_1 s m args below meth c H locs c0 s0 _ (F0 m 361 ls [.int y0])
  refine lv_istore (lv' := [(6, .int y0), (0, .ref b_), (1, .ref (a 24)), (2, .ref (a 0)), (3, .ref ou), (4, .int x4), (5, .int x5)]) hx hb d_La_law_361 hl (by decide) rfl (fun ls hl => ?_)
  refine lv_goto (tgt := 530) hx hb d_La_law_363 (by decide) ?_
  exact k_530 H locs ls (lv_sub hl [1, 2, 3, 4, 5] rfl) hP hD hS
set_option maxHeartbeats 1000000 in
set_option maxRecDepth 100000 in
theorem k_La_lawL_377 {C : CT} {b_ L_ : Nat} {xs : Nat → Int32} (X : cL C "QuestionTextLaw" b_La_law 7 (some .boolean) b_ L_ xs) (Post : State → Prop) {P_386 : Int32 → va_W → Prop} (x4 : Int32) (y0 : Int32) (f_q : FT) (r_q : Nat → Nat → Option Nat) (c_q : Nat) (f_t : FT) (g_t : GT) (r_r : Nat → Nat → Option Nat) (f_c : FT) (g_c : GT) (f_m : FT) (g_m : GT) (P : va_W) (ou : Nat) (of : Nat → Int64) (MM : Nat) (SS : Nat) (c0 s0 : Nat)
    (h_385 : vp_in (x4 + 1) L_)
    (b_386 : c0 ≤ 601024 ∧ s0 ≤ 7293034)
    (m_386 : uI C.1 y_Mo_loop (Cond.code y_Mo_loop b_Mo_loop 4 (some .int)) 3 0 0 [.ref (ad C.1 0), .int (xs (x4 + 1 : Int32).toNatClampNeg)] (s_m C.1.2.2.2.1 C.1.2.2.2.2 f_m g_m) P_386)
    (k_386 : ∀ (r : Int32) (u : va_W), P_386 r u → zc_La_lawL C Post c0 s0 389 [(0, .ref b_), (1, .ref (ad C.1 24)), (2, .ref (ad C.1 0)), (3, .ref ou), (4, .int x4), (5, .int y0)] [.int r] ([(ou, .inl (C.1.2.2.2.1 1, 1, .inr (.inl of)))] ++ (s_q C.1.2.2.2.1 C.1.2.2.2.2 f_q r_q c_q ++ (s_t C.1.2.2.2.1 C.1.2.2.2.2 f_t g_t ++ (s_r C.1.2.2.2.1 C.1.2.2.2.2 r_r ++ (s_c C.1.2.2.2.1 C.1.2.2.2.2 f_c g_c)))) ++ (u ++ (P)))) : zc_La_lawL C Post c0 s0 377 [(0, .ref b_), (1, .ref (ad C.1 24)), (2, .ref (ad C.1 0)), (3, .ref ou), (4, .int x4)] [.int y0] ([(ou, .inl (C.1.2.2.2.1 1, 1, .inr (.inl of)))] ++ (s_q C.1.2.2.2.1 C.1.2.2.2.2 f_q r_q c_q ++ (s_t C.1.2.2.2.1 C.1.2.2.2.2 f_t g_t ++ (s_r C.1.2.2.2.1 C.1.2.2.2.2 r_r ++ (s_c C.1.2.2.2.1 C.1.2.2.2.2 f_c g_c ++ (s_m C.1.2.2.2.1 C.1.2.2.2.2 f_m g_m ++ (P))))))) := by
  obtain ⟨⟨l, dC, dI, k, a⟩, p, e, s, m, args, below, meth, c, A⟩ := C
  obtain ⟨⟨hx, hb, hr, htz, hown, hlocks, hml, hE, hK, hA⟩, hX, hbl, hbA, hlt⟩ := X
  intro H locs ls hl hP hD hS
  have hl : lv_has ls 7 [(0, .ref b_), (1, .ref (a 24)), (2, .ref (a 0)), (3, .ref ou), (4, .int x4)] := hl
  have hP : va_P (dC, dI) classes ([(ou, .inl (k 1, 1, .inr (.inl of)))] ++ (s_q k a f_q r_q c_q ++ (s_t k a f_t g_t ++ (s_r k a r_r ++ (s_c k a f_c g_c ++ (s_m k a f_m g_m ++ (P))))))) H := hP
  have hD : va_D A ([(ou, .inl (k 1, 1, .inr (.inl of)))] ++ (s_q k a f_q r_q c_q ++ (s_t k a f_t g_t ++ (s_r k a r_r ++ (s_c k a f_c g_c ++ (s_m k a f_m g_m ++ (P))))))) := hD
  show W p l e room_1 s m args below meth c H locs c0 s0 _ (F0 m 377 ls [.int y0])
  refine lv_istore (lv' := [(5, .int y0), (0, .ref b_), (1, .ref (a 24)), (2, .ref (a 0)), (3, .ref ou), (4, .int x4)]) hx hb d_La_law_377 hl (by decide) rfl (fun ls hl => ?_)
  refine lv_aload_n hx hb d_La_law_379 rfl (lv_at hl 3 rfl) ?_
  refine lv_aload_n hx hb d_La_law_380 rfl (lv_at hl 1 rfl) ?_
  refine lv_iload hx hb d_La_law_381 (lv_at hl 5 rfl) ?_
  refine lv_iconst (v := 1) hx hb d_La_law_383 (by decide) ?_
  refine lv_iadd hx hb d_La_law_384 ?_
  refine va_sld hx hb hX hbl hbA hS (i := x4 + 1) h_385 d_La_law_385 ?_
  have hPf : va_P (dC, dI) classes (([(ou, .inl (k 1, 1, .inr (.inl of)))] ++ (s_q k a f_q r_q c_q ++ (s_t k a f_t g_t ++ (s_r k a r_r ++ (s_c k a f_c g_c))))) ++ ((s_m k a f_m g_m) ++ (P))) H := zpP (by (try simp only [List.append_assoc]); exact List.Perm.refl _) hP
  have hDf : va_D A (([(ou, .inl (k 1, 1, .inr (.inl of)))] ++ (s_q k a f_q r_q c_q ++ (s_t k a f_t g_t ++ (s_r k a r_r ++ (s_c k a f_c g_c))))) ++ ((s_m k a f_m g_m) ++ (P))) := zpD (by (try simp only [List.append_assoc]); exact List.Perm.refl _) hD
  have hFc := zfree hDf hS hA
  refine va_calli (va_runV (As := [.int (xs (x4 + 1 : Int32).toNatClampNeg)]) (rest := []) ⟨hx, hb, hml, hown, htz⟩ (m_386 H.size) (cwV 1 htz (z_gV (fun _ h => h) km_La_98 in_Mo_loop se_Mo_loop ini_Mo m_Mo_loop) rfl rfl rfl (by decide +kernel) ⟨(Nat.le_of_ble_eq_true rfl), (Nat.le_of_ble_eq_true rfl)⟩) ⟨z_blind, va_recv hK hP (ci := 4) (q0 := 10) rfl rfl, fun U hU hW => ⟨rfl, by rw [hU], hE.call hS hFc hU hW, by rw [hU]; exact (zPc hPf), va_K.moved hW.alike hK, (zDc hDf)⟩⟩ rfl rfl hl.1 rfl (lv_room (Nat.le_of_ble_eq_true rfl)) d_La_law_386 b_386) hS (fun q _ h => hFc q h) hFc (fun r u t H1 locs ht hvm hw hB hz1 hk1 hS => ?_)
  obtain ⟨hP1, hK1, hD1⟩ := hB
  rw [ht] at hP1
  obtain ⟨hP, hD⟩ := zf hPf hDf hk1 hFc hP1 hD1
  exact k_386 r _ hw H1 locs ls (lv_sub hl [1, 2, 3, 4, 5, 0] rfl) hP hD hS
set_option maxHeartbeats 1000000 in
set_option maxRecDepth 100000 in
theorem k_La_lawL_389 {C : CT} {b_ L_ : Nat} {xs : Nat → Int32} (X : cL C "QuestionTextLaw" b_La_law 7 (some .boolean) b_ L_ xs) (Post : State → Prop) (x4 : Int32) (x5 : Int32) (y0 : Int32) (f_q : FT) (r_q : Nat → Nat → Option Nat) (c_q : Nat) (f_t : FT) (g_t : GT) (r_r : Nat → Nat → Option Nat) (f_c : FT) (g_c : GT) (f_m : FT) (g_m : GT) (P : va_W) (ou : Nat) (of : Nat → Int64) (MM : Nat) (SS : Nat) (c0 s0 : Nat)
    (k_530 : zc_La_lawL C Post c0 s0 530 [(0, .ref b_), (1, .ref (ad C.1 24)), (2, .ref (ad C.1 0)), (3, .ref ou), (4, .int x4)] [] ([(ou, .inl (C.1.2.2.2.1 1, 1, .inr (.inl of)))] ++ (s_q C.1.2.2.2.1 C.1.2.2.2.2 f_q r_q c_q ++ (s_t C.1.2.2.2.1 C.1.2.2.2.2 f_t g_t ++ (s_r C.1.2.2.2.1 C.1.2.2.2.2 r_r ++ (s_c C.1.2.2.2.1 C.1.2.2.2.2 f_c g_c ++ (s_m C.1.2.2.2.1 C.1.2.2.2.2 f_m g_m ++ (P)))))))) : zc_La_lawL C Post c0 s0 389 [(0, .ref b_), (1, .ref (ad C.1 24)), (2, .ref (ad C.1 0)), (3, .ref ou), (4, .int x4), (5, .int x5)] [.int y0] ([(ou, .inl (C.1.2.2.2.1 1, 1, .inr (.inl of)))] ++ (s_q C.1.2.2.2.1 C.1.2.2.2.2 f_q r_q c_q ++ (s_t C.1.2.2.2.1 C.1.2.2.2.2 f_t g_t ++ (s_r C.1.2.2.2.1 C.1.2.2.2.2 r_r ++ (s_c C.1.2.2.2.1 C.1.2.2.2.2 f_c g_c ++ (s_m C.1.2.2.2.1 C.1.2.2.2.2 f_m g_m ++ (P))))))) := by
  obtain ⟨⟨l, dC, dI, k, a⟩, p, e, s, m, args, below, meth, c, A⟩ := C
  obtain ⟨⟨hx, hb, hr, htz, hown, hlocks, hml, hE, hK, hA⟩, hX, hbl, hbA, hlt⟩ := X
  intro H locs ls hl hP hD hS
  have hl : lv_has ls 7 [(0, .ref b_), (1, .ref (a 24)), (2, .ref (a 0)), (3, .ref ou), (4, .int x4), (5, .int x5)] := hl
  have hP : va_P (dC, dI) classes ([(ou, .inl (k 1, 1, .inr (.inl of)))] ++ (s_q k a f_q r_q c_q ++ (s_t k a f_t g_t ++ (s_r k a r_r ++ (s_c k a f_c g_c ++ (s_m k a f_m g_m ++ (P))))))) H := hP
  have hD : va_D A ([(ou, .inl (k 1, 1, .inr (.inl of)))] ++ (s_q k a f_q r_q c_q ++ (s_t k a f_t g_t ++ (s_r k a r_r ++ (s_c k a f_c g_c ++ (s_m k a f_m g_m ++ (P))))))) := hD
  show W p l e room_1 s m args below meth c H locs c0 s0 _ (F0 m 389 ls [.int y0])
  refine lv_istore (lv' := [(6, .int y0), (0, .ref b_), (1, .ref (a 24)), (2, .ref (a 0)), (3, .ref ou), (4, .int x4), (5, .int x5)]) hx hb d_La_law_389 hl (by decide) rfl (fun ls hl => ?_)
  refine lv_goto (tgt := 530) hx hb d_La_law_391 (by decide) ?_
  exact k_530 H locs ls (lv_sub hl [1, 2, 3, 4, 5] rfl) hP hD hS
set_option maxHeartbeats 1000000 in
set_option maxRecDepth 100000 in
theorem k_La_lawL_405 {C : CT} {b_ L_ : Nat} {xs : Nat → Int32} (X : cL C "QuestionTextLaw" b_La_law 7 (some .boolean) b_ L_ xs) (Post : State → Prop) {P_414 : Int32 → va_W → Prop} (x4 : Int32) (y0 : Int32) (f_q : FT) (r_q : Nat → Nat → Option Nat) (c_q : Nat) (f_t : FT) (g_t : GT) (r_r : Nat → Nat → Option Nat) (f_c : FT) (g_c : GT) (f_m : FT) (g_m : GT) (P : va_W) (ou : Nat) (of : Nat → Int64) (MM : Nat) (SS : Nat) (c0 s0 : Nat)
    (h_413 : vp_in (x4 + 1) L_)
    (b_414 : c0 ≤ 601024 ∧ s0 ≤ 7293034)
    (m_414 : uI C.1 y_Mo_never (Cond.code y_Mo_never b_Mo_never 5 (some .int)) 2 0 0 [.ref (ad C.1 0), .int (xs (x4 + 1 : Int32).toNatClampNeg)] (s_m C.1.2.2.2.1 C.1.2.2.2.2 f_m g_m) P_414)
    (k_414 : ∀ (r : Int32) (u : va_W), P_414 r u → zc_La_lawL C Post c0 s0 417 [(0, .ref b_), (1, .ref (ad C.1 24)), (2, .ref (ad C.1 0)), (3, .ref ou), (4, .int x4), (5, .int y0)] [.int r] ([(ou, .inl (C.1.2.2.2.1 1, 1, .inr (.inl of)))] ++ (s_q C.1.2.2.2.1 C.1.2.2.2.2 f_q r_q c_q ++ (s_t C.1.2.2.2.1 C.1.2.2.2.2 f_t g_t ++ (s_r C.1.2.2.2.1 C.1.2.2.2.2 r_r ++ (s_c C.1.2.2.2.1 C.1.2.2.2.2 f_c g_c)))) ++ (u ++ (P)))) : zc_La_lawL C Post c0 s0 405 [(0, .ref b_), (1, .ref (ad C.1 24)), (2, .ref (ad C.1 0)), (3, .ref ou), (4, .int x4)] [.int y0] ([(ou, .inl (C.1.2.2.2.1 1, 1, .inr (.inl of)))] ++ (s_q C.1.2.2.2.1 C.1.2.2.2.2 f_q r_q c_q ++ (s_t C.1.2.2.2.1 C.1.2.2.2.2 f_t g_t ++ (s_r C.1.2.2.2.1 C.1.2.2.2.2 r_r ++ (s_c C.1.2.2.2.1 C.1.2.2.2.2 f_c g_c ++ (s_m C.1.2.2.2.1 C.1.2.2.2.2 f_m g_m ++ (P))))))) := by
  obtain ⟨⟨l, dC, dI, k, a⟩, p, e, s, m, args, below, meth, c, A⟩ := C
  obtain ⟨⟨hx, hb, hr, htz, hown, hlocks, hml, hE, hK, hA⟩, hX, hbl, hbA, hlt⟩ := X
  intro H locs ls hl hP hD hS
  have hl : lv_has ls 7 [(0, .ref b_), (1, .ref (a 24)), (2, .ref (a 0)), (3, .ref ou), (4, .int x4)] := hl
  have hP : va_P (dC, dI) classes ([(ou, .inl (k 1, 1, .inr (.inl of)))] ++ (s_q k a f_q r_q c_q ++ (s_t k a f_t g_t ++ (s_r k a r_r ++ (s_c k a f_c g_c ++ (s_m k a f_m g_m ++ (P))))))) H := hP
  have hD : va_D A ([(ou, .inl (k 1, 1, .inr (.inl of)))] ++ (s_q k a f_q r_q c_q ++ (s_t k a f_t g_t ++ (s_r k a r_r ++ (s_c k a f_c g_c ++ (s_m k a f_m g_m ++ (P))))))) := hD
  show W p l e room_1 s m args below meth c H locs c0 s0 _ (F0 m 405 ls [.int y0])
  refine lv_istore (lv' := [(5, .int y0), (0, .ref b_), (1, .ref (a 24)), (2, .ref (a 0)), (3, .ref ou), (4, .int x4)]) hx hb d_La_law_405 hl (by decide) rfl (fun ls hl => ?_)
  refine lv_aload_n hx hb d_La_law_407 rfl (lv_at hl 3 rfl) ?_
  refine lv_aload_n hx hb d_La_law_408 rfl (lv_at hl 1 rfl) ?_
  refine lv_iload hx hb d_La_law_409 (lv_at hl 5 rfl) ?_
  refine lv_iconst (v := 1) hx hb d_La_law_411 (by decide) ?_
  refine lv_iadd hx hb d_La_law_412 ?_
  refine va_sld hx hb hX hbl hbA hS (i := x4 + 1) h_413 d_La_law_413 ?_
  have hPf : va_P (dC, dI) classes (([(ou, .inl (k 1, 1, .inr (.inl of)))] ++ (s_q k a f_q r_q c_q ++ (s_t k a f_t g_t ++ (s_r k a r_r ++ (s_c k a f_c g_c))))) ++ ((s_m k a f_m g_m) ++ (P))) H := zpP (by (try simp only [List.append_assoc]); exact List.Perm.refl _) hP
  have hDf : va_D A (([(ou, .inl (k 1, 1, .inr (.inl of)))] ++ (s_q k a f_q r_q c_q ++ (s_t k a f_t g_t ++ (s_r k a r_r ++ (s_c k a f_c g_c))))) ++ ((s_m k a f_m g_m) ++ (P))) := zpD (by (try simp only [List.append_assoc]); exact List.Perm.refl _) hD
  have hFc := zfree hDf hS hA
  refine va_calli (va_runV (As := [.int (xs (x4 + 1 : Int32).toNatClampNeg)]) (rest := []) ⟨hx, hb, hml, hown, htz⟩ (m_414 H.size) (cwV 1 htz (z_gV (fun _ h => h) km_La_101 in_Mo_never se_Mo_never ini_Mo m_Mo_never) rfl rfl rfl (by decide +kernel) ⟨(Nat.le_of_ble_eq_true rfl), (Nat.le_of_ble_eq_true rfl)⟩) ⟨z_blind, va_recv hK hP (ci := 4) (q0 := 10) rfl rfl, fun U hU hW => ⟨rfl, by rw [hU], hE.call hS hFc hU hW, by rw [hU]; exact (zPc hPf), va_K.moved hW.alike hK, (zDc hDf)⟩⟩ rfl rfl hl.1 rfl (lv_room (Nat.le_of_ble_eq_true rfl)) d_La_law_414 b_414) hS (fun q _ h => hFc q h) hFc (fun r u t H1 locs ht hvm hw hB hz1 hk1 hS => ?_)
  obtain ⟨hP1, hK1, hD1⟩ := hB
  rw [ht] at hP1
  obtain ⟨hP, hD⟩ := zf hPf hDf hk1 hFc hP1 hD1
  exact k_414 r _ hw H1 locs ls (lv_sub hl [1, 2, 3, 4, 5, 0] rfl) hP hD hS
set_option maxHeartbeats 1000000 in
set_option maxRecDepth 100000 in
theorem k_La_lawL_417 {C : CT} {b_ L_ : Nat} {xs : Nat → Int32} (X : cL C "QuestionTextLaw" b_La_law 7 (some .boolean) b_ L_ xs) (Post : State → Prop) {P_420 : Int32 → va_W → Prop} (x4 : Int32) (x5 : Int32) (y0 : Int32) (f_q : FT) (r_q : Nat → Nat → Option Nat) (c_q : Nat) (f_t : FT) (g_t : GT) (r_r : Nat → Nat → Option Nat) (f_c : FT) (g_c : GT) (f_m : FT) (g_m : GT) (P : va_W) (ou : Nat) (of : Nat → Int64) (MM : Nat) (SS : Nat) (c0 s0 : Nat)
    (b_420 : c0 ≤ 601024 ∧ s0 ≤ 7293034)
    (m_420 : uI C.1 y_Mo_thrown (Cond.code y_Mo_thrown b_Mo_thrown 1 (some .int)) 0 0 0 [.ref (ad C.1 0)] (s_m C.1.2.2.2.1 C.1.2.2.2.2 f_m g_m) P_420)
    (k_420 : ∀ (r : Int32) (u : va_W), P_420 r u → zc_La_lawL C Post c0 s0 423 [(0, .ref b_), (1, .ref (ad C.1 24)), (2, .ref (ad C.1 0)), (3, .ref ou), (4, .int x4), (5, .int x5), (6, .int y0)] [.int r] ([(ou, .inl (C.1.2.2.2.1 1, 1, .inr (.inl of)))] ++ (s_q C.1.2.2.2.1 C.1.2.2.2.2 f_q r_q c_q ++ (s_t C.1.2.2.2.1 C.1.2.2.2.2 f_t g_t ++ (s_r C.1.2.2.2.1 C.1.2.2.2.2 r_r ++ (s_c C.1.2.2.2.1 C.1.2.2.2.2 f_c g_c)))) ++ (u ++ (P)))) : zc_La_lawL C Post c0 s0 417 [(0, .ref b_), (1, .ref (ad C.1 24)), (2, .ref (ad C.1 0)), (3, .ref ou), (4, .int x4), (5, .int x5)] [.int y0] ([(ou, .inl (C.1.2.2.2.1 1, 1, .inr (.inl of)))] ++ (s_q C.1.2.2.2.1 C.1.2.2.2.2 f_q r_q c_q ++ (s_t C.1.2.2.2.1 C.1.2.2.2.2 f_t g_t ++ (s_r C.1.2.2.2.1 C.1.2.2.2.2 r_r ++ (s_c C.1.2.2.2.1 C.1.2.2.2.2 f_c g_c ++ (s_m C.1.2.2.2.1 C.1.2.2.2.2 f_m g_m ++ (P))))))) := by
  obtain ⟨⟨l, dC, dI, k, a⟩, p, e, s, m, args, below, meth, c, A⟩ := C
  obtain ⟨⟨hx, hb, hr, htz, hown, hlocks, hml, hE, hK, hA⟩, hX, hbl, hbA, hlt⟩ := X
  intro H locs ls hl hP hD hS
  have hl : lv_has ls 7 [(0, .ref b_), (1, .ref (a 24)), (2, .ref (a 0)), (3, .ref ou), (4, .int x4), (5, .int x5)] := hl
  have hP : va_P (dC, dI) classes ([(ou, .inl (k 1, 1, .inr (.inl of)))] ++ (s_q k a f_q r_q c_q ++ (s_t k a f_t g_t ++ (s_r k a r_r ++ (s_c k a f_c g_c ++ (s_m k a f_m g_m ++ (P))))))) H := hP
  have hD : va_D A ([(ou, .inl (k 1, 1, .inr (.inl of)))] ++ (s_q k a f_q r_q c_q ++ (s_t k a f_t g_t ++ (s_r k a r_r ++ (s_c k a f_c g_c ++ (s_m k a f_m g_m ++ (P))))))) := hD
  show W p l e room_1 s m args below meth c H locs c0 s0 _ (F0 m 417 ls [.int y0])
  refine lv_istore (lv' := [(6, .int y0), (0, .ref b_), (1, .ref (a 24)), (2, .ref (a 0)), (3, .ref ou), (4, .int x4), (5, .int x5)]) hx hb d_La_law_417 hl (by decide) rfl (fun ls hl => ?_)
  refine lv_aload_n hx hb d_La_law_419 rfl (lv_at hl 3 rfl) ?_
  have hPf : va_P (dC, dI) classes (([(ou, .inl (k 1, 1, .inr (.inl of)))] ++ (s_q k a f_q r_q c_q ++ (s_t k a f_t g_t ++ (s_r k a r_r ++ (s_c k a f_c g_c))))) ++ ((s_m k a f_m g_m) ++ (P))) H := zpP (by (try simp only [List.append_assoc]); exact List.Perm.refl _) hP
  have hDf : va_D A (([(ou, .inl (k 1, 1, .inr (.inl of)))] ++ (s_q k a f_q r_q c_q ++ (s_t k a f_t g_t ++ (s_r k a r_r ++ (s_c k a f_c g_c))))) ++ ((s_m k a f_m g_m) ++ (P))) := zpD (by (try simp only [List.append_assoc]); exact List.Perm.refl _) hD
  have hFc := zfree hDf hS hA
  refine va_calli (va_runV (As := []) (rest := []) ⟨hx, hb, hml, hown, htz⟩ (m_420 H.size) (cwV 0 htz (z_gV (fun _ h => h) km_La_102 in_Mo_thrown se_Mo_thrown ini_Mo m_Mo_thrown) rfl rfl rfl (by decide +kernel) ⟨(Nat.le_of_ble_eq_true rfl), (Nat.le_of_ble_eq_true rfl)⟩) ⟨z_blind, va_recv hK hP (ci := 4) (q0 := 10) rfl rfl, fun U hU hW => ⟨rfl, by rw [hU], hE.call hS hFc hU hW, by rw [hU]; exact (zPc hPf), va_K.moved hW.alike hK, (zDc hDf)⟩⟩ rfl rfl hl.1 rfl (lv_room (Nat.le_of_ble_eq_true rfl)) d_La_law_420 b_420) hS (fun q _ h => hFc q h) hFc (fun r u t H1 locs ht hvm hw hB hz1 hk1 hS => ?_)
  obtain ⟨hP1, hK1, hD1⟩ := hB
  rw [ht] at hP1
  obtain ⟨hP, hD⟩ := zf hPf hDf hk1 hFc hP1 hD1
  exact k_420 r _ hw H1 locs ls (lv_sub hl [1, 2, 3, 4, 5, 6, 0] rfl) hP hD hS
set_option maxHeartbeats 1000000 in
set_option maxRecDepth 100000 in
theorem k_La_lawL_423 {C : CT} {b_ L_ : Nat} {xs : Nat → Int32} (X : cL C "QuestionTextLaw" b_La_law 7 (some .boolean) b_ L_ xs) (Post : State → Prop) (x4 : Int32) (x5 : Int32) (x6 : Int32) (y0 : Int32) (f_q : FT) (r_q : Nat → Nat → Option Nat) (c_q : Nat) (f_t : FT) (g_t : GT) (r_r : Nat → Nat → Option Nat) (f_c : FT) (g_c : GT) (f_m : FT) (g_m : GT) (P : va_W) (ou : Nat) (of : Nat → Int64) (MM : Nat) (SS : Nat) (c0 s0 : Nat)
    (k_447 : (y0 = x5) → (¬ x5 = 0) → zc_La_lawL C Post c0 s0 447 [(0, .ref b_), (1, .ref (ad C.1 24)), (2, .ref (ad C.1 0)), (3, .ref ou), (4, .int x4), (5, .int x5), (6, .int x6)] [] ([(ou, .inl (C.1.2.2.2.1 1, 1, .inr (.inl of)))] ++ (s_q C.1.2.2.2.1 C.1.2.2.2.2 f_q r_q c_q ++ (s_t C.1.2.2.2.1 C.1.2.2.2.2 f_t g_t ++ (s_r C.1.2.2.2.1 C.1.2.2.2.2 r_r ++ (s_c C.1.2.2.2.1 C.1.2.2.2.2 f_c g_c ++ (s_m C.1.2.2.2.1 C.1.2.2.2.2 f_m g_m ++ (P))))))))
    (h_437 : (y0 = x5) → (x5 = 0) → vp_in (0) 1)
    (k_447_1 : (y0 = x5) → (x5 = 0) → (lg_cmp (of (0 : Int32).toNatClampNeg) x6.toInt64 = 0) → zc_La_lawL C Post c0 s0 447 [(0, .ref b_), (1, .ref (ad C.1 24)), (2, .ref (ad C.1 0)), (3, .ref ou), (4, .int x4), (5, .int x5), (6, .int x6)] [] ([(ou, .inl (C.1.2.2.2.1 1, 1, .inr (.inl of)))] ++ (s_q C.1.2.2.2.1 C.1.2.2.2.2 f_q r_q c_q ++ (s_t C.1.2.2.2.1 C.1.2.2.2.2 f_t g_t ++ (s_r C.1.2.2.2.1 C.1.2.2.2.2 r_r ++ (s_c C.1.2.2.2.1 C.1.2.2.2.2 f_c g_c ++ (s_m C.1.2.2.2.1 C.1.2.2.2.2 f_m g_m ++ (P))))))))
    (k_446 : (y0 = x5) → (x5 = 0) → (¬ lg_cmp (of (0 : Int32).toNatClampNeg) x6.toInt64 = 0) → zc_La_lawL C Post c0 s0 446 [(0, .ref b_), (1, .ref (ad C.1 24)), (2, .ref (ad C.1 0)), (3, .ref ou), (4, .int x4), (5, .int x5), (6, .int x6)] [.int 0] ([(ou, .inl (C.1.2.2.2.1 1, 1, .inr (.inl of)))] ++ (s_q C.1.2.2.2.1 C.1.2.2.2.2 f_q r_q c_q ++ (s_t C.1.2.2.2.1 C.1.2.2.2.2 f_t g_t ++ (s_r C.1.2.2.2.1 C.1.2.2.2.2 r_r ++ (s_c C.1.2.2.2.1 C.1.2.2.2.2 f_c g_c ++ (s_m C.1.2.2.2.1 C.1.2.2.2.2 f_m g_m ++ (P))))))))
    (k_429 : (¬ y0 = x5) → zc_La_lawL C Post c0 s0 429 [(0, .ref b_), (1, .ref (ad C.1 24)), (2, .ref (ad C.1 0)), (3, .ref ou), (4, .int x4), (5, .int x5), (6, .int x6)] [.int 0] ([(ou, .inl (C.1.2.2.2.1 1, 1, .inr (.inl of)))] ++ (s_q C.1.2.2.2.1 C.1.2.2.2.2 f_q r_q c_q ++ (s_t C.1.2.2.2.1 C.1.2.2.2.2 f_t g_t ++ (s_r C.1.2.2.2.1 C.1.2.2.2.2 r_r ++ (s_c C.1.2.2.2.1 C.1.2.2.2.2 f_c g_c ++ (s_m C.1.2.2.2.1 C.1.2.2.2.2 f_m g_m ++ (P)))))))) : zc_La_lawL C Post c0 s0 423 [(0, .ref b_), (1, .ref (ad C.1 24)), (2, .ref (ad C.1 0)), (3, .ref ou), (4, .int x4), (5, .int x5), (6, .int x6)] [.int y0] ([(ou, .inl (C.1.2.2.2.1 1, 1, .inr (.inl of)))] ++ (s_q C.1.2.2.2.1 C.1.2.2.2.2 f_q r_q c_q ++ (s_t C.1.2.2.2.1 C.1.2.2.2.2 f_t g_t ++ (s_r C.1.2.2.2.1 C.1.2.2.2.2 r_r ++ (s_c C.1.2.2.2.1 C.1.2.2.2.2 f_c g_c ++ (s_m C.1.2.2.2.1 C.1.2.2.2.2 f_m g_m ++ (P))))))) := by
  obtain ⟨⟨l, dC, dI, k, a⟩, p, e, s, m, args, below, meth, c, A⟩ := C
  obtain ⟨⟨hx, hb, hr, htz, hown, hlocks, hml, hE, hK, hA⟩, hX, hbl, hbA, hlt⟩ := X
  intro H locs ls hl hP hD hS
  have hl : lv_has ls 7 [(0, .ref b_), (1, .ref (a 24)), (2, .ref (a 0)), (3, .ref ou), (4, .int x4), (5, .int x5), (6, .int x6)] := hl
  have hP : va_P (dC, dI) classes ([(ou, .inl (k 1, 1, .inr (.inl of)))] ++ (s_q k a f_q r_q c_q ++ (s_t k a f_t g_t ++ (s_r k a r_r ++ (s_c k a f_c g_c ++ (s_m k a f_m g_m ++ (P))))))) H := hP
  have hD : va_D A ([(ou, .inl (k 1, 1, .inr (.inl of)))] ++ (s_q k a f_q r_q c_q ++ (s_t k a f_t g_t ++ (s_r k a r_r ++ (s_c k a f_c g_c ++ (s_m k a f_m g_m ++ (P))))))) := hD
  show W p l e room_1 s m args below meth c H locs c0 s0 _ (F0 m 423 ls [.int y0])
  refine lv_iload hx hb d_La_law_423 (lv_at hl 5 rfl) ?_
  refine lv_icmp_eq (tgt := 430) hx hb d_La_law_425 (by decide) (fun c_425 => ?_) (fun c_425 => ?_)
  · refine lv_iload hx hb d_La_law_430 (lv_at hl 5 rfl) ?_
    refine lv_if_ne (tgt := 447) hx hb d_La_law_432 (by decide) (fun c_432 => ?_) (fun c_432 => ?_)
    · exact (k_447 c_425 c_432) H locs ls (lv_sub hl [0, 1, 2, 3, 4, 5, 6] rfl) hP hD hS
    · refine lv_aload_n hx hb d_La_law_435 rfl (lv_at hl 3 rfl) ?_
      refine lv_iconst (v := 0) hx hb d_La_law_436 (by decide) ?_
      refine va_lald hx hb hK hP 0 1 rfl rfl (h_437 c_425 c_432) d_La_law_437 ?_
      refine lv_iload hx hb d_La_law_438 (lv_at hl 6 rfl) ?_
      refine lv_i2l (v := x6.toInt64) hx hb d_La_law_440 rfl ?_
      refine W.lcmp hx hb d_La_law_441 ?_
      refine lv_if_eq (tgt := 447) hx hb d_La_law_442 (by decide) (fun c_442 => ?_) (fun c_442 => ?_)
      · exact (k_447_1 c_425 c_432 c_442) H locs ls (lv_sub hl [0, 1, 2, 3, 4, 5, 6] rfl) hP hD hS
      · refine lv_iconst (v := 0) hx hb d_La_law_445 (by decide) ?_
        exact (k_446 c_425 c_432 c_442) H locs ls (lv_sub hl [0, 1, 2, 3, 4, 5, 6] rfl) hP hD hS
  · refine lv_iconst (v := 0) hx hb d_La_law_428 (by decide) ?_
    exact (k_429 c_425) H locs ls (lv_sub hl [0, 1, 2, 3, 4, 5, 6] rfl) hP hD hS
set_option maxHeartbeats 1000000 in
set_option maxRecDepth 100000 in
theorem k_La_lawL_447 {C : CT} {b_ L_ : Nat} {xs : Nat → Int32} (X : cL C "QuestionTextLaw" b_La_law 7 (some .boolean) b_ L_ xs) (Post : State → Prop) (x4 : Int32) (x5 : Int32) (x6 : Int32) (f_q : FT) (r_q : Nat → Nat → Option Nat) (c_q : Nat) (f_t : FT) (g_t : GT) (r_r : Nat → Nat → Option Nat) (f_c : FT) (g_c : GT) (f_m : FT) (g_m : GT) (P : va_W) (ou : Nat) (of : Nat → Int64) (MM : Nat) (SS : Nat) (c0 s0 : Nat)
    (k_530 : zc_La_lawL C Post c0 s0 530 [(0, .ref b_), (1, .ref (ad C.1 24)), (2, .ref (ad C.1 0)), (3, .ref ou), (4, .int x4)] [] ([(ou, .inl (C.1.2.2.2.1 1, 1, .inr (.inl of)))] ++ (s_q C.1.2.2.2.1 C.1.2.2.2.2 f_q r_q c_q ++ (s_t C.1.2.2.2.1 C.1.2.2.2.2 f_t g_t ++ (s_r C.1.2.2.2.1 C.1.2.2.2.2 r_r ++ (s_c C.1.2.2.2.1 C.1.2.2.2.2 f_c g_c ++ (s_m C.1.2.2.2.1 C.1.2.2.2.2 f_m g_m ++ (P)))))))) : zc_La_lawL C Post c0 s0 447 [(0, .ref b_), (1, .ref (ad C.1 24)), (2, .ref (ad C.1 0)), (3, .ref ou), (4, .int x4), (5, .int x5), (6, .int x6)] [] ([(ou, .inl (C.1.2.2.2.1 1, 1, .inr (.inl of)))] ++ (s_q C.1.2.2.2.1 C.1.2.2.2.2 f_q r_q c_q ++ (s_t C.1.2.2.2.1 C.1.2.2.2.2 f_t g_t ++ (s_r C.1.2.2.2.1 C.1.2.2.2.2 r_r ++ (s_c C.1.2.2.2.1 C.1.2.2.2.2 f_c g_c ++ (s_m C.1.2.2.2.1 C.1.2.2.2.2 f_m g_m ++ (P))))))) := by
  obtain ⟨⟨l, dC, dI, k, a⟩, p, e, s, m, args, below, meth, c, A⟩ := C
  obtain ⟨⟨hx, hb, hr, htz, hown, hlocks, hml, hE, hK, hA⟩, hX, hbl, hbA, hlt⟩ := X
  intro H locs ls hl hP hD hS
  have hl : lv_has ls 7 [(0, .ref b_), (1, .ref (a 24)), (2, .ref (a 0)), (3, .ref ou), (4, .int x4), (5, .int x5), (6, .int x6)] := hl
  have hP : va_P (dC, dI) classes ([(ou, .inl (k 1, 1, .inr (.inl of)))] ++ (s_q k a f_q r_q c_q ++ (s_t k a f_t g_t ++ (s_r k a r_r ++ (s_c k a f_c g_c ++ (s_m k a f_m g_m ++ (P))))))) H := hP
  have hD : va_D A ([(ou, .inl (k 1, 1, .inr (.inl of)))] ++ (s_q k a f_q r_q c_q ++ (s_t k a f_t g_t ++ (s_r k a r_r ++ (s_c k a f_c g_c ++ (s_m k a f_m g_m ++ (P))))))) := hD
  show W p l e room_1 s m args below meth c H locs c0 s0 _ (F0 m 447 ls [])
  refine lv_goto (tgt := 530) hx hb d_La_law_447 (by decide) ?_
  exact k_530 H locs ls (lv_sub hl [0, 1, 2, 3, 4] rfl) hP hD hS
set_option maxHeartbeats 1000000 in
set_option maxRecDepth 100000 in
theorem k_La_lawL_461 {C : CT} {b_ L_ : Nat} {xs : Nat → Int32} (X : cL C "QuestionTextLaw" b_La_law 7 (some .boolean) b_ L_ xs) (Post : State → Prop) {P_470 : Int32 → va_W → Prop} (x4 : Int32) (y0 : Int32) (f_q : FT) (r_q : Nat → Nat → Option Nat) (c_q : Nat) (f_t : FT) (g_t : GT) (r_r : Nat → Nat → Option Nat) (f_c : FT) (g_c : GT) (f_m : FT) (g_m : GT) (P : va_W) (ou : Nat) (of : Nat → Int64) (MM : Nat) (SS : Nat) (c0 s0 : Nat)
    (h_469 : vp_in (x4 + 1) L_)
    (b_470 : c0 ≤ 601024 ∧ s0 ≤ 7293034)
    (m_470 : uI C.1 y_Mo_endless (Cond.code y_Mo_endless b_Mo_endless 5 (some .int)) 2 0 0 [.ref (ad C.1 0), .int (xs (x4 + 1 : Int32).toNatClampNeg)] (s_m C.1.2.2.2.1 C.1.2.2.2.2 f_m g_m) P_470)
    (k_470 : ∀ (r : Int32) (u : va_W), P_470 r u → zc_La_lawL C Post c0 s0 473 [(0, .ref b_), (1, .ref (ad C.1 24)), (2, .ref (ad C.1 0)), (3, .ref ou), (4, .int x4), (5, .int y0)] [.int r] ([(ou, .inl (C.1.2.2.2.1 1, 1, .inr (.inl of)))] ++ (s_q C.1.2.2.2.1 C.1.2.2.2.2 f_q r_q c_q ++ (s_t C.1.2.2.2.1 C.1.2.2.2.2 f_t g_t ++ (s_r C.1.2.2.2.1 C.1.2.2.2.2 r_r ++ (s_c C.1.2.2.2.1 C.1.2.2.2.2 f_c g_c)))) ++ (u ++ (P)))) : zc_La_lawL C Post c0 s0 461 [(0, .ref b_), (1, .ref (ad C.1 24)), (2, .ref (ad C.1 0)), (3, .ref ou), (4, .int x4)] [.int y0] ([(ou, .inl (C.1.2.2.2.1 1, 1, .inr (.inl of)))] ++ (s_q C.1.2.2.2.1 C.1.2.2.2.2 f_q r_q c_q ++ (s_t C.1.2.2.2.1 C.1.2.2.2.2 f_t g_t ++ (s_r C.1.2.2.2.1 C.1.2.2.2.2 r_r ++ (s_c C.1.2.2.2.1 C.1.2.2.2.2 f_c g_c ++ (s_m C.1.2.2.2.1 C.1.2.2.2.2 f_m g_m ++ (P))))))) := by
  obtain ⟨⟨l, dC, dI, k, a⟩, p, e, s, m, args, below, meth, c, A⟩ := C
  obtain ⟨⟨hx, hb, hr, htz, hown, hlocks, hml, hE, hK, hA⟩, hX, hbl, hbA, hlt⟩ := X
  intro H locs ls hl hP hD hS
  have hl : lv_has ls 7 [(0, .ref b_), (1, .ref (a 24)), (2, .ref (a 0)), (3, .ref ou), (4, .int x4)] := hl
  have hP : va_P (dC, dI) classes ([(ou, .inl (k 1, 1, .inr (.inl of)))] ++ (s_q k a f_q r_q c_q ++ (s_t k a f_t g_t ++ (s_r k a r_r ++ (s_c k a f_c g_c ++ (s_m k a f_m g_m ++ (P))))))) H := hP
  have hD : va_D A ([(ou, .inl (k 1, 1, .inr (.inl of)))] ++ (s_q k a f_q r_q c_q ++ (s_t k a f_t g_t ++ (s_r k a r_r ++ (s_c k a f_c g_c ++ (s_m k a f_m g_m ++ (P))))))) := hD
  show W p l e room_1 s m args below meth c H locs c0 s0 _ (F0 m 461 ls [.int y0])
  refine lv_istore (lv' := [(5, .int y0), (0, .ref b_), (1, .ref (a 24)), (2, .ref (a 0)), (3, .ref ou), (4, .int x4)]) hx hb d_La_law_461 hl (by decide) rfl (fun ls hl => ?_)
  refine lv_aload_n hx hb d_La_law_463 rfl (lv_at hl 3 rfl) ?_
  refine lv_aload_n hx hb d_La_law_464 rfl (lv_at hl 1 rfl) ?_
  refine lv_iload hx hb d_La_law_465 (lv_at hl 5 rfl) ?_
  refine lv_iconst (v := 1) hx hb d_La_law_467 (by decide) ?_
  refine lv_iadd hx hb d_La_law_468 ?_
  refine va_sld hx hb hX hbl hbA hS (i := x4 + 1) h_469 d_La_law_469 ?_
  have hPf : va_P (dC, dI) classes (([(ou, .inl (k 1, 1, .inr (.inl of)))] ++ (s_q k a f_q r_q c_q ++ (s_t k a f_t g_t ++ (s_r k a r_r ++ (s_c k a f_c g_c))))) ++ ((s_m k a f_m g_m) ++ (P))) H := zpP (by (try simp only [List.append_assoc]); exact List.Perm.refl _) hP
  have hDf : va_D A (([(ou, .inl (k 1, 1, .inr (.inl of)))] ++ (s_q k a f_q r_q c_q ++ (s_t k a f_t g_t ++ (s_r k a r_r ++ (s_c k a f_c g_c))))) ++ ((s_m k a f_m g_m) ++ (P))) := zpD (by (try simp only [List.append_assoc]); exact List.Perm.refl _) hD
  have hFc := zfree hDf hS hA
  refine va_calli (va_runV (As := [.int (xs (x4 + 1 : Int32).toNatClampNeg)]) (rest := []) ⟨hx, hb, hml, hown, htz⟩ (m_470 H.size) (cwV 1 htz (z_gV (fun _ h => h) km_La_107 in_Mo_endless se_Mo_endless ini_Mo m_Mo_endless) rfl rfl rfl (by decide +kernel) ⟨(Nat.le_of_ble_eq_true rfl), (Nat.le_of_ble_eq_true rfl)⟩) ⟨z_blind, va_recv hK hP (ci := 4) (q0 := 10) rfl rfl, fun U hU hW => ⟨rfl, by rw [hU], hE.call hS hFc hU hW, by rw [hU]; exact (zPc hPf), va_K.moved hW.alike hK, (zDc hDf)⟩⟩ rfl rfl hl.1 rfl (lv_room (Nat.le_of_ble_eq_true rfl)) d_La_law_470 b_470) hS (fun q _ h => hFc q h) hFc (fun r u t H1 locs ht hvm hw hB hz1 hk1 hS => ?_)
  obtain ⟨hP1, hK1, hD1⟩ := hB
  rw [ht] at hP1
  obtain ⟨hP, hD⟩ := zf hPf hDf hk1 hFc hP1 hD1
  exact k_470 r _ hw H1 locs ls (lv_sub hl [1, 2, 3, 4, 5, 0] rfl) hP hD hS
set_option maxHeartbeats 1000000 in
set_option maxRecDepth 100000 in
theorem k_La_lawL_473 {C : CT} {b_ L_ : Nat} {xs : Nat → Int32} (X : cL C "QuestionTextLaw" b_La_law 7 (some .boolean) b_ L_ xs) (Post : State → Prop) (x4 : Int32) (x5 : Int32) (y0 : Int32) (f_q : FT) (r_q : Nat → Nat → Option Nat) (c_q : Nat) (f_t : FT) (g_t : GT) (r_r : Nat → Nat → Option Nat) (f_c : FT) (g_c : GT) (f_m : FT) (g_m : GT) (P : va_W) (ou : Nat) (of : Nat → Int64) (MM : Nat) (SS : Nat) (c0 s0 : Nat)
    (k_530 : zc_La_lawL C Post c0 s0 530 [(0, .ref b_), (1, .ref (ad C.1 24)), (2, .ref (ad C.1 0)), (3, .ref ou), (4, .int x4)] [] ([(ou, .inl (C.1.2.2.2.1 1, 1, .inr (.inl of)))] ++ (s_q C.1.2.2.2.1 C.1.2.2.2.2 f_q r_q c_q ++ (s_t C.1.2.2.2.1 C.1.2.2.2.2 f_t g_t ++ (s_r C.1.2.2.2.1 C.1.2.2.2.2 r_r ++ (s_c C.1.2.2.2.1 C.1.2.2.2.2 f_c g_c ++ (s_m C.1.2.2.2.1 C.1.2.2.2.2 f_m g_m ++ (P)))))))) : zc_La_lawL C Post c0 s0 473 [(0, .ref b_), (1, .ref (ad C.1 24)), (2, .ref (ad C.1 0)), (3, .ref ou), (4, .int x4), (5, .int x5)] [.int y0] ([(ou, .inl (C.1.2.2.2.1 1, 1, .inr (.inl of)))] ++ (s_q C.1.2.2.2.1 C.1.2.2.2.2 f_q r_q c_q ++ (s_t C.1.2.2.2.1 C.1.2.2.2.2 f_t g_t ++ (s_r C.1.2.2.2.1 C.1.2.2.2.2 r_r ++ (s_c C.1.2.2.2.1 C.1.2.2.2.2 f_c g_c ++ (s_m C.1.2.2.2.1 C.1.2.2.2.2 f_m g_m ++ (P))))))) := by
  obtain ⟨⟨l, dC, dI, k, a⟩, p, e, s, m, args, below, meth, c, A⟩ := C
  obtain ⟨⟨hx, hb, hr, htz, hown, hlocks, hml, hE, hK, hA⟩, hX, hbl, hbA, hlt⟩ := X
  intro H locs ls hl hP hD hS
  have hl : lv_has ls 7 [(0, .ref b_), (1, .ref (a 24)), (2, .ref (a 0)), (3, .ref ou), (4, .int x4), (5, .int x5)] := hl
  have hP : va_P (dC, dI) classes ([(ou, .inl (k 1, 1, .inr (.inl of)))] ++ (s_q k a f_q r_q c_q ++ (s_t k a f_t g_t ++ (s_r k a r_r ++ (s_c k a f_c g_c ++ (s_m k a f_m g_m ++ (P))))))) H := hP
  have hD : va_D A ([(ou, .inl (k 1, 1, .inr (.inl of)))] ++ (s_q k a f_q r_q c_q ++ (s_t k a f_t g_t ++ (s_r k a r_r ++ (s_c k a f_c g_c ++ (s_m k a f_m g_m ++ (P))))))) := hD
  show W p l e room_1 s m args below meth c H locs c0 s0 _ (F0 m 473 ls [.int y0])
  refine lv_istore (lv' := [(6, .int y0), (0, .ref b_), (1, .ref (a 24)), (2, .ref (a 0)), (3, .ref ou), (4, .int x4), (5, .int x5)]) hx hb d_La_law_473 hl (by decide) rfl (fun ls hl => ?_)
  refine lv_goto (tgt := 530) hx hb d_La_law_475 (by decide) ?_
  exact k_530 H locs ls (lv_sub hl [1, 2, 3, 4, 5] rfl) hP hD hS
set_option maxHeartbeats 1000000 in
set_option maxRecDepth 100000 in
theorem k_La_lawL_501 {C : CT} {b_ L_ : Nat} {xs : Nat → Int32} (X : cL C "QuestionTextLaw" b_La_law 7 (some .boolean) b_ L_ xs) (Post : State → Prop) {P_522 : Int32 → va_W → Prop} (x4 : Int32) (y0 : Int32) (f_q : FT) (r_q : Nat → Nat → Option Nat) (c_q : Nat) (f_t : FT) (g_t : GT) (r_r : Nat → Nat → Option Nat) (f_c : FT) (g_c : GT) (f_m : FT) (g_m : GT) (P : va_W) (ou : Nat) (of : Nat → Int64) (MM : Nat) (SS : Nat) (c0 s0 : Nat)
    (h_509 : vp_in (x4 + 1) L_)
    (h_515 : vp_in (x4 + 2) L_)
    (h_521 : vp_in (x4 + 3) L_)
    (b_522 : c0 ≤ 601024 ∧ s0 ≤ 7293034)
    (m_522 : uI C.1 y_Mo_word (Cond.code y_Mo_word b_Mo_word 5 (some .int)) 1 0 0 [.ref (ad C.1 0), .int (xs (x4 + 1 : Int32).toNatClampNeg), .int (xs (x4 + 2 : Int32).toNatClampNeg), .int (xs (x4 + 3 : Int32).toNatClampNeg)] (s_m C.1.2.2.2.1 C.1.2.2.2.2 f_m g_m) P_522)
    (k_522 : ∀ (r : Int32) (u : va_W), P_522 r u → zc_La_lawL C Post c0 s0 525 [(0, .ref b_), (1, .ref (ad C.1 24)), (2, .ref (ad C.1 0)), (3, .ref ou), (4, .int x4), (5, .int y0)] [.int r] ([(ou, .inl (C.1.2.2.2.1 1, 1, .inr (.inl of)))] ++ (s_q C.1.2.2.2.1 C.1.2.2.2.2 f_q r_q c_q ++ (s_t C.1.2.2.2.1 C.1.2.2.2.2 f_t g_t ++ (s_r C.1.2.2.2.1 C.1.2.2.2.2 r_r ++ (s_c C.1.2.2.2.1 C.1.2.2.2.2 f_c g_c)))) ++ (u ++ (P)))) : zc_La_lawL C Post c0 s0 501 [(0, .ref b_), (1, .ref (ad C.1 24)), (2, .ref (ad C.1 0)), (3, .ref ou), (4, .int x4)] [.int y0] ([(ou, .inl (C.1.2.2.2.1 1, 1, .inr (.inl of)))] ++ (s_q C.1.2.2.2.1 C.1.2.2.2.2 f_q r_q c_q ++ (s_t C.1.2.2.2.1 C.1.2.2.2.2 f_t g_t ++ (s_r C.1.2.2.2.1 C.1.2.2.2.2 r_r ++ (s_c C.1.2.2.2.1 C.1.2.2.2.2 f_c g_c ++ (s_m C.1.2.2.2.1 C.1.2.2.2.2 f_m g_m ++ (P))))))) := by
  obtain ⟨⟨l, dC, dI, k, a⟩, p, e, s, m, args, below, meth, c, A⟩ := C
  obtain ⟨⟨hx, hb, hr, htz, hown, hlocks, hml, hE, hK, hA⟩, hX, hbl, hbA, hlt⟩ := X
  intro H locs ls hl hP hD hS
  have hl : lv_has ls 7 [(0, .ref b_), (1, .ref (a 24)), (2, .ref (a 0)), (3, .ref ou), (4, .int x4)] := hl
  have hP : va_P (dC, dI) classes ([(ou, .inl (k 1, 1, .inr (.inl of)))] ++ (s_q k a f_q r_q c_q ++ (s_t k a f_t g_t ++ (s_r k a r_r ++ (s_c k a f_c g_c ++ (s_m k a f_m g_m ++ (P))))))) H := hP
  have hD : va_D A ([(ou, .inl (k 1, 1, .inr (.inl of)))] ++ (s_q k a f_q r_q c_q ++ (s_t k a f_t g_t ++ (s_r k a r_r ++ (s_c k a f_c g_c ++ (s_m k a f_m g_m ++ (P))))))) := hD
  show W p l e room_1 s m args below meth c H locs c0 s0 _ (F0 m 501 ls [.int y0])
  refine lv_istore (lv' := [(5, .int y0), (0, .ref b_), (1, .ref (a 24)), (2, .ref (a 0)), (3, .ref ou), (4, .int x4)]) hx hb d_La_law_501 hl (by decide) rfl (fun ls hl => ?_)
  refine lv_aload_n hx hb d_La_law_503 rfl (lv_at hl 3 rfl) ?_
  refine lv_aload_n hx hb d_La_law_504 rfl (lv_at hl 1 rfl) ?_
  refine lv_iload hx hb d_La_law_505 (lv_at hl 5 rfl) ?_
  refine lv_iconst (v := 1) hx hb d_La_law_507 (by decide) ?_
  refine lv_iadd hx hb d_La_law_508 ?_
  refine va_sld hx hb hX hbl hbA hS (i := x4 + 1) h_509 d_La_law_509 ?_
  refine lv_aload_n hx hb d_La_law_510 rfl (lv_at hl 1 rfl) ?_
  refine lv_iload hx hb d_La_law_511 (lv_at hl 5 rfl) ?_
  refine lv_iconst (v := 2) hx hb d_La_law_513 (by decide) ?_
  refine lv_iadd hx hb d_La_law_514 ?_
  refine va_sld hx hb hX hbl hbA hS (i := x4 + 2) h_515 d_La_law_515 ?_
  refine lv_aload_n hx hb d_La_law_516 rfl (lv_at hl 1 rfl) ?_
  refine lv_iload hx hb d_La_law_517 (lv_at hl 5 rfl) ?_
  refine lv_iconst (v := 3) hx hb d_La_law_519 (by decide) ?_
  refine lv_iadd hx hb d_La_law_520 ?_
  refine va_sld hx hb hX hbl hbA hS (i := x4 + 3) h_521 d_La_law_521 ?_
  have hPf : va_P (dC, dI) classes (([(ou, .inl (k 1, 1, .inr (.inl of)))] ++ (s_q k a f_q r_q c_q ++ (s_t k a f_t g_t ++ (s_r k a r_r ++ (s_c k a f_c g_c))))) ++ ((s_m k a f_m g_m) ++ (P))) H := zpP (by (try simp only [List.append_assoc]); exact List.Perm.refl _) hP
  have hDf : va_D A (([(ou, .inl (k 1, 1, .inr (.inl of)))] ++ (s_q k a f_q r_q c_q ++ (s_t k a f_t g_t ++ (s_r k a r_r ++ (s_c k a f_c g_c))))) ++ ((s_m k a f_m g_m) ++ (P))) := zpD (by (try simp only [List.append_assoc]); exact List.Perm.refl _) hD
  have hFc := zfree hDf hS hA
  refine va_calli (va_runV (As := [.int (xs (x4 + 1 : Int32).toNatClampNeg), .int (xs (x4 + 2 : Int32).toNatClampNeg), .int (xs (x4 + 3 : Int32).toNatClampNeg)]) (rest := []) ⟨hx, hb, hml, hown, htz⟩ (m_522 H.size) (cwV 3 htz (z_gV (fun _ h => h) km_La_111 in_Mo_word se_Mo_word ini_Mo m_Mo_word) rfl rfl rfl (by decide +kernel) ⟨(Nat.le_of_ble_eq_true rfl), (Nat.le_of_ble_eq_true rfl)⟩) ⟨z_blind, va_recv hK hP (ci := 4) (q0 := 10) rfl rfl, fun U hU hW => ⟨rfl, by rw [hU], hE.call hS hFc hU hW, by rw [hU]; exact (zPc hPf), va_K.moved hW.alike hK, (zDc hDf)⟩⟩ rfl rfl hl.1 rfl (lv_room (Nat.le_of_ble_eq_true rfl)) d_La_law_522 b_522) hS (fun q _ h => hFc q h) hFc (fun r u t H1 locs ht hvm hw hB hz1 hk1 hS => ?_)
  obtain ⟨hP1, hK1, hD1⟩ := hB
  rw [ht] at hP1
  obtain ⟨hP, hD⟩ := zf hPf hDf hk1 hFc hP1 hD1
  exact k_522 r _ hw H1 locs ls (lv_sub hl [1, 2, 3, 4, 5, 0] rfl) hP hD hS
set_option maxHeartbeats 1000000 in
set_option maxRecDepth 100000 in
theorem k_La_lawL_525 {C : CT} {b_ L_ : Nat} {xs : Nat → Int32} (X : cL C "QuestionTextLaw" b_La_law 7 (some .boolean) b_ L_ xs) (Post : State → Prop) (x4 : Int32) (x5 : Int32) (y0 : Int32) (f_q : FT) (r_q : Nat → Nat → Option Nat) (c_q : Nat) (f_t : FT) (g_t : GT) (r_r : Nat → Nat → Option Nat) (f_c : FT) (g_c : GT) (f_m : FT) (g_m : GT) (P : va_W) (ou : Nat) (of : Nat → Int64) (MM : Nat) (SS : Nat) (c0 s0 : Nat)
    (k_530 : zc_La_lawL C Post c0 s0 530 [(0, .ref b_), (1, .ref (ad C.1 24)), (2, .ref (ad C.1 0)), (3, .ref ou), (4, .int x4)] [] ([(ou, .inl (C.1.2.2.2.1 1, 1, .inr (.inl of)))] ++ (s_q C.1.2.2.2.1 C.1.2.2.2.2 f_q r_q c_q ++ (s_t C.1.2.2.2.1 C.1.2.2.2.2 f_t g_t ++ (s_r C.1.2.2.2.1 C.1.2.2.2.2 r_r ++ (s_c C.1.2.2.2.1 C.1.2.2.2.2 f_c g_c ++ (s_m C.1.2.2.2.1 C.1.2.2.2.2 f_m g_m ++ (P)))))))) : zc_La_lawL C Post c0 s0 525 [(0, .ref b_), (1, .ref (ad C.1 24)), (2, .ref (ad C.1 0)), (3, .ref ou), (4, .int x4), (5, .int x5)] [.int y0] ([(ou, .inl (C.1.2.2.2.1 1, 1, .inr (.inl of)))] ++ (s_q C.1.2.2.2.1 C.1.2.2.2.2 f_q r_q c_q ++ (s_t C.1.2.2.2.1 C.1.2.2.2.2 f_t g_t ++ (s_r C.1.2.2.2.1 C.1.2.2.2.2 r_r ++ (s_c C.1.2.2.2.1 C.1.2.2.2.2 f_c g_c ++ (s_m C.1.2.2.2.1 C.1.2.2.2.2 f_m g_m ++ (P))))))) := by
  obtain ⟨⟨l, dC, dI, k, a⟩, p, e, s, m, args, below, meth, c, A⟩ := C
  obtain ⟨⟨hx, hb, hr, htz, hown, hlocks, hml, hE, hK, hA⟩, hX, hbl, hbA, hlt⟩ := X
  intro H locs ls hl hP hD hS
  have hl : lv_has ls 7 [(0, .ref b_), (1, .ref (a 24)), (2, .ref (a 0)), (3, .ref ou), (4, .int x4), (5, .int x5)] := hl
  have hP : va_P (dC, dI) classes ([(ou, .inl (k 1, 1, .inr (.inl of)))] ++ (s_q k a f_q r_q c_q ++ (s_t k a f_t g_t ++ (s_r k a r_r ++ (s_c k a f_c g_c ++ (s_m k a f_m g_m ++ (P))))))) H := hP
  have hD : va_D A ([(ou, .inl (k 1, 1, .inr (.inl of)))] ++ (s_q k a f_q r_q c_q ++ (s_t k a f_t g_t ++ (s_r k a r_r ++ (s_c k a f_c g_c ++ (s_m k a f_m g_m ++ (P))))))) := hD
  show W p l e room_1 s m args below meth c H locs c0 s0 _ (F0 m 525 ls [.int y0])
  refine lv_istore (lv' := [(6, .int y0), (0, .ref b_), (1, .ref (a 24)), (2, .ref (a 0)), (3, .ref ou), (4, .int x4), (5, .int x5)]) hx hb d_La_law_525 hl (by decide) rfl (fun ls hl => ?_)
  refine lv_goto (tgt := 530) hx hb d_La_law_527 (by decide) ?_
  exact k_530 H locs ls (lv_sub hl [1, 2, 3, 4, 5] rfl) hP hD hS
set_option maxHeartbeats 1000000 in
set_option maxRecDepth 100000 in
theorem k_La_lawL_530 {C : CT} {b_ L_ : Nat} {xs : Nat → Int32} (X : cL C "QuestionTextLaw" b_La_law 7 (some .boolean) b_ L_ xs) (Post : State → Prop) (x4 : Int32) (f_q : FT) (r_q : Nat → Nat → Option Nat) (c_q : Nat) (f_t : FT) (g_t : GT) (r_r : Nat → Nat → Option Nat) (f_c : FT) (g_c : GT) (f_m : FT) (g_m : GT) (P : va_W) (ou : Nat) (of : Nat → Int64) (MM : Nat) (SS : Nat) (c0 s0 : Nat)
    (k_23 : zc_La_lawL C Post c0 s0 23 [(0, .ref b_), (1, .ref (ad C.1 24)), (2, .ref (ad C.1 0)), (3, .ref ou), (4, .int (x4 + 4))] [] ([(ou, .inl (C.1.2.2.2.1 1, 1, .inr (.inl of)))] ++ (s_q C.1.2.2.2.1 C.1.2.2.2.2 f_q r_q c_q ++ (s_t C.1.2.2.2.1 C.1.2.2.2.2 f_t g_t ++ (s_r C.1.2.2.2.1 C.1.2.2.2.2 r_r ++ (s_c C.1.2.2.2.1 C.1.2.2.2.2 f_c g_c ++ (s_m C.1.2.2.2.1 C.1.2.2.2.2 f_m g_m ++ (P)))))))) : zc_La_lawL C Post c0 s0 530 [(0, .ref b_), (1, .ref (ad C.1 24)), (2, .ref (ad C.1 0)), (3, .ref ou), (4, .int x4)] [] ([(ou, .inl (C.1.2.2.2.1 1, 1, .inr (.inl of)))] ++ (s_q C.1.2.2.2.1 C.1.2.2.2.2 f_q r_q c_q ++ (s_t C.1.2.2.2.1 C.1.2.2.2.2 f_t g_t ++ (s_r C.1.2.2.2.1 C.1.2.2.2.2 r_r ++ (s_c C.1.2.2.2.1 C.1.2.2.2.2 f_c g_c ++ (s_m C.1.2.2.2.1 C.1.2.2.2.2 f_m g_m ++ (P))))))) := by
  obtain ⟨⟨l, dC, dI, k, a⟩, p, e, s, m, args, below, meth, c, A⟩ := C
  obtain ⟨⟨hx, hb, hr, htz, hown, hlocks, hml, hE, hK, hA⟩, hX, hbl, hbA, hlt⟩ := X
  intro H locs ls hl hP hD hS
  have hl : lv_has ls 7 [(0, .ref b_), (1, .ref (a 24)), (2, .ref (a 0)), (3, .ref ou), (4, .int x4)] := hl
  have hP : va_P (dC, dI) classes ([(ou, .inl (k 1, 1, .inr (.inl of)))] ++ (s_q k a f_q r_q c_q ++ (s_t k a f_t g_t ++ (s_r k a r_r ++ (s_c k a f_c g_c ++ (s_m k a f_m g_m ++ (P))))))) H := hP
  have hD : va_D A ([(ou, .inl (k 1, 1, .inr (.inl of)))] ++ (s_q k a f_q r_q c_q ++ (s_t k a f_t g_t ++ (s_r k a r_r ++ (s_c k a f_c g_c ++ (s_m k a f_m g_m ++ (P))))))) := hD
  show W p l e room_1 s m args below meth c H locs c0 s0 _ (F0 m 530 ls [])
  refine lv_iinc (v := x4 + 4) (lv' := [(4, .int (x4 + 4)), (0, .ref b_), (1, .ref (a 24)), (2, .ref (a 0)), (3, .ref ou)]) hx hb d_La_law_530 hl (k := 4) rfl (rfl) (by decide) rfl (fun ls hl => ?_)
  refine lv_goto (tgt := 23) hx hb d_La_law_533 (by decide) ?_
  exact k_23 H locs ls (lv_sub hl [1, 2, 3, 4, 0] rfl) hP hD hS
