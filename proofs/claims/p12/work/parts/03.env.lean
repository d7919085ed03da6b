-- the environment that every contract of mine asks: one list of words for all methods, what lies beside them, the two statics of Throwable
theorem z_mem {w : Cond} (i : Nat) (h : lw_tbl[i]? = some w) : w ∈ lw_tbl := List.mem_of_getElem? h
def z_T : List Cond := lw_tbl.filter goodWord
theorem z_in {w : Cond} (h : w ∈ lw_tbl) (hg : goodWord w = true) : w ∈ z_T := List.mem_filter.mpr ⟨h, hg⟩
theorem z_lw {w : Cond} (h : w ∈ z_T) : w ∈ lw_tbl := (List.mem_filter.mp h).1
theorem z_gi {big ws : List Cond} (hb : ∀ w ∈ z_T, w ∈ big) (h : ∀ w ∈ ws, w ∈ z_T) : GoodIn big ws := fun w hw => ⟨hb w (h w hw), good_of_word (List.mem_filter.mp (h w hw)).2⟩
theorem z_cons {c0 : Cond} : ∀ w ∈ z_T, w ∈ c0 :: z_T := fun w h => List.mem_cons_of_mem _ h
theorem z_all {ws : List Cond} {c1 : Cond} (h : c1 ∈ z_T) : ∀ w ∈ c1 :: z_T, w ∈ z_T := fun w hw => (List.mem_cons.mp hw).elim (fun e => by rw [e]; exact h) id
theorem z_gV {big : List Cond} {own C : String} {index : Nat} {y : MethodName} {c1 : Cond} (hb : ∀ w ∈ z_T, w ∈ big) (h1 : Cond.methodLink own index y ∈ z_T) (h2 : Cond.instanceMethod y ∈ z_T) (h3 : Cond.selects C y y ∈ z_T) (h4 : Cond.initialized C ∈ z_T) (h5 : c1 ∈ z_T) : GoodIn big (wsV own index C y (c1 :: z_T)) := by
  refine z_gi hb fun w hw => ?_
  unfold wsV at hw
  simp only [List.cons_append, List.nil_append, List.mem_cons] at hw
  rcases hw with rfl | rfl | rfl | rfl | rfl | h
  · exact h1
  · exact h2
  · exact h3
  · exact h4
  · exact h5
  · exact h
theorem z_gS {big : List Cond} {own : String} {index : Nat} {y : MethodName} {c1 : Cond} (hb : ∀ w ∈ z_T, w ∈ big) (h1 : Cond.methodLink own index y ∈ z_T) (h2 : Cond.static y ∈ z_T) (h4 : Cond.initialized y.cls ∈ z_T) (h5 : c1 ∈ z_T) : GoodIn big (va_wsS own index y (c1 :: z_T)) := by
  refine z_gi hb fun w hw => ?_
  unfold va_wsS at hw
  simp only [List.cons_append, List.nil_append, List.mem_cons] at hw
  rcases hw with rfl | rfl | rfl | rfl | h
  · exact h1
  · exact h2
  · exact h4
  · exact h5
  · exact h
theorem z_gI {big : List Cond} {c1 : Cond} (hb : ∀ w ∈ z_T, w ∈ big) (h5 : c1 ∈ z_T) : GoodIn big (c1 :: z_T) := z_gi hb fun w hw => (List.mem_cons.mp hw).elim (fun e => by rw [e]; exact h5) id
-- words of the tables that stay, but not by the kit's list
def z_isN : Cond → Bool
  | .fieldLinkNest .. => true
  | .methodLinkNest .. => true
  | .castable .. => true
  | .declares _ => true
  | _ => false
def z_NW : List Cond := lw_tbl.filter z_isN
theorem z_inN {w : Cond} (h : w ∈ lw_tbl) (hg : z_isN w = true) : w ∈ z_NW := List.mem_filter.mpr ⟨h, hg⟩
theorem z_warm {w : Cond} {s U : State} (hg : z_isN w = true) (hW : s.WarmedH U.vm) (h : va_Nw w s) : va_Nw w U := by
  cases w <;> first | (cases hg; done) | exact va_Nw.warmF hW h | exact va_Nw.warmM hW h | exact va_Nw.warmC hW h | exact va_Nw.warmD hW h
theorem z_tab {w : Cond} (hg : z_isN w = true) : w.onTables = true := by
  cases w <;> first | (cases hg; done) | rfl
def z_AO : List String := ["QuestionText$Question", "QuestionText$Kind", "QuestionText$Edition", "java/lang/Object"]
-- the String constants: the class, its entry, the text
def z_ST : List (String × Nat × String) := [("QuestionText", 43, "1 to 8 bytes at once"), ("QuestionText", 53, "a text has at most 400 bytes"), ("QuestionText$TextReader", 131, "wrong here"), ("java/util/Arrays", 337, " > "), ("QuestionText", 67, "the text is wrong"), ("QuestionText", 69, "there are 8 editions"), ("QuestionText", 91, "no such edition"), ("QuestionText", 97, "no such kind in the edition"), ("QuestionText", 121, "no question is asked"), ("QuestionText", 129, "not an answer to this question"), ("QuestionText", 143, "40 questions were asked"), ("QuestionText", 153, "there is no call"), ("QuestionText", 159, "below 0"), ("QuestionText", 178, "no such question, language or byte")]
-- the one empty array of ArrayList: its address is k 7
def z_FW : List (MethodName × MethodName) := [(⟨"java/util/List", "add", "(Ljava/lang/Object;)Z"⟩, ⟨"java/util/ArrayList", "add", "(Ljava/lang/Object;)Z"⟩), (⟨"java/util/List", "size", "()I"⟩, ⟨"java/util/ArrayList", "size", "()I"⟩), (⟨"java/util/List", "get", "(I)Ljava/lang/Object;"⟩, ⟨"java/util/ArrayList", "get", "(I)Ljava/lang/Object;"⟩)]
theorem z_FWok : ∀ q ∈ z_FW, q.1.cls ≠ "java/lang/invoke/MethodHandle" ∧ q.1.cls ≠ "java/lang/invoke/VarHandle" := by decide +kernel
def z_L (t : Nat) (A : Nat → Prop) (U : State) : Prop := (∀ q ∈ z_FW, va_Fw "java/util/ArrayList" q.1 q.2 U) ∧ va_Z "java/util/ArrayList" "DEFAULTCAPACITY_EMPTY_ELEMENTDATA" "[Ljava/lang/Object;" (.ref t) A U U.heap ∧ va_T (.object "java/lang/Object") t 0 (fun _ => .null) A U U.heap
def z_E (k : Nat → ClassId) (A : Nat → Prop) (U : State) : Prop := z_L (k 7) A U ∧ (∀ w ∈ z_NW, va_Nw w U) ∧ (∀ C ∈ z_AO, va_AO C U) ∧ (∀ q ∈ z_ST, ∃ a : Nat, vk_R q.1 q.2.1 q.2.2 a U) ∧
  vx_Zq Bundle.tN "UNASSIGNED_STACK" Bundle.steD A U U.heap ∧ vx_Zq Bundle.tN "SUPPRESSED_SENTINEL" Bundle.listD A U U.heap ∧ va_Nc "java/lang/IllegalStateException" "java/lang/IllegalArgumentException" U
theorem z_E.blind {k : Nat → ClassId} {A : Nat → Prop} {U : State} {g : JFrame} {mk : MethodId} {a : Array Value} (h : z_E k A U) : z_E k A (U.calling g mk a) := by
  obtain ⟨h0, h1, h2, h3, h4, h5, h6⟩ := h
  refine ⟨⟨fun q hq => va_Fw.moved (u := U) (U := U.calling g mk a) (z_FWok q hq) (Vm.Alike.refl U.vm) (h0.1 q hq), va_Z.moved (u := U) (U := U.calling g mk a) (Vm.Alike.refl U.vm) h0.2.1, va_T.moved (u := U) (U := U.calling g mk a) (Vm.Alike.refl U.vm) h0.2.2⟩, fun w hw => va_Nw.same (u := U) (U := U.calling g mk a) (z_tab (List.mem_filter.mp hw).2) rfl (h1 w hw), fun C hC => va_AO.moved (u := U) (U := U.calling g mk a) (Vm.Alike.refl U.vm) (h2 C hC), fun q hq => ?_, vx_Zq.moved (u := U) (U := U.calling g mk a) (Vm.Alike.refl U.vm) h4, vx_Zq.moved (u := U) (U := U.calling g mk a) (Vm.Alike.refl U.vm) h5, va_Nc.moved (u := U) (U := U.calling g mk a) (Vm.Alike.refl U.vm) h6⟩
  obtain ⟨x, hx⟩ := h3 q hq
  exact ⟨x, vk_R.same rfl hx⟩
theorem z_E.call {k : Nat → ClassId} {A B : Nat → Prop} {s U : State} {H : Heap} {locs : List Loc} (h : z_E k A s) (hS : va_S A s.heap H locs) (hAB : ∀ q, B q → A q) (hU : U.heap = H) (hW : s.WarmedH U.vm) : z_E k B U := by
  obtain ⟨h0, h1, h2, h3, h4, h5, h6⟩ := h
  refine ⟨⟨fun q hq => va_Fw.moved (z_FWok q hq) hW.alike (h0.1 q hq), va_Z.narrow (va_Z.moved hW.alike (va_Z.kept h0.2.1 (fun a h1 h2 => by rw [hU]; exact hS.2.1 a h1 h2))) hAB, va_T.narrow (va_T.moved hW.alike (va_T.kept h0.2.2 (fun a h1 h2 => by rw [hU]; exact hS.2.1 a h1 h2))) hAB⟩, fun w hw => z_warm (List.mem_filter.mp hw).2 hW (h1 w hw), fun C hC => va_AO.moved hW.alike (h2 C hC), fun q hq => ?_, ?_, ?_, va_Nc.moved hW.alike h6⟩
  · obtain ⟨x, hx⟩ := h3 q hq
    exact ⟨x, vk_R.warm hW hx⟩
  · exact vx_Zq.narrow (vx_Zq.moved hW.alike (vx_Zq.kept h4 (fun a h1 h2 => by rw [hU]; exact hS.2.1 a h1 h2))) hAB
  · exact vx_Zq.narrow (vx_Zq.moved hW.alike (vx_Zq.kept h5 (fun a h1 h2 => by rw [hU]; exact hS.2.1 a h1 h2))) hAB
theorem z_E.sub {k : Nat → ClassId} {A B : Nat → Prop} {s : State} (h : z_E k A s) (hAB : ∀ q, B q → A q) : z_E k B s := ⟨⟨h.1.1, va_Z.narrow h.1.2.1 hAB, va_T.narrow h.1.2.2 hAB⟩, h.2.1, h.2.2.1, h.2.2.2.1, vx_Zq.narrow h.2.2.2.2.1 hAB, vx_Zq.narrow h.2.2.2.2.2.1 hAB, h.2.2.2.2.2.2⟩
-- array classes by their places
abbrev z_ty (k : Nat → ClassId) : List (ClassId × FieldType) := [(k 0, .int), (k 1, .long), (k 2, .boolean), (k 3, .object "QuestionText$Question"), (k 4, .object "QuestionText$Kind"), (k 5, .object "QuestionText$Edition"), (k 6, .object "java/lang/Object")]
section ZN
variable {p : Program} {l : Launch} {e : Env} {R : Room} {s : State} {m : MethodId} {args : Array Value} {below : List Frame} {meth : Method} {c : Code} {H : Heap} {locs : List Loc} {cells slots : Nat} {Q : State → Prop}
variable {cc : ByteArray} {pc : Nat} {ls : Array Slot} {rest : List Value} {D : va_G} {cl : List vw_C} {A : Nat → Prop} {tys : List (ClassId × FieldType)} {ws : va_W} {H0 : Heap}
theorem z_newa (hexec : p.tables.exec = Jvm.exec) (hb : c.code = cc) {atype : ArrayType} (harr : (Cond.arrayClass (newarray.typeOf atype)).before args s = true) {ty : FieldType} (hty : newarray.typeOf atype = ty) (hK : va_K D cl tys s) (hP : va_P D cl ws H) (hD : va_D A ws) (hS : va_S A H0 H locs) (hA : ∀ q, H0.size ≤ q → A q)
    (t0 : Nat) {cB : ClassId} (ht : tys[t0]? = some (cB, ty)) {n : Int32} {N' : Nat} {a0 : vp_A} (ha : ∀ cA : ClassId, vp_cell cA a0 = arrV cA N' (fun _ => defaultValue ty)) (hn : ¬ n < 0) (hN : n.toNatClampNeg = N') (hbytes : N' * componentBytes ty ≤ 536870912) (hcells : cells + 1 ≤ R.cells) (hslots : slots + N' ≤ R.slots) (hdg : decode cc pc = .ok (.newarray atype, 2))
    (kk : ∀ (q : Nat) (H1 : Heap), va_P D cl (ws ++ [(q, .inl (cB, a0))]) H1 → va_D A (ws ++ [(q, .inl (cB, a0))]) → va_S A H0 H1 locs →
      W p l e R s m args below meth c H1 locs (cells + 1) (slots + N') Q (F0 m (pc + 2) ls (.ref q :: rest))) : W p l e R s m args below meth c H locs cells slots Q (F0 m pc ls (.int n :: rest)) := by
  refine va_newa hexec hb harr hty hK hP hD hS hA ha hn hN hbytes hcells hslots hdg fun q cA H1 hK1 hP1 hD1 hS1 => ?_
  have h1 : va_RA s cA ty := (hK1.2 tys.length (cA, ty) (by rw [List.getElem?_append_right (Nat.le_refl _)]; simp)).2
  have h2 : va_RA s cB ty := (hK.2 t0 _ ht).2
  have e1 : s.vm.findClass ("[" ++ ty.toString) = some cA := by
    rw [← hty] at h1 ⊢
    cases atype <;> exact h1
  have e2 : s.vm.findClass ("[" ++ ty.toString) = some cB := by
    rw [← hty] at h2 ⊢
    cases atype <;> exact h2
  cases Option.some.inj (e1.symm.trans e2)
  exact kk q H1 hP1 hD1 hS1
theorem z_newq (hexec : p.tables.exec = Jvm.exec) (hb : c.code = cc) {own C : String} {index : Nat} (hown : s.vm.findClass own = some m.cls) (hclink : (Cond.classLink own index C).before args s = true) (hover : va_AO C s) (hK : va_K D cl tys s) (hP : va_P D cl ws H) (hD : va_D A ws) (hS : va_S A H0 H locs) (hA : ∀ q, H0.size ≤ q → A q)
    (t0 : Nat) {cB : ClassId} (ht : tys[t0]? = some (cB, .object C)) {n : Int32} {N' : Nat} (hn : ¬ n < 0) (hN : n.toNatClampNeg = N') (hbytes : N' * 4 ≤ 536870912) (hcells : cells + 1 ≤ R.cells) (hslots : slots + N' ≤ R.slots) (hdg : decode cc pc = .ok (.anewarray index, 3))
    (kk : ∀ (q : Nat) (H1 : Heap), va_P D cl (ws ++ [(q, .inl (cB, N', .inr (.inr (.inr (.inr (fun _ => none))))))]) H1 → va_D A (ws ++ [(q, .inl (cB, N', .inr (.inr (.inr (.inr (fun _ => none))))))]) → va_S A H0 H1 locs →
      W p l e R s m args below meth c H1 locs (cells + 1) (slots + N') Q (F0 m (pc + 3) ls (.ref q :: rest))) : W p l e R s m args below meth c H locs cells slots Q (F0 m pc ls (.int n :: rest)) := by
  refine va_newq hexec hb hown hclink hover hK hP hD hS hA hn hN hbytes hcells hslots hdg fun q cA H1 hK1 hP1 hD1 hS1 => ?_
  have h1 : va_RA s cA (.object C) := (hK1.2 tys.length (cA, .object C) (by rw [List.getElem?_append_right (Nat.le_refl _)]; simp)).2
  have h2 : va_RA s cB (.object C) := (hK.2 t0 _ ht).2
  obtain ⟨k1, c1, a1, a2, a3, a4⟩ := h1
  obtain ⟨k2, c2, b1, b2, b3, b4⟩ := h2
  cases Option.some.inj (a4.symm.trans b4)
  exact kk q H1 hP1 hD1 hS1
end ZN
