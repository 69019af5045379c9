section
-- ===== PART A: goes FIRST, ahead of the names: the tables' words, and 'selects' of the private methods out of them =====
/-- a private method of a class that the tables say can be made, by its rows of tables_1 -/
def lw_okq (q : MethodName × Nat) : Prop := (q.1.cls ≠ "java/lang/invoke/MethodHandle" ∧ q.1.cls ≠ "java/lang/invoke/VarHandle") ∧ Cond.instantiable q.1.cls q.2 ∈ tables_1 ∧ Cond.privateMethod q.1 ∈ tables_1 ∧ Cond.instanceMethod q.1 ∈ tables_1
theorem lw_p0 : lw_okq (⟨"FeedDesk$Book", "placeOf", "(I)I"⟩, 7) := ⟨⟨by decide +kernel, by decide +kernel⟩, List.mem_of_getElem? (i := 37) (by decide +kernel), List.mem_of_getElem? (i := 236) (by decide +kernel), List.mem_of_getElem? (i := 237) (by decide +kernel)⟩
theorem lw_p1 : lw_okq (⟨"FeedDesk$Book", "insert", "(LFeedDesk$Event;)V"⟩, 7) := ⟨⟨by decide +kernel, by decide +kernel⟩, List.mem_of_getElem? (i := 37) (by decide +kernel), List.mem_of_getElem? (i := 283) (by decide +kernel), List.mem_of_getElem? (i := 284) (by decide +kernel)⟩
theorem lw_p2 : lw_okq (⟨"FeedDesk$Book", "startOf", "(I)I"⟩, 7) := ⟨⟨by decide +kernel, by decide +kernel⟩, List.mem_of_getElem? (i := 37) (by decide +kernel), List.mem_of_getElem? (i := 287) (by decide +kernel), List.mem_of_getElem? (i := 288) (by decide +kernel)⟩
theorem lw_p3 : lw_okq (⟨"FeedDesk$Book", "endOf", "(I)I"⟩, 7) := ⟨⟨by decide +kernel, by decide +kernel⟩, List.mem_of_getElem? (i := 37) (by decide +kernel), List.mem_of_getElem? (i := 291) (by decide +kernel), List.mem_of_getElem? (i := 292) (by decide +kernel)⟩
theorem lw_p4 : lw_okq (⟨"FeedDesk$Book", "shrink", "(ILFeedDesk$Event;)V"⟩, 7) := ⟨⟨by decide +kernel, by decide +kernel⟩, List.mem_of_getElem? (i := 37) (by decide +kernel), List.mem_of_getElem? (i := 298) (by decide +kernel), List.mem_of_getElem? (i := 299) (by decide +kernel)⟩
theorem lw_p5 : lw_okq (⟨"FeedDesk$Receiver", "passThrough", "(I)V"⟩, 6) := ⟨⟨by decide +kernel, by decide +kernel⟩, List.mem_of_getElem? (i := 138) (by decide +kernel), List.mem_of_getElem? (i := 376) (by decide +kernel), List.mem_of_getElem? (i := 377) (by decide +kernel)⟩
theorem lw_p6 : lw_okq (⟨"FeedDesk$Track", "follow", "()V"⟩, 7) := ⟨⟨by decide +kernel, by decide +kernel⟩, List.mem_of_getElem? (i := 145) (by decide +kernel), List.mem_of_getElem? (i := 387) (by decide +kernel), List.mem_of_getElem? (i := 388) (by decide +kernel)⟩
theorem lw_p7 : lw_okq (⟨"FeedDesk$Track", "takeHeld", "(I)LFeedDesk$Event;"⟩, 7) := ⟨⟨by decide +kernel, by decide +kernel⟩, List.mem_of_getElem? (i := 145) (by decide +kernel), List.mem_of_getElem? (i := 404) (by decide +kernel), List.mem_of_getElem? (i := 405) (by decide +kernel)⟩
theorem lw_p8 : lw_okq (⟨"FeedDesk$Track", "hold", "(LFeedDesk$Event;)V"⟩, 7) := ⟨⟨by decide +kernel, by decide +kernel⟩, List.mem_of_getElem? (i := 145) (by decide +kernel), List.mem_of_getElem? (i := 408) (by decide +kernel), List.mem_of_getElem? (i := 409) (by decide +kernel)⟩
theorem lw_p9 : lw_okq (⟨"FeedDesk$Receiver", "lastOfGap", "()I"⟩, 6) := ⟨⟨by decide +kernel, by decide +kernel⟩, List.mem_of_getElem? (i := 138) (by decide +kernel), List.mem_of_getElem? (i := 420) (by decide +kernel), List.mem_of_getElem? (i := 421) (by decide +kernel)⟩
theorem lw_p10 : lw_okq (⟨"FeedDesk$Receiver", "giveUp", "(I)V"⟩, 6) := ⟨⟨by decide +kernel, by decide +kernel⟩, List.mem_of_getElem? (i := 138) (by decide +kernel), List.mem_of_getElem? (i := 436) (by decide +kernel), List.mem_of_getElem? (i := 437) (by decide +kernel)⟩
theorem lw_p11 : lw_okq (⟨"FeedDesk$Track", "forgetOldHeld", "()V"⟩, 7) := ⟨⟨by decide +kernel, by decide +kernel⟩, List.mem_of_getElem? (i := 145) (by decide +kernel), List.mem_of_getElem? (i := 479) (by decide +kernel), List.mem_of_getElem? (i := 480) (by decide +kernel)⟩
theorem lw_p12 : lw_okq (⟨"FeedDesk", "book", "(II)LFeedDesk$Book;"⟩, 3) := ⟨⟨by decide +kernel, by decide +kernel⟩, List.mem_of_getElem? (i := 14) (by decide +kernel), List.mem_of_getElem? (i := 498) (by decide +kernel), List.mem_of_getElem? (i := 499) (by decide +kernel)⟩
theorem lw_p13 : lw_okq (⟨"FeedDeskModel", "take", "(IIIIII)I"⟩, 35) := ⟨⟨by decide +kernel, by decide +kernel⟩, List.mem_of_getElem? (i := 554) (by decide +kernel), List.mem_of_getElem? (i := 681) (by decide +kernel), List.mem_of_getElem? (i := 682) (by decide +kernel)⟩
theorem lw_p14 : lw_okq (⟨"FeedDeskModel", "goOver", "(II)V"⟩, 35) := ⟨⟨by decide +kernel, by decide +kernel⟩, List.mem_of_getElem? (i := 554) (by decide +kernel), List.mem_of_getElem? (i := 685) (by decide +kernel), List.mem_of_getElem? (i := 686) (by decide +kernel)⟩
theorem lw_p15 : lw_okq (⟨"FeedDeskModel", "perform", "(I)V"⟩, 35) := ⟨⟨by decide +kernel, by decide +kernel⟩, List.mem_of_getElem? (i := 554) (by decide +kernel), List.mem_of_getElem? (i := 689) (by decide +kernel), List.mem_of_getElem? (i := 690) (by decide +kernel)⟩
def lw_privs_1 : List (MethodName × Nat) := [(⟨"FeedDesk$Book", "placeOf", "(I)I"⟩, 7), (⟨"FeedDesk$Book", "insert", "(LFeedDesk$Event;)V"⟩, 7), (⟨"FeedDesk$Book", "startOf", "(I)I"⟩, 7), (⟨"FeedDesk$Book", "endOf", "(I)I"⟩, 7), (⟨"FeedDesk$Book", "shrink", "(ILFeedDesk$Event;)V"⟩, 7), (⟨"FeedDesk$Receiver", "passThrough", "(I)V"⟩, 6), (⟨"FeedDesk$Track", "follow", "()V"⟩, 7), (⟨"FeedDesk$Track", "takeHeld", "(I)LFeedDesk$Event;"⟩, 7), (⟨"FeedDesk$Track", "hold", "(LFeedDesk$Event;)V"⟩, 7), (⟨"FeedDesk$Receiver", "lastOfGap", "()I"⟩, 6), (⟨"FeedDesk$Receiver", "giveUp", "(I)V"⟩, 6), (⟨"FeedDesk$Track", "forgetOldHeld", "()V"⟩, 7), (⟨"FeedDesk", "book", "(II)LFeedDesk$Book;"⟩, 3), (⟨"FeedDeskModel", "take", "(IIIIII)I"⟩, 35), (⟨"FeedDeskModel", "goOver", "(II)V"⟩, 35), (⟨"FeedDeskModel", "perform", "(I)V"⟩, 35)]
theorem lw_r1 : ∀ q ∈ lw_privs_1, lw_okq q := List.forall_mem_cons.mpr ⟨lw_p0, List.forall_mem_cons.mpr ⟨lw_p1, List.forall_mem_cons.mpr ⟨lw_p2, List.forall_mem_cons.mpr ⟨lw_p3, List.forall_mem_cons.mpr ⟨lw_p4, List.forall_mem_cons.mpr ⟨lw_p5, List.forall_mem_cons.mpr ⟨lw_p6, List.forall_mem_cons.mpr ⟨lw_p7, List.forall_mem_cons.mpr ⟨lw_p8, List.forall_mem_cons.mpr ⟨lw_p9, List.forall_mem_cons.mpr ⟨lw_p10, List.forall_mem_cons.mpr ⟨lw_p11, List.forall_mem_cons.mpr ⟨lw_p12, List.forall_mem_cons.mpr ⟨lw_p13, List.forall_mem_cons.mpr ⟨lw_p14, List.forall_mem_cons.mpr ⟨lw_p15, fun _ h => absurd h List.not_mem_nil⟩⟩⟩⟩⟩⟩⟩⟩⟩⟩⟩⟩⟩⟩⟩⟩
theorem lw_p16 : lw_okq (⟨"FeedDeskModel", "find", "(I)I"⟩, 35) := ⟨⟨by decide +kernel, by decide +kernel⟩, List.mem_of_getElem? (i := 554) (by decide +kernel), List.mem_of_getElem? (i := 693) (by decide +kernel), List.mem_of_getElem? (i := 694) (by decide +kernel)⟩
theorem lw_p17 : lw_okq (⟨"FeedDeskModel", "drop", "(I)V"⟩, 35) := ⟨⟨by decide +kernel, by decide +kernel⟩, List.mem_of_getElem? (i := 554) (by decide +kernel), List.mem_of_getElem? (i := 697) (by decide +kernel), List.mem_of_getElem? (i := 698) (by decide +kernel)⟩
theorem lw_p18 : lw_okq (⟨"FeedDeskModel", "eventByte", "(II)I"⟩, 35) := ⟨⟨by decide +kernel, by decide +kernel⟩, List.mem_of_getElem? (i := 554) (by decide +kernel), List.mem_of_getElem? (i := 732) (by decide +kernel), List.mem_of_getElem? (i := 733) (by decide +kernel)⟩
theorem lw_p19 : lw_okq (⟨"FeedDeskModel", "hear", "(II)I"⟩, 35) := ⟨⟨by decide +kernel, by decide +kernel⟩, List.mem_of_getElem? (i := 554) (by decide +kernel), List.mem_of_getElem? (i := 743) (by decide +kernel), List.mem_of_getElem? (i := 744) (by decide +kernel)⟩
theorem lw_p20 : lw_okq (⟨"FeedDeskModel", "pass", "(I)V"⟩, 35) := ⟨⟨by decide +kernel, by decide +kernel⟩, List.mem_of_getElem? (i := 554) (by decide +kernel), List.mem_of_getElem? (i := 747) (by decide +kernel), List.mem_of_getElem? (i := 748) (by decide +kernel)⟩
theorem lw_p21 : lw_okq (⟨"FeedDeskModel", "event", "(II)V"⟩, 35) := ⟨⟨by decide +kernel, by decide +kernel⟩, List.mem_of_getElem? (i := 554) (by decide +kernel), List.mem_of_getElem? (i := 751) (by decide +kernel), List.mem_of_getElem? (i := 752) (by decide +kernel)⟩
theorem lw_p22 : lw_okq (⟨"FeedDeskModel", "become", "(III)V"⟩, 35) := ⟨⟨by decide +kernel, by decide +kernel⟩, List.mem_of_getElem? (i := 554) (by decide +kernel), List.mem_of_getElem? (i := 755) (by decide +kernel), List.mem_of_getElem? (i := 756) (by decide +kernel)⟩
theorem lw_p23 : lw_okq (⟨"FeedDeskModel", "look", "([I)V"⟩, 35) := ⟨⟨by decide +kernel, by decide +kernel⟩, List.mem_of_getElem? (i := 554) (by decide +kernel), List.mem_of_getElem? (i := 759) (by decide +kernel), List.mem_of_getElem? (i := 760) (by decide +kernel)⟩
theorem lw_p24 : lw_okq (⟨"FeedDeskModel", "ofLevel", "(III)I"⟩, 35) := ⟨⟨by decide +kernel, by decide +kernel⟩, List.mem_of_getElem? (i := 554) (by decide +kernel), List.mem_of_getElem? (i := 763) (by decide +kernel), List.mem_of_getElem? (i := 764) (by decide +kernel)⟩
theorem lw_p25 : lw_okq (⟨"FeedDeskModel", "levelAt", "(II)I"⟩, 35) := ⟨⟨by decide +kernel, by decide +kernel⟩, List.mem_of_getElem? (i := 554) (by decide +kernel), List.mem_of_getElem? (i := 767) (by decide +kernel), List.mem_of_getElem? (i := 768) (by decide +kernel)⟩
theorem lw_p26 : lw_okq (⟨"FeedDeskModel", "orderAt", "(II)I"⟩, 35) := ⟨⟨by decide +kernel, by decide +kernel⟩, List.mem_of_getElem? (i := 554) (by decide +kernel), List.mem_of_getElem? (i := 771) (by decide +kernel), List.mem_of_getElem? (i := 772) (by decide +kernel)⟩
theorem lw_p27 : lw_okq (⟨"FeedDeskModel", "ahead", "(II)Z"⟩, 35) := ⟨⟨by decide +kernel, by decide +kernel⟩, List.mem_of_getElem? (i := 554) (by decide +kernel), List.mem_of_getElem? (i := 775) (by decide +kernel), List.mem_of_getElem? (i := 776) (by decide +kernel)⟩
theorem lw_p28 : lw_okq (⟨"FeedDeskModel", "follow", "(II)V"⟩, 35) := ⟨⟨by decide +kernel, by decide +kernel⟩, List.mem_of_getElem? (i := 554) (by decide +kernel), List.mem_of_getElem? (i := 780) (by decide +kernel), List.mem_of_getElem? (i := 781) (by decide +kernel)⟩
theorem lw_p29 : lw_okq (⟨"FeedDeskModel", "release", "(II)V"⟩, 35) := ⟨⟨by decide +kernel, by decide +kernel⟩, List.mem_of_getElem? (i := 554) (by decide +kernel), List.mem_of_getElem? (i := 784) (by decide +kernel), List.mem_of_getElem? (i := 785) (by decide +kernel)⟩
theorem lw_p30 : lw_okq (⟨"FeedDeskModel", "goOn", "(I)V"⟩, 35) := ⟨⟨by decide +kernel, by decide +kernel⟩, List.mem_of_getElem? (i := 554) (by decide +kernel), List.mem_of_getElem? (i := 788) (by decide +kernel), List.mem_of_getElem? (i := 789) (by decide +kernel)⟩
theorem lw_p31 : lw_okq (⟨"FeedDeskModel", "gapEnd", "(I)I"⟩, 35) := ⟨⟨by decide +kernel, by decide +kernel⟩, List.mem_of_getElem? (i := 554) (by decide +kernel), List.mem_of_getElem? (i := 796) (by decide +kernel), List.mem_of_getElem? (i := 797) (by decide +kernel)⟩
def lw_privs_2 : List (MethodName × Nat) := [(⟨"FeedDeskModel", "find", "(I)I"⟩, 35), (⟨"FeedDeskModel", "drop", "(I)V"⟩, 35), (⟨"FeedDeskModel", "eventByte", "(II)I"⟩, 35), (⟨"FeedDeskModel", "hear", "(II)I"⟩, 35), (⟨"FeedDeskModel", "pass", "(I)V"⟩, 35), (⟨"FeedDeskModel", "event", "(II)V"⟩, 35), (⟨"FeedDeskModel", "become", "(III)V"⟩, 35), (⟨"FeedDeskModel", "look", "([I)V"⟩, 35), (⟨"FeedDeskModel", "ofLevel", "(III)I"⟩, 35), (⟨"FeedDeskModel", "levelAt", "(II)I"⟩, 35), (⟨"FeedDeskModel", "orderAt", "(II)I"⟩, 35), (⟨"FeedDeskModel", "ahead", "(II)Z"⟩, 35), (⟨"FeedDeskModel", "follow", "(II)V"⟩, 35), (⟨"FeedDeskModel", "release", "(II)V"⟩, 35), (⟨"FeedDeskModel", "goOn", "(I)V"⟩, 35), (⟨"FeedDeskModel", "gapEnd", "(I)I"⟩, 35)]
theorem lw_r2 : ∀ q ∈ lw_privs_2, lw_okq q := List.forall_mem_cons.mpr ⟨lw_p16, List.forall_mem_cons.mpr ⟨lw_p17, List.forall_mem_cons.mpr ⟨lw_p18, List.forall_mem_cons.mpr ⟨lw_p19, List.forall_mem_cons.mpr ⟨lw_p20, List.forall_mem_cons.mpr ⟨lw_p21, List.forall_mem_cons.mpr ⟨lw_p22, List.forall_mem_cons.mpr ⟨lw_p23, List.forall_mem_cons.mpr ⟨lw_p24, List.forall_mem_cons.mpr ⟨lw_p25, List.forall_mem_cons.mpr ⟨lw_p26, List.forall_mem_cons.mpr ⟨lw_p27, List.forall_mem_cons.mpr ⟨lw_p28, List.forall_mem_cons.mpr ⟨lw_p29, List.forall_mem_cons.mpr ⟨lw_p30, List.forall_mem_cons.mpr ⟨lw_p31, fun _ h => absurd h List.not_mem_nil⟩⟩⟩⟩⟩⟩⟩⟩⟩⟩⟩⟩⟩⟩⟩⟩
theorem lw_p32 : lw_okq (⟨"FeedDeskModel", "pieces", "(I)I"⟩, 35) := ⟨⟨by decide +kernel, by decide +kernel⟩, List.mem_of_getElem? (i := 554) (by decide +kernel), List.mem_of_getElem? (i := 812) (by decide +kernel), List.mem_of_getElem? (i := 813) (by decide +kernel)⟩
theorem lw_p33 : lw_okq (⟨"FeedDeskModel", "manyOf", "(II)I"⟩, 35) := ⟨⟨by decide +kernel, by decide +kernel⟩, List.mem_of_getElem? (i := 554) (by decide +kernel), List.mem_of_getElem? (i := 827) (by decide +kernel), List.mem_of_getElem? (i := 828) (by decide +kernel)⟩
def lw_privs_3 : List (MethodName × Nat) := [(⟨"FeedDeskModel", "pieces", "(I)I"⟩, 35), (⟨"FeedDeskModel", "manyOf", "(II)I"⟩, 35)]
theorem lw_r3 : ∀ q ∈ lw_privs_3, lw_okq q := List.forall_mem_cons.mpr ⟨lw_p32, List.forall_mem_cons.mpr ⟨lw_p33, fun _ h => absurd h List.not_mem_nil⟩⟩
def lw_privs : List (MethodName × Nat) := lw_privs_1 ++ (lw_privs_2 ++ (lw_privs_3))
def lw_tbl : List Cond := k2_sels lw_privs ++ tables_1
theorem lw_privs_ok : ∀ q ∈ lw_privs, lw_okq q := by
  show ∀ q ∈ lw_privs_1 ++ (lw_privs_2 ++ (lw_privs_3)), lw_okq q
  exact List.forall_mem_append.mpr ⟨lw_r1, List.forall_mem_append.mpr ⟨lw_r2, lw_r3⟩⟩
end
section
/-! A layer of my own over the kit's worlds: the heap is a function from addresses to cells, with its size; one judgement fv_V at an instruction, one contract fv_T. -/
abbrev fv_H : Type := Nat → Option va_E
/-- static: class numbers and slots, the classes, the array classes, links to nest mates' fields and methods, classes with arrays over them -/
abbrev fv_K : Type := va_G × List vw_C × List (ClassId × FieldType) × List (String × Nat × String × String × String × String) × List (String × Nat × MethodName × String) × List String
/-- an activation -/
abbrev fv_X : Type := Program × Launch × Env × Room × State × MethodId × Array Value × List Frame × Method × Code
/-- a method: name, bytes, locals, answer's type, frames and words that it needs -/
abbrev fv_M : Type := MethodName × ByteArray × Nat × Option FieldType × Nat × Nat
def fv_S (K : fv_K) (U : State) : Prop := va_K K.1 K.2.1 K.2.2.1 U ∧ (∀ w ∈ K.2.2.2.1, va_Nw (.fieldLinkNest w.1 w.2.1 w.2.2.1 w.2.2.2.1 w.2.2.2.2.1 w.2.2.2.2.2) U) ∧ (∀ w ∈ K.2.2.2.2.1, va_Nw (.methodLinkNest w.1 w.2.1 w.2.2.1 w.2.2.2) U) ∧ ∀ C ∈ K.2.2.2.2.2, va_AO C U
theorem fv_S.warm {K : fv_K} {s U : State} (hW : s.WarmedH U.vm) (h : fv_S K s) : fv_S K U := ⟨va_K.moved hW.alike h.1, fun w hw => va_Nw.warmF hW (h.2.1 w hw), fun w hw => va_Nw.warmM hW (h.2.2.1 w hw), fun C hC => va_AO.moved hW.alike (h.2.2.2 C hC)⟩
theorem fv_S.same {K : fv_K} {s U : State} (hvm : s.vm = U.vm) (h : fv_S K s) : fv_S K U := ⟨va_K.moved (hvm ▸ Vm.Alike.refl s.vm) h.1, fun w hw => va_Nw.same rfl hvm (h.2.1 w hw), fun w hw => va_Nw.same rfl hvm (h.2.2.1 w hw), fun C hC => va_AO.moved (hvm ▸ Vm.Alike.refl s.vm) (h.2.2.2 C hC)⟩
def fv_R (K : fv_K) (sz : Nat) (h : fv_H) (H : Heap) : Prop := H.size = sz ∧ ∀ (a : Nat) (e : va_E), h a = some e → va_at K.1 K.2.1 (a, e) H
theorem fv_R.set {K : fv_K} {sz a : Nat} {h : fv_H} {e : va_E} {H H1 : Heap} (r : fv_R K sz h H) (z : H1.size = H.size) (oq : ∀ q : Nat, q ≠ a → H1[q]? = H[q]?) (he : va_at K.1 K.2.1 (a, e) H1) : fv_R K sz (va_up h a (some e)) H1 := by
  refine ⟨z.trans r.1, fun b e' hb => ?_⟩
  by_cases hba : b = a
  · subst hba
    rw [va_up_self] at hb
    cases hb
    exact he
  · rw [va_up_ne _ _ hba] at hb
    exact (r.2 b e' hb).kept (oq b hba)
theorem fv_R.push {K : fv_K} {sz : Nat} {h : fv_H} {e : va_E} {H H1 : Heap} (r : fv_R K sz h H) (z : H1.size = sz + 1) (oq : ∀ q : Nat, q < sz → H1[q]? = H[q]?) (he : va_at K.1 K.2.1 (sz, e) H1) : fv_R K (sz + 1) (va_up h sz (some e)) H1 := by
  refine ⟨z, fun b e' hb => ?_⟩
  by_cases hba : b = sz
  · subst hba
    rw [va_up_self] at hb
    cases hb
    exact he
  · rw [va_up_ne _ _ hba] at hb
    have hr := r.2 b e' hb
    have hl : b < H.size := hr.lt
    exact hr.kept (oq b (by rw [← r.1]; exact hl))
theorem fv_R.one {K : fv_K} {sz a : Nat} {h : fv_H} {e : va_E} {H : Heap} (r : fv_R K sz h H) (ha : h a = some e) : va_P K.1 K.2.1 [(a, e)] H := by
  intro k q hk
  have hz : k < 1 := (List.getElem?_eq_some_iff.mp hk).1
  rw [show k = 0 by omega] at hk
  cases hk
  exact r.2 a e ha
/-! the locals: a list, none where nothing is known -/
def fv_as : Nat → List (Option Value) → List (Nat × Value)
  | _, [] => []
  | n, none :: t => fv_as (n + 1) t
  | n, some v :: t => (n, v) :: fv_as (n + 1) t
theorem fv_mem : ∀ (L : List (Option Value)) (n i : Nat) (v : Value), (i, v) ∈ fv_as n L ↔ n ≤ i ∧ L[i - n]? = some (some v)
  | [], n, i, v => by simp [fv_as]
  | none :: t, n, i, v => by
    rw [fv_as, fv_mem t]
    constructor
    · rintro ⟨h1, h2⟩
      refine ⟨by omega, ?_⟩
      rw [show i - n = (i - (n + 1)) + 1 by omega, List.getElem?_cons_succ]
      exact h2
    · rintro ⟨h1, h2⟩
      by_cases hi : i = n
      · subst hi
        rw [Nat.sub_self, List.getElem?_cons_zero] at h2
        cases h2
      · refine ⟨by omega, ?_⟩
        rw [show i - n = (i - (n + 1)) + 1 by omega, List.getElem?_cons_succ] at h2
        exact h2
  | some w :: t, n, i, v => by
    rw [fv_as, List.mem_cons, fv_mem t]
    constructor
    · rintro (h | ⟨h1, h2⟩)
      · cases h
        exact ⟨Nat.le_refl _, by rw [Nat.sub_self, List.getElem?_cons_zero]⟩
      · refine ⟨by omega, ?_⟩
        rw [show i - n = (i - (n + 1)) + 1 by omega, List.getElem?_cons_succ]
        exact h2
    · rintro ⟨h1, h2⟩
      by_cases hi : i = n
      · subst hi
        rw [Nat.sub_self, List.getElem?_cons_zero] at h2
        cases h2
        exact Or.inl rfl
      · refine Or.inr ⟨by omega, ?_⟩
        rw [show i - n = (i - (n + 1)) + 1 by omega, List.getElem?_cons_succ] at h2
        exact h2
def fv_L (ls : Array Slot) (nL : Nat) (L : List (Option Value)) : Prop := lv_has ls nL (fv_as 0 L) ∧ ∀ q ∈ fv_as 0 L, q.2.category = 1
theorem fv_L.at {ls : Array Slot} {nL i : Nat} {L : List (Option Value)} {v : Value} (h : fv_L ls nL L) (hi : L[i]? = some (some v)) : ls[i]? = some (.val v) := h.1.2.2 (i, v) ((fv_mem L 0 i v).mpr ⟨Nat.zero_le _, hi⟩)
theorem fv_L.store {ls ls' : Array Slot} {nL i : Nat} {L : List (Option Value)} {v : Value} (h : fv_L ls nL L) (hc : v.category = 1) (h' : lv_has ls' nL ((i, v) :: (fv_as 0 L).filter (fun q => !(q.1 == i) && !(q.1 + 1 == i && q.2.category == 2)))) : fv_L ls' nL (L.set i (some v)) := by
  have key : ∀ q ∈ fv_as 0 (L.set i (some v)), q = (i, v) ∨ (q ∈ fv_as 0 L ∧ q.1 ≠ i) := by
    rintro ⟨j, w⟩ hq
    have h2 := ((fv_mem _ 0 j w).mp hq).2
    rw [Nat.sub_zero] at h2
    by_cases hj : j = i
    · subst hj
      have hl : j < L.length := by
        have := (List.getElem?_eq_some_iff.mp h2).1
        rwa [List.length_set] at this
      rw [List.getElem?_set_self hl] at h2
      cases h2
      exact Or.inl rfl
    · rw [List.getElem?_set_ne (Ne.symm hj)] at h2
      exact Or.inr ⟨(fv_mem L 0 j w).mpr ⟨Nat.zero_le _, h2⟩, hj⟩
  refine ⟨⟨h'.1, h'.2.1, fun q hq => ?_⟩, fun q hq => ?_⟩
  · rcases key q hq with rfl | ⟨h1, h2⟩
    · exact h'.2.2 _ List.mem_cons_self
    · refine h'.2.2 q (List.mem_cons_of_mem _ (List.mem_filter.mpr ⟨h1, ?_⟩))
      have h3 := h.2 q h1
      simp [h2, h3]
  · rcases key q hq with rfl | ⟨h1, -⟩
    · exact hc
    · exact h.2 q h1
theorem fv_L.weak {ls : Array Slot} {nL : Nat} {L L' : List (Option Value)} (h : fv_L ls nL L) (hs : ∀ (i : Nat) (v : Value), L'[i]? = some (some v) → L[i]? = some (some v)) : fv_L ls nL L' := by
  have key : ∀ q ∈ fv_as 0 L', q ∈ fv_as 0 L := by
    rintro ⟨j, w⟩ hq
    exact (fv_mem L 0 j w).mpr ⟨Nat.zero_le _, hs j w ((fv_mem L' 0 j w).mp hq).2⟩
  exact ⟨⟨h.1.1, h.1.2.1, fun q hq => h.1.2.2 q (key q hq)⟩, fun q hq => h.2 q (key q hq)⟩
def fv_c1 (av : List Value) : Bool := av.all (fun v => v.category == 1)
def fv_en (av : List Value) (n : Nat) : List (Option Value) := av.map some ++ List.replicate (n - av.length) none
theorem fv_as_none (n k : Nat) : fv_as n (List.replicate k none) = [] := by
  induction k generalizing n with
  | zero => rfl
  | succ k ih => rw [List.replicate_succ, fv_as, ih]
theorem fv_as_en : ∀ (av : List Value) (n k : Nat), fv_c1 av = true → fv_as n (av.map some ++ List.replicate k none) = lv_args n av
  | [], n, k, _ => by simp [fv_as_none, lv_args]
  | v :: t, n, k, h => by
    simp only [fv_c1, List.all_cons, Bool.and_eq_true, beq_iff_eq] at h
    have h2 : ¬ v.category = 2 := by omega
    rw [List.map_cons, List.cons_append, fv_as, lv_args, if_neg h2, fv_as_en t (n + 1) k h.2]
theorem fv_sl_len : ∀ (av : List Value), fv_c1 av = true → (lg_sl av).length = av.length
  | [], _ => rfl
  | v :: t, h => by
    simp only [fv_c1, List.all_cons, Bool.and_eq_true, beq_iff_eq] at h
    have h2 : ¬ v.category = 2 := by omega
    have h3 := fv_sl_len t h.2
    simp only [lg_sl, List.flatMap_cons, if_neg h2] at h3 ⊢
    simp [h3]
theorem fv_cat_args : ∀ (av : List Value) (n : Nat), fv_c1 av = true → ∀ q ∈ lv_args n av, q.2.category = 1
  | [], n, _, q, hq => by simp [lv_args] at hq
  | v :: t, n, h, q, hq => by
    simp only [fv_c1, List.all_cons, Bool.and_eq_true, beq_iff_eq] at h
    rw [lv_args] at hq
    rcases List.mem_cons.mp hq with rfl | hq
    · exact h.1
    · exact fv_cat_args t _ h.2 q hq
theorem fv_entry (av : List Value) {n : Nat} (hc : fv_c1 av = true) (hn : av.length ≤ n) : fv_L ((lg_sl av ++ List.replicate (n - (lg_sl av).length) Slot.unset).toArray) n (fv_en av n) := by
  have h := lv_entry av (n := n) (by rw [fv_sl_len av hc]; exact hn)
  have e : fv_as 0 (fv_en av n) = lv_args 0 av := fv_as_en av 0 _ hc
  exact ⟨by rw [e]; exact h, by rw [e]; exact fv_cat_args av 0 hc⟩
/-! contracts -/
def fv_Q (K : fv_K) (post : Option Value → Nat → fv_H → Prop) : Array Value → State → Outcome → State → Prop := fun _ _ o t => ∃ (v : Option Value) (sz : Nat) (h : fv_H), o = .returned v ∧ post v sz h ∧ fv_R K sz h t.heap
def fv_good (w : Cond) : Prop := (w.onTables && w.keeps) = true ∨ ∃ ty, w = .arrayClass ty
def fv_T (l : Launch) (K : fv_K) (Bs : Nat) (WA : List Cond) (M : fv_M) (av : List Value) (sz : Nat) (h : fv_H) (mc ms : Nat) (post : Option Value → Nat → fv_H → Prop) : Prop :=
  Met l M.1 (Cond.code M.1 M.2.1 M.2.2.1 M.2.2.2.1 :: WA) { frames := M.2.2.2.2.1, cells := mc, slots := ms, locals := M.2.2.2.2.2 } (va_Pc av (fun U => fv_R K sz h U.heap ∧ fv_S K U)) (fv_Q K post) mc ms (fun q => Bs ≤ q)
/-- what a method's walk may lean on -/
def fv_C (K : fv_K) (WA : List Cond) (X : fv_X) (M : fv_M) (mc ms : Nat) : Prop :=
  X.1.tables.exec = Jvm.exec ∧ X.2.2.2.2.2.2.2.2.2.code = M.2.1 ∧ X.2.2.2.2.2.2.2.2.2.maxLocals = M.2.2.1 ∧ X.2.2.2.2.2.2.2.2.1.sig.returnType = M.2.2.2.1 ∧ X.2.2.2.2.2.2.2.2.1.locks = false ∧
  X.2.2.2.2.1.vm.findClass M.1.cls = some X.2.2.2.2.2.1.cls ∧ (∀ w ∈ WA, w.before X.2.2.2.2.2.2.1 X.2.2.2.2.1 = true) ∧ fv_S K X.2.2.2.2.1 ∧ X.2.2.2.1 = { frames := M.2.2.2.2.1, cells := mc, slots := ms, locals := M.2.2.2.2.2 } ∧ X.2.2.2.2.2.2.2.2.1.name = M.1.name
def fv_V (K : fv_K) (Bs : Nat) (X : fv_X) (nL : Nat) (Q : State → Prop) (pc : Nat) (L : List (Option Value)) (st : List Value) (sz : Nat) (h : fv_H) (cells slots : Nat) : Prop :=
  ∀ (H : Heap) (locs : List Loc) (ls : Array Slot), fv_R K sz h H → (∀ q ∈ locs, Bs ≤ q.base) → fv_L ls nL L → W X.1 X.2.1 X.2.2.1 X.2.2.2.1 X.2.2.2.2.1 X.2.2.2.2.2.1 X.2.2.2.2.2.2.1 X.2.2.2.2.2.2.2.1 X.2.2.2.2.2.2.2.2.1 X.2.2.2.2.2.2.2.2.2 H locs cells slots Q (F0 X.2.2.2.2.2.1 pc ls st)
def fv_MQ (K : fv_K) (Bs : Nat) (X : fv_X) (post : Option Value → Nat → fv_H → Prop) (mc ms : Nat) : State → Prop := MQ X.2.2.2.2.2.2.2.1 (fv_Q K post) X.2.2.2.2.2.2.1 X.2.2.2.2.1 mc ms (fun q => Bs ≤ q)
theorem fv_of {l : Launch} {K : fv_K} {Bs : Nat} {WA : List Cond} {M : fv_M} {av : List Value} {sz : Nat} {h : fv_H} {mc ms : Nat} {post : Option Value → Nat → fv_H → Prop} (hy : plainName M.1.cls = true) (hc : fv_c1 av = true) (hn : av.length ≤ M.2.2.1) {L : List (Option Value)} (hL : fv_en av M.2.2.1 = L)
    (body : ∀ X : fv_X, X.2.1 = l → fv_C K WA X M mc ms → fv_V K Bs X M.2.2.1 (fv_MQ K Bs X post mc ms) 0 L [] sz h 0 0) : fv_T l K Bs WA M av sz h mc ms post := by
  subst hL
  refine Met.ofW (cc := M.2.1) (maxL := M.2.2.1) (ret := M.2.2.2.1) hy rfl ?_
  intro p e s m args below meth c s₁ B hml hv
  obtain ⟨rfl, hR, hS⟩ := hv
  have hts := atoms_spec (ws := Cond.code M.1 M.2.1 M.2.2.1 M.2.2.2.1 :: WA) B.pre
  rw [lg_entry_eq]
  exact body (p, l, e, _, s, m, av.toArray, below, meth, c) rfl ⟨B.exec, B.bytes, hml, B.returns, B.notSynchronized, findClass_of_methodNamed B.named, fun w hw => hts w (List.mem_cons_of_mem _ hw), hS, rfl, (name_of_methodNamed B.named B.method).1⟩ s.heap [] _ hR (fun q hq => by cases hq) (fv_entry av hc hn)
theorem fv_T.to {l : Launch} {K : fv_K} {Bs : Nat} {WA : List Cond} {M : fv_M} {av : List Value} {sz : Nat} {h : fv_H} {mc ms : Nat} {post : Option Value → Nat → fv_H → Prop} {av' : List Value} {h' : fv_H} (t : fv_T l K Bs WA M av sz h mc ms post) (e1 : av = av') (e2 : h = h') : fv_T l K Bs WA M av' sz h' mc ms post := by
  subst e1; subst e2; exact t
section FV
variable {K : fv_K} {Bs : Nat} {WA : List Cond} {X : fv_X} {M : fv_M} {mc ms nL : Nat} {Q : State → Prop} {pc n : Nat} {L L' : List (Option Value)} {st : List Value} {sz : Nat} {h : fv_H} {cells slots : Nat}
theorem fv_weak (hs : ∀ (i : Nat) (v : Value), L'[i]? = some (some v) → L[i]? = some (some v)) (k : fv_V K Bs X nL Q pc L' st sz h cells slots) : fv_V K Bs X nL Q pc L st sz h cells slots := fun H locs ls hR hl hL => k H locs ls hR hl (hL.weak hs)
theorem fv_drop (i : Nat) (hs : L.set i none = L') (k : fv_V K Bs X nL Q pc L' st sz h cells slots) : fv_V K Bs X nL Q pc L st sz h cells slots := by
  subst hs
  refine fv_weak (fun j v hj => ?_) k
  by_cases hij : i = j
  · subst hij
    have hl : i < L.length := by
      have := (List.getElem?_eq_some_iff.mp hj).1
      rwa [List.length_set] at this
    rw [List.getElem?_set_self hl] at hj
    cases hj
  · rwa [List.getElem?_set_ne hij] at hj
theorem fv_widen {c2 s2 : Nat} (h1 : cells ≤ c2) (h2 : slots ≤ s2) (k : fv_V K Bs X nL Q pc L st sz h c2 s2) : fv_V K Bs X nL Q pc L st sz h cells slots := fun H locs ls hR hl hL => W.widen h1 h2 (k H locs ls hR hl hL)
theorem fv_eq {h' : fv_H} {st' : List Value} (e1 : st = st') (e2 : h = h') (k : fv_V K Bs X nL Q pc L st' sz h' cells slots) : fv_V K Bs X nL Q pc L st sz h cells slots := by
  subst e1; subst e2; exact k
theorem fv_eqL (e1 : L = L') (k : fv_V K Bs X nL Q pc L' st sz h cells slots) : fv_V K Bs X nL Q pc L st sz h cells slots := by
  subst e1; exact k
theorem fv_iconst (C : fv_C K WA X M mc ms) {z : Int} {v : Int32} (hd : decode M.2.1 pc = .ok (.iconst z, 1)) (hn : pc + 1 = n) (hv : Int32.ofInt z = v) (k : fv_V K Bs X nL Q n L (.int v :: st) sz h cells slots) : fv_V K Bs X nL Q pc L st sz h cells slots := by
  subst hn
  intro H locs ls hR hl hL
  exact lv_iconst C.1 C.2.1 hd hv (k H locs ls hR hl hL)
theorem fv_bipush (C : fv_C K WA X M mc ms) {z : Int} {v : Int32} (hd : decode M.2.1 pc = .ok (.bipush z, 2)) (hn : pc + 2 = n) (hv : (Int8.ofInt z).toInt32 = v) (k : fv_V K Bs X nL Q n L (.int v :: st) sz h cells slots) : fv_V K Bs X nL Q pc L st sz h cells slots := by
  subst hn
  intro H locs ls hR hl hL
  exact lv_bipush C.1 C.2.1 hd hv (k H locs ls hR hl hL)
theorem fv_sipush (C : fv_C K WA X M mc ms) {z : Int} {v : Int32} (hd : decode M.2.1 pc = .ok (.sipush z, 3)) (hn : pc + 3 = n) (hv : (Int16.ofInt z).toInt32 = v) (k : fv_V K Bs X nL Q n L (.int v :: st) sz h cells slots) : fv_V K Bs X nL Q pc L st sz h cells slots := by
  subst hn
  intro H locs ls hR hl hL
  exact lv_sipush C.1 C.2.1 hd hv (k H locs ls hR hl hL)
theorem fv_ldc (C : fv_C K WA X M mc ms) {idx : Nat} {v : Int32} (hd : decode M.2.1 pc = .ok (.ldc idx, 2)) (hn : pc + 2 = n) (hv : Jvm.Cond.constant M.1.cls idx v ∈ WA) (k : fv_V K Bs X nL Q n L (.int v :: st) sz h cells slots) : fv_V K Bs X nL Q pc L st sz h cells slots := by
  subst hn
  intro H locs ls hR hl hL
  exact lv_ldc C.1 C.2.1 C.2.2.2.2.2.1 (C.2.2.2.2.2.2.1 _ hv) hd (k H locs ls hR hl hL)
theorem fv_null (C : fv_C K WA X M mc ms)  (hd : decode M.2.1 pc = .ok (.aconst_null, 1)) (hn : pc + 1 = n)  (k : fv_V K Bs X nL Q n L (.null :: st) sz h cells slots) : fv_V K Bs X nL Q pc L st sz h cells slots := by
  subst hn
  intro H locs ls hR hl hL
  exact lv_null C.1 C.2.1 hd (k H locs ls hR hl hL)
theorem fv_iload_n (C : fv_C K WA X M mc ms) {j : Fin 4} {i : Nat} {x : Int32} (hd : decode M.2.1 pc = .ok (.iload_n j, 1)) (hn : pc + 1 = n) (hi : (j : Nat) = i) (hx : L[i]? = some (some (.int x))) (k : fv_V K Bs X nL Q n L (.int x :: st) sz h cells slots) : fv_V K Bs X nL Q pc L st sz h cells slots := by
  subst hn
  intro H locs ls hR hl hL
  exact lv_iload_n C.1 C.2.1 hd hi (hL.at hx) (k H locs ls hR hl hL)
theorem fv_iload (C : fv_C K WA X M mc ms) {i : Nat} {x : Int32} (hd : decode M.2.1 pc = .ok (.iload i, 2)) (hn : pc + 2 = n) (hx : L[i]? = some (some (.int x))) (k : fv_V K Bs X nL Q n L (.int x :: st) sz h cells slots) : fv_V K Bs X nL Q pc L st sz h cells slots := by
  subst hn
  intro H locs ls hR hl hL
  exact lv_iload C.1 C.2.1 hd (hL.at hx) (k H locs ls hR hl hL)
theorem fv_aload_n (C : fv_C K WA X M mc ms) {j : Fin 4} {i : Nat} {x : Nat} (hd : decode M.2.1 pc = .ok (.aload_n j, 1)) (hn : pc + 1 = n) (hi : (j : Nat) = i) (hx : L[i]? = some (some (.ref x))) (k : fv_V K Bs X nL Q n L (.ref x :: st) sz h cells slots) : fv_V K Bs X nL Q pc L st sz h cells slots := by
  subst hn
  intro H locs ls hR hl hL
  exact lv_aload_n C.1 C.2.1 hd hi (hL.at hx) (k H locs ls hR hl hL)
theorem fv_aload (C : fv_C K WA X M mc ms) {i : Nat} {x : Nat} (hd : decode M.2.1 pc = .ok (.aload i, 2)) (hn : pc + 2 = n) (hx : L[i]? = some (some (.ref x))) (k : fv_V K Bs X nL Q n L (.ref x :: st) sz h cells slots) : fv_V K Bs X nL Q pc L st sz h cells slots := by
  subst hn
  intro H locs ls hR hl hL
  exact lv_aload C.1 C.2.1 hd (hL.at hx) (k H locs ls hR hl hL)
theorem fv_aload_nN (C : fv_C K WA X M mc ms) {j : Fin 4} {i : Nat} (hd : decode M.2.1 pc = .ok (.aload_n j, 1)) (hn : pc + 1 = n) (hi : (j : Nat) = i) (hx : L[i]? = some (some .null)) (k : fv_V K Bs X nL Q n L (.null :: st) sz h cells slots) : fv_V K Bs X nL Q pc L st sz h cells slots := by
  subst hn
  intro H locs ls hR hl hL
  exact lv_aload_nN C.1 C.2.1 hd hi (hL.at hx) (k H locs ls hR hl hL)
theorem fv_aloadN (C : fv_C K WA X M mc ms) {i : Nat} (hd : decode M.2.1 pc = .ok (.aload i, 2)) (hn : pc + 2 = n) (hx : L[i]? = some (some .null)) (k : fv_V K Bs X nL Q n L (.null :: st) sz h cells slots) : fv_V K Bs X nL Q pc L st sz h cells slots := by
  subst hn
  intro H locs ls hR hl hL
  exact lv_aloadN C.1 C.2.1 hd (hL.at hx) (k H locs ls hR hl hL)
theorem fv_istore_n (C : fv_C K WA X M mc ms) {j : Fin 4} {i : Nat} {x : Int32} (hd : decode M.2.1 pc = .ok (.istore_n j, 1)) (hn : pc + 1 = n) (hi : (j : Nat) = i) (hnL : i < nL) (hL' : L.set i (some (.int x)) = L') (k : fv_V K Bs X nL Q n L' st sz h cells slots) : fv_V K Bs X nL Q pc L ((.int x) :: st) sz h cells slots := by
  subst hn
  subst hL'
  intro H locs ls hR hl hL
  exact lv_istore_n C.1 C.2.1 hd hi hL.1 hnL rfl (fun ls' h' => k H locs ls' hR hl (hL.store rfl h'))
theorem fv_istore (C : fv_C K WA X M mc ms) {i : Nat} {x : Int32} (hd : decode M.2.1 pc = .ok (.istore i, 2)) (hn : pc + 2 = n)  (hnL : i < nL) (hL' : L.set i (some (.int x)) = L') (k : fv_V K Bs X nL Q n L' st sz h cells slots) : fv_V K Bs X nL Q pc L ((.int x) :: st) sz h cells slots := by
  subst hn
  subst hL'
  intro H locs ls hR hl hL
  exact lv_istore C.1 C.2.1 hd  hL.1 hnL rfl (fun ls' h' => k H locs ls' hR hl (hL.store rfl h'))
theorem fv_astore_n (C : fv_C K WA X M mc ms) {j : Fin 4} {i : Nat} {x : Nat} (hd : decode M.2.1 pc = .ok (.astore_n j, 1)) (hn : pc + 1 = n) (hi : (j : Nat) = i) (hnL : i < nL) (hL' : L.set i (some (.ref x)) = L') (k : fv_V K Bs X nL Q n L' st sz h cells slots) : fv_V K Bs X nL Q pc L ((.ref x) :: st) sz h cells slots := by
  subst hn
  subst hL'
  intro H locs ls hR hl hL
  exact lv_astore_n C.1 C.2.1 hd hi hL.1 hnL rfl (fun ls' h' => k H locs ls' hR hl (hL.store rfl h'))
theorem fv_astore (C : fv_C K WA X M mc ms) {i : Nat} {x : Nat} (hd : decode M.2.1 pc = .ok (.astore i, 2)) (hn : pc + 2 = n)  (hnL : i < nL) (hL' : L.set i (some (.ref x)) = L') (k : fv_V K Bs X nL Q n L' st sz h cells slots) : fv_V K Bs X nL Q pc L ((.ref x) :: st) sz h cells slots := by
  subst hn
  subst hL'
  intro H locs ls hR hl hL
  exact lv_astore C.1 C.2.1 hd  hL.1 hnL rfl (fun ls' h' => k H locs ls' hR hl (hL.store rfl h'))
theorem fv_astore_nN (C : fv_C K WA X M mc ms) {j : Fin 4} {i : Nat} (hd : decode M.2.1 pc = .ok (.astore_n j, 1)) (hn : pc + 1 = n) (hi : (j : Nat) = i) (hnL : i < nL) (hL' : L.set i (some .null) = L') (k : fv_V K Bs X nL Q n L' st sz h cells slots) : fv_V K Bs X nL Q pc L (.null :: st) sz h cells slots := by
  subst hn
  subst hL'
  intro H locs ls hR hl hL
  exact lv_astore_nN C.1 C.2.1 hd hi hL.1 hnL rfl (fun ls' h' => k H locs ls' hR hl (hL.store rfl h'))
theorem fv_astoreN (C : fv_C K WA X M mc ms) {i : Nat} (hd : decode M.2.1 pc = .ok (.astore i, 2)) (hn : pc + 2 = n)  (hnL : i < nL) (hL' : L.set i (some .null) = L') (k : fv_V K Bs X nL Q n L' st sz h cells slots) : fv_V K Bs X nL Q pc L (.null :: st) sz h cells slots := by
  subst hn
  subst hL'
  intro H locs ls hR hl hL
  exact lv_astoreN C.1 C.2.1 hd  hL.1 hnL rfl (fun ls' h' => k H locs ls' hR hl (hL.store rfl h'))
theorem fv_iinc (C : fv_C K WA X M mc ms) {i : Nat} {z : Int} {x v : Int32} (hd : decode M.2.1 pc = .ok (.iinc i z, 3)) (hn : pc + 3 = n) (hx : L[i]? = some (some (.int x))) (hv : x + Int32.ofInt z = v) (hnL : i < nL) (hL' : L.set i (some (.int v)) = L') (k : fv_V K Bs X nL Q n L' st sz h cells slots) : fv_V K Bs X nL Q pc L st sz h cells slots := by
  subst hn
  subst hL'
  intro H locs ls hR hl hL
  obtain ⟨q, hq⟩ := List.getElem?_of_mem ((fv_mem L 0 i (.int x)).mpr ⟨Nat.zero_le _, hx⟩)
  exact lv_iinc C.1 C.2.1 hd hL.1 hq hv hnL rfl (fun ls' h' => k H locs ls' hR hl (hL.store rfl h'))
theorem fv_iadd (C : fv_C K WA X M mc ms) {x y : Int32} (hd : decode M.2.1 pc = .ok (.iadd, 1)) (hn : pc + 1 = n)  (k : fv_V K Bs X nL Q n L (.int (x + y) :: st) sz h cells slots) : fv_V K Bs X nL Q pc L (.int y :: .int x :: st) sz h cells slots := by
  subst hn
  intro H locs ls hR hl hL
  exact lv_iadd C.1 C.2.1 hd (k H locs ls hR hl hL)
theorem fv_isub (C : fv_C K WA X M mc ms) {x y : Int32} (hd : decode M.2.1 pc = .ok (.isub, 1)) (hn : pc + 1 = n)  (k : fv_V K Bs X nL Q n L (.int (x - y) :: st) sz h cells slots) : fv_V K Bs X nL Q pc L (.int y :: .int x :: st) sz h cells slots := by
  subst hn
  intro H locs ls hR hl hL
  exact lv_isub C.1 C.2.1 hd (k H locs ls hR hl hL)
theorem fv_imul (C : fv_C K WA X M mc ms) {x y : Int32} (hd : decode M.2.1 pc = .ok (.imul, 1)) (hn : pc + 1 = n)  (k : fv_V K Bs X nL Q n L (.int (x * y) :: st) sz h cells slots) : fv_V K Bs X nL Q pc L (.int y :: .int x :: st) sz h cells slots := by
  subst hn
  intro H locs ls hR hl hL
  exact lv_imul C.1 C.2.1 hd (k H locs ls hR hl hL)
theorem fv_iand (C : fv_C K WA X M mc ms) {x y : Int32} (hd : decode M.2.1 pc = .ok (.iand, 1)) (hn : pc + 1 = n)  (k : fv_V K Bs X nL Q n L (.int (x &&& y) :: st) sz h cells slots) : fv_V K Bs X nL Q pc L (.int y :: .int x :: st) sz h cells slots := by
  subst hn
  intro H locs ls hR hl hL
  exact lv_iand C.1 C.2.1 hd (k H locs ls hR hl hL)
theorem fv_idiv (C : fv_C K WA X M mc ms) {x y : Int32} (hd : decode M.2.1 pc = .ok (.idiv, 1)) (hn : pc + 1 = n) (h0 : ¬ y = 0) (k : fv_V K Bs X nL Q n L (.int (x / y) :: st) sz h cells slots) : fv_V K Bs X nL Q pc L (.int y :: .int x :: st) sz h cells slots := by
  subst hn
  intro H locs ls hR hl hL
  exact lv_idiv C.1 C.2.1 hd h0 (k H locs ls hR hl hL)
theorem fv_irem (C : fv_C K WA X M mc ms) {x y : Int32} (hd : decode M.2.1 pc = .ok (.irem, 1)) (hn : pc + 1 = n) (h0 : ¬ y = 0) (k : fv_V K Bs X nL Q n L (.int (x - x / y * y) :: st) sz h cells slots) : fv_V K Bs X nL Q pc L (.int y :: .int x :: st) sz h cells slots := by
  subst hn
  intro H locs ls hR hl hL
  exact lv_irem C.1 C.2.1 hd h0 (k H locs ls hR hl hL)
theorem fv_iushr (C : fv_C K WA X M mc ms) {x y v : Int32} (hd : decode M.2.1 pc = .ok (.iushr, 1)) (hn : pc + 1 = n) (hv : (x.toUInt32 >>> (y.toUInt32 &&& Int32.toUInt32 31)).toInt32 = v) (k : fv_V K Bs X nL Q n L (.int v :: st) sz h cells slots) : fv_V K Bs X nL Q pc L (.int y :: .int x :: st) sz h cells slots := by
  subst hn
  intro H locs ls hR hl hL
  exact lv_iushr C.1 C.2.1 hd hv (k H locs ls hR hl hL)
theorem fv_ineg (C : fv_C K WA X M mc ms) {x : Int32} (hd : decode M.2.1 pc = .ok (.ineg, 1)) (hn : pc + 1 = n)  (k : fv_V K Bs X nL Q n L (.int (-x) :: st) sz h cells slots) : fv_V K Bs X nL Q pc L (.int x :: st) sz h cells slots := by
  subst hn
  intro H locs ls hR hl hL
  exact lv_ineg C.1 C.2.1 hd (k H locs ls hR hl hL)
theorem fv_dup (C : fv_C K WA X M mc ms) {va : Value} (hd : decode M.2.1 pc = .ok (.dup, 1)) (hn : pc + 1 = n) (hva : va.category = 1) (k : fv_V K Bs X nL Q n L (va :: va :: st) sz h cells slots) : fv_V K Bs X nL Q pc L (va :: st) sz h cells slots := by
  subst hn
  intro H locs ls hR hl hL
  exact lv_dup C.1 C.2.1 hd hva (k H locs ls hR hl hL)
theorem fv_pop (C : fv_C K WA X M mc ms) {va : Value} (hd : decode M.2.1 pc = .ok (.pop, 1)) (hn : pc + 1 = n) (hva : va.category = 1) (k : fv_V K Bs X nL Q n L st sz h cells slots) : fv_V K Bs X nL Q pc L (va :: st) sz h cells slots := by
  subst hn
  intro H locs ls hR hl hL
  exact lv_pop C.1 C.2.1 hd hva (k H locs ls hR hl hL)
theorem fv_dup_x1 (C : fv_C K WA X M mc ms) {va vb : Value} (hd : decode M.2.1 pc = .ok (.dup_x1, 1)) (hn : pc + 1 = n) (hva : va.category = 1) (hvb : vb.category = 1) (k : fv_V K Bs X nL Q n L (va :: vb :: va :: st) sz h cells slots) : fv_V K Bs X nL Q pc L (va :: vb :: st) sz h cells slots := by
  subst hn
  intro H locs ls hR hl hL
  exact lv_dup_x1 C.1 C.2.1 hd hva hvb (k H locs ls hR hl hL)
theorem fv_dup_x2 (C : fv_C K WA X M mc ms) {va vb vd : Value} (hd : decode M.2.1 pc = .ok (.dup_x2, 1)) (hn : pc + 1 = n) (hva : va.category = 1) (hvb : vb.category = 1) (hvd : vd.category = 1) (k : fv_V K Bs X nL Q n L (va :: vb :: vd :: va :: st) sz h cells slots) : fv_V K Bs X nL Q pc L (va :: vb :: vd :: st) sz h cells slots := by
  subst hn
  intro H locs ls hR hl hL
  exact lv_dup_x2 C.1 C.2.1 hd hva hvb hvd (k H locs ls hR hl hL)
theorem fv_dup2 (C : fv_C K WA X M mc ms) {va vb : Value} (hd : decode M.2.1 pc = .ok (.dup2, 1)) (hn : pc + 1 = n) (hva : va.category = 1) (hvb : vb.category = 1) (k : fv_V K Bs X nL Q n L (va :: vb :: va :: vb :: st) sz h cells slots) : fv_V K Bs X nL Q pc L (va :: vb :: st) sz h cells slots := by
  subst hn
  intro H locs ls hR hl hL
  exact lv_dup2_11 C.1 C.2.1 hd hva hvb (k H locs ls hR hl hL)
theorem fv_if_eq (C : fv_C K WA X M mc ms) {x : Int32} {off : Int} {tgt : Nat} (hd : decode M.2.1 pc = .ok (.ifCond .eq off, 3)) (ht : (pc : Int) + off = (tgt : Int)) (hn : pc + 3 = n) (kt : x = 0 → fv_V K Bs X nL Q tgt L st sz h cells slots) (kf : ¬ x = 0 → fv_V K Bs X nL Q n L st sz h cells slots) : fv_V K Bs X nL Q pc L (.int x :: st) sz h cells slots := by
  subst hn
  intro H locs ls hR hl hL
  exact lv_if_eq C.1 C.2.1 hd ht (fun q => kt q H locs ls hR hl hL) (fun q => kf q H locs ls hR hl hL)
theorem fv_icmp_eq (C : fv_C K WA X M mc ms) {x y : Int32} {off : Int} {tgt : Nat} (hd : decode M.2.1 pc = .ok (.if_icmp .eq off, 3)) (ht : (pc : Int) + off = (tgt : Int)) (hn : pc + 3 = n) (kt : x = y → fv_V K Bs X nL Q tgt L st sz h cells slots) (kf : ¬ x = y → fv_V K Bs X nL Q n L st sz h cells slots) : fv_V K Bs X nL Q pc L (.int y :: .int x :: st) sz h cells slots := by
  subst hn
  intro H locs ls hR hl hL
  exact lv_icmp_eq C.1 C.2.1 hd ht (fun q => kt q H locs ls hR hl hL) (fun q => kf q H locs ls hR hl hL)
theorem fv_if_ne (C : fv_C K WA X M mc ms) {x : Int32} {off : Int} {tgt : Nat} (hd : decode M.2.1 pc = .ok (.ifCond .ne off, 3)) (ht : (pc : Int) + off = (tgt : Int)) (hn : pc + 3 = n) (kt : ¬ x = 0 → fv_V K Bs X nL Q tgt L st sz h cells slots) (kf : x = 0 → fv_V K Bs X nL Q n L st sz h cells slots) : fv_V K Bs X nL Q pc L (.int x :: st) sz h cells slots := by
  subst hn
  intro H locs ls hR hl hL
  exact lv_if_ne C.1 C.2.1 hd ht (fun q => kt q H locs ls hR hl hL) (fun q => kf q H locs ls hR hl hL)
theorem fv_icmp_ne (C : fv_C K WA X M mc ms) {x y : Int32} {off : Int} {tgt : Nat} (hd : decode M.2.1 pc = .ok (.if_icmp .ne off, 3)) (ht : (pc : Int) + off = (tgt : Int)) (hn : pc + 3 = n) (kt : ¬ x = y → fv_V K Bs X nL Q tgt L st sz h cells slots) (kf : x = y → fv_V K Bs X nL Q n L st sz h cells slots) : fv_V K Bs X nL Q pc L (.int y :: .int x :: st) sz h cells slots := by
  subst hn
  intro H locs ls hR hl hL
  exact lv_icmp_ne C.1 C.2.1 hd ht (fun q => kt q H locs ls hR hl hL) (fun q => kf q H locs ls hR hl hL)
theorem fv_if_lt (C : fv_C K WA X M mc ms) {x : Int32} {off : Int} {tgt : Nat} (hd : decode M.2.1 pc = .ok (.ifCond .lt off, 3)) (ht : (pc : Int) + off = (tgt : Int)) (hn : pc + 3 = n) (kt : x < 0 → fv_V K Bs X nL Q tgt L st sz h cells slots) (kf : ¬ x < 0 → fv_V K Bs X nL Q n L st sz h cells slots) : fv_V K Bs X nL Q pc L (.int x :: st) sz h cells slots := by
  subst hn
  intro H locs ls hR hl hL
  exact lv_if_lt C.1 C.2.1 hd ht (fun q => kt q H locs ls hR hl hL) (fun q => kf q H locs ls hR hl hL)
theorem fv_icmp_lt (C : fv_C K WA X M mc ms) {x y : Int32} {off : Int} {tgt : Nat} (hd : decode M.2.1 pc = .ok (.if_icmp .lt off, 3)) (ht : (pc : Int) + off = (tgt : Int)) (hn : pc + 3 = n) (kt : x < y → fv_V K Bs X nL Q tgt L st sz h cells slots) (kf : ¬ x < y → fv_V K Bs X nL Q n L st sz h cells slots) : fv_V K Bs X nL Q pc L (.int y :: .int x :: st) sz h cells slots := by
  subst hn
  intro H locs ls hR hl hL
  exact lv_icmp_lt C.1 C.2.1 hd ht (fun q => kt q H locs ls hR hl hL) (fun q => kf q H locs ls hR hl hL)
theorem fv_if_ge (C : fv_C K WA X M mc ms) {x : Int32} {off : Int} {tgt : Nat} (hd : decode M.2.1 pc = .ok (.ifCond .ge off, 3)) (ht : (pc : Int) + off = (tgt : Int)) (hn : pc + 3 = n) (kt : 0 ≤ x → fv_V K Bs X nL Q tgt L st sz h cells slots) (kf : ¬ 0 ≤ x → fv_V K Bs X nL Q n L st sz h cells slots) : fv_V K Bs X nL Q pc L (.int x :: st) sz h cells slots := by
  subst hn
  intro H locs ls hR hl hL
  exact lv_if_ge C.1 C.2.1 hd ht (fun q => kt q H locs ls hR hl hL) (fun q => kf q H locs ls hR hl hL)
theorem fv_icmp_ge (C : fv_C K WA X M mc ms) {x y : Int32} {off : Int} {tgt : Nat} (hd : decode M.2.1 pc = .ok (.if_icmp .ge off, 3)) (ht : (pc : Int) + off = (tgt : Int)) (hn : pc + 3 = n) (kt : y ≤ x → fv_V K Bs X nL Q tgt L st sz h cells slots) (kf : ¬ y ≤ x → fv_V K Bs X nL Q n L st sz h cells slots) : fv_V K Bs X nL Q pc L (.int y :: .int x :: st) sz h cells slots := by
  subst hn
  intro H locs ls hR hl hL
  exact lv_icmp_ge C.1 C.2.1 hd ht (fun q => kt q H locs ls hR hl hL) (fun q => kf q H locs ls hR hl hL)
theorem fv_if_gt (C : fv_C K WA X M mc ms) {x : Int32} {off : Int} {tgt : Nat} (hd : decode M.2.1 pc = .ok (.ifCond .gt off, 3)) (ht : (pc : Int) + off = (tgt : Int)) (hn : pc + 3 = n) (kt : 0 < x → fv_V K Bs X nL Q tgt L st sz h cells slots) (kf : ¬ 0 < x → fv_V K Bs X nL Q n L st sz h cells slots) : fv_V K Bs X nL Q pc L (.int x :: st) sz h cells slots := by
  subst hn
  intro H locs ls hR hl hL
  exact lv_if_gt C.1 C.2.1 hd ht (fun q => kt q H locs ls hR hl hL) (fun q => kf q H locs ls hR hl hL)
theorem fv_icmp_gt (C : fv_C K WA X M mc ms) {x y : Int32} {off : Int} {tgt : Nat} (hd : decode M.2.1 pc = .ok (.if_icmp .gt off, 3)) (ht : (pc : Int) + off = (tgt : Int)) (hn : pc + 3 = n) (kt : y < x → fv_V K Bs X nL Q tgt L st sz h cells slots) (kf : ¬ y < x → fv_V K Bs X nL Q n L st sz h cells slots) : fv_V K Bs X nL Q pc L (.int y :: .int x :: st) sz h cells slots := by
  subst hn
  intro H locs ls hR hl hL
  exact lv_icmp_gt C.1 C.2.1 hd ht (fun q => kt q H locs ls hR hl hL) (fun q => kf q H locs ls hR hl hL)
theorem fv_if_le (C : fv_C K WA X M mc ms) {x : Int32} {off : Int} {tgt : Nat} (hd : decode M.2.1 pc = .ok (.ifCond .le off, 3)) (ht : (pc : Int) + off = (tgt : Int)) (hn : pc + 3 = n) (kt : x ≤ 0 → fv_V K Bs X nL Q tgt L st sz h cells slots) (kf : ¬ x ≤ 0 → fv_V K Bs X nL Q n L st sz h cells slots) : fv_V K Bs X nL Q pc L (.int x :: st) sz h cells slots := by
  subst hn
  intro H locs ls hR hl hL
  exact lv_if_le C.1 C.2.1 hd ht (fun q => kt q H locs ls hR hl hL) (fun q => kf q H locs ls hR hl hL)
theorem fv_icmp_le (C : fv_C K WA X M mc ms) {x y : Int32} {off : Int} {tgt : Nat} (hd : decode M.2.1 pc = .ok (.if_icmp .le off, 3)) (ht : (pc : Int) + off = (tgt : Int)) (hn : pc + 3 = n) (kt : x ≤ y → fv_V K Bs X nL Q tgt L st sz h cells slots) (kf : ¬ x ≤ y → fv_V K Bs X nL Q n L st sz h cells slots) : fv_V K Bs X nL Q pc L (.int y :: .int x :: st) sz h cells slots := by
  subst hn
  intro H locs ls hR hl hL
  exact lv_icmp_le C.1 C.2.1 hd ht (fun q => kt q H locs ls hR hl hL) (fun q => kf q H locs ls hR hl hL)
theorem fv_goto (C : fv_C K WA X M mc ms) {off : Int} {tgt : Nat} (hd : decode M.2.1 pc = .ok (.goto off, 3)) (ht : (pc : Int) + off = (tgt : Int)) (k : fv_V K Bs X nL Q tgt L st sz h cells slots) : fv_V K Bs X nL Q pc L st sz h cells slots := fun H locs ls hR hl hL => lv_goto C.1 C.2.1 hd ht (k H locs ls hR hl hL)
theorem fv_ifnonnull (C : fv_C K WA X M mc ms) {x : Nat} {off : Int} {tgt : Nat} (hd : decode M.2.1 pc = .ok (.ifnonnull off, 3)) (ht : (pc : Int) + off = (tgt : Int)) (k : fv_V K Bs X nL Q tgt L st sz h cells slots) : fv_V K Bs X nL Q pc L (.ref x :: st) sz h cells slots := fun H locs ls hR hl hL => lv_ifnonnull C.1 C.2.1 hd ht (k H locs ls hR hl hL)
theorem fv_ifnonnullN (C : fv_C K WA X M mc ms) {off : Int} (hd : decode M.2.1 pc = .ok (.ifnonnull off, 3)) (hn : pc + 3 = n) (k : fv_V K Bs X nL Q n L st sz h cells slots) : fv_V K Bs X nL Q pc L (.null :: st) sz h cells slots := by
  subst hn
  exact fun H locs ls hR hl hL => lv_ifnonnullN C.1 C.2.1 hd (k H locs ls hR hl hL)
theorem fv_ifnull (C : fv_C K WA X M mc ms) {x : Nat} {off : Int} (hd : decode M.2.1 pc = .ok (.ifnull off, 3)) (hn : pc + 3 = n) (k : fv_V K Bs X nL Q n L st sz h cells slots) : fv_V K Bs X nL Q pc L (.ref x :: st) sz h cells slots := by
  subst hn
  exact fun H locs ls hR hl hL => lv_ifnull C.1 C.2.1 hd (k H locs ls hR hl hL)
theorem fv_ifnullN (C : fv_C K WA X M mc ms) {off : Int} {tgt : Nat} (hd : decode M.2.1 pc = .ok (.ifnull off, 3)) (ht : (pc : Int) + off = (tgt : Int)) (k : fv_V K Bs X nL Q tgt L st sz h cells slots) : fv_V K Bs X nL Q pc L (.null :: st) sz h cells slots := fun H locs ls hR hl hL => lv_ifnullN C.1 C.2.1 hd ht (k H locs ls hR hl hL)
theorem fv_tableOut (C : fv_C K WA X M mc ms) {dflt lo hi : Int} {offs : Array Int} {len : Nat} {x : Int32} {tgt : Nat} (hd : decode M.2.1 pc = .ok (.tableswitch dflt lo hi offs, len)) (hx : x.toInt < lo ∨ hi < x.toInt) (ht : (pc : Int) + dflt = (tgt : Int)) (k : fv_V K Bs X nL Q tgt L st sz h cells slots) : fv_V K Bs X nL Q pc L (.int x :: st) sz h cells slots := fun H locs ls hR hl hL => lv_tableOut C.1 C.2.1 hd hx ht (k H locs ls hR hl hL)
theorem fv_tableIn (C : fv_C K WA X M mc ms) {dflt lo hi : Int} {offs : Array Int} {len : Nat} {x : Int32} {off : Int} {tgt : Nat} (hd : decode M.2.1 pc = .ok (.tableswitch dflt lo hi offs, len)) (h1 : ¬ x.toInt < lo) (h2 : ¬ hi < x.toInt) (ho : offs[(x.toInt - lo).toNat]? = some off) (ht : (pc : Int) + off = (tgt : Int)) (k : fv_V K Bs X nL Q tgt L st sz h cells slots) : fv_V K Bs X nL Q pc L (.int x :: st) sz h cells slots := fun H locs ls hR hl hL => lv_tableIn C.1 C.2.1 hd h1 h2 ho ht (k H locs ls hR hl hL)
theorem fv_lookup (C : fv_C K WA X M mc ms) {dflt : Int} {ps : Array (Int × Int)} {len : Nat} {x : Int32} {off : Int} {tgt : Nat} (hd : decode M.2.1 pc = .ok (.lookupswitch dflt ps, len)) (hp : (ps.toList.zip (ps.toList.drop 1)).all (fun (a, next) => a.1 < next.1) = true) (ho : Op.lookupswitch.offset ps.toList dflt x.toInt = off) (ht : (pc : Int) + off = (tgt : Int)) (k : fv_V K Bs X nL Q tgt L st sz h cells slots) : fv_V K Bs X nL Q pc L (.int x :: st) sz h cells slots := fun H locs ls hR hl hL => lv_lookup C.1 C.2.1 hd hp ho ht (k H locs ls hR hl hL)
theorem fv_iret (C : fv_C K WA X M mc ms) {post : Option Value → Nat → fv_H → Prop} {v : Int32} (hr : M.2.2.2.1 = some .int) (hd : decode M.2.1 pc = .ok (.ireturn, 1)) (hc : cells ≤ mc) (hs : slots ≤ ms) (hp : post (some (.int v)) sz h) : fv_V K Bs X nL (fv_MQ K Bs X post mc ms) pc L [.int v] sz h cells slots := by
  intro H locs ls hR hl hL
  refine W.widen hc hs ?_
  exact W.iret C.1 C.2.1 (C.2.2.2.1.trans hr) (fun t ht hW => ⟨_, sz, h, rfl, hp, by rw [ht]; exact hR⟩) hl hd C.2.2.2.2.1
theorem fv_zret (C : fv_C K WA X M mc ms) {post : Option Value → Nat → fv_H → Prop} {v : Int32} (hr : M.2.2.2.1 = some .boolean) (hd : decode M.2.1 pc = .ok (.ireturn, 1)) (hv : narrow .boolean (.int v) = .int v) (hc : cells ≤ mc) (hs : slots ≤ ms) (hp : post (some (.int v)) sz h) : fv_V K Bs X nL (fv_MQ K Bs X post mc ms) pc L [.int v] sz h cells slots := by
  intro H locs ls hR hl hL
  refine W.widen hc hs ?_
  exact W.zret C.1 C.2.1 (C.2.2.2.1.trans hr) hv (fun t ht hW => ⟨_, sz, h, rfl, hp, by rw [ht]; exact hR⟩) hl hd C.2.2.2.2.1
theorem fv_vret (C : fv_C K WA X M mc ms) {post : Option Value → Nat → fv_H → Prop} (hr : M.2.2.2.1 = none) (hd : decode M.2.1 pc = .ok (.return_, 1)) (hc : cells ≤ mc) (hs : slots ≤ ms) (hp : post none sz h) : fv_V K Bs X nL (fv_MQ K Bs X post mc ms) pc L [] sz h cells slots := by
  intro H locs ls hR hl hL
  refine W.widen hc hs ?_
  exact W.vret C.1 C.2.1 (C.2.2.2.1.trans hr) (fun t ht hW => ⟨_, sz, h, rfl, hp, by rw [ht]; exact hR⟩) hl hd C.2.2.2.2.1
theorem fv_aret (C : fv_C K WA X M mc ms) {post : Option Value → Nat → fv_H → Prop} {v : Value} {rt : FieldType} (hr : M.2.2.2.1 = some rt) (hrt : (∃ n, rt = .object n) ∨ ∃ t, rt = .array t) (hv : v = .null ∨ ∃ a, v = .ref a) (hd : decode M.2.1 pc = .ok (.areturn, 1)) (hc : cells ≤ mc) (hs : slots ≤ ms) (hp : post (some v) sz h) : fv_V K Bs X nL (fv_MQ K Bs X post mc ms) pc L [v] sz h cells slots := by
  intro H locs ls hR hl hL
  refine W.widen hc hs ?_
  exact W.aret C.1 C.2.1 (C.2.2.2.1.trans hr) hrt hv (fun t ht hW => ⟨_, sz, h, rfl, hp, by rw [ht]; exact hR⟩) hl hd C.2.2.2.2.1
/-- a field's link: class own's pool entry idx names field k of class ci, of type ty -/
def fv_FL (K : fv_K) (WA : List Cond) (own : String) (idx ci k : Nat) (ty : FieldType) (fin : Bool) : Prop :=
  ∃ (C0 : String) (T : u_T) (N : Nat) (ty0 : Nat → FieldType), K.2.1[ci]? = some (C0, T, N) ∧ k < N ∧ (∀ w ∈ u_ws C0 T N, w ∈ WA) ∧ (T k).1 = C0 ∧ (Cond.fieldLink own idx C0 (T k).2.1 (T k).2.2.1 ∈ WA ∨ ∃ host, (own, idx, C0, (T k).2.1, (T k).2.2.1, host) ∈ K.2.2.2.1) ∧
  (∀ j, j < N → parseFieldDescriptor (T j).2.2.1 = some (ty0 j)) ∧ (∀ a, a < N → ∀ b, b < N → a ≠ b → (T a).2.1 ≠ (T b).2.1) ∧ ty0 k = ty ∧ (T k).2.2.2 = fin
theorem fv_get (C : fv_C K WA X M mc ms) {idx ci k a : Nat} {ty : FieldType} {fin : Bool} {fs : List Value} {v : Value} (F : fv_FL K WA M.1.cls idx ci k ty fin) (hd : decode M.2.1 pc = .ok (.getfield idx, 3)) (hn : pc + 3 = n) (ha : h a = some (.inr (ci, fs))) (hv : fs[k]? = some v) (kk : fv_V K Bs X nL Q n L (v :: st) sz h cells slots) : fv_V K Bs X nL Q pc L (.ref a :: st) sz h cells slots := by
  subst hn
  intro H locs ls hR hl hL
  obtain ⟨C0, T, N, ty0, hc, hk, hin, hT, hlink, -⟩ := F
  rcases hlink with hlink | ⟨host, hlink⟩
  · exact va_get (D := K.1) (cl := K.2.1) (tys := K.2.2.1) C.1 C.2.1 C.2.2.2.2.2.2.1 hin C.2.2.2.2.2.1 C.2.2.2.2.2.2.2.1.1 (hR.one ha) 0 rfl hc k hk (C.2.2.2.2.2.2.1 _ hlink) (fun x hx => by rw [hT] at hx; exact hx) hv hd (kk H locs ls hR hl hL)
  · exact va_getN (D := K.1) (cl := K.2.1) (tys := K.2.2.1) C.1 C.2.1 C.2.2.2.2.2.2.1 hin C.2.2.2.2.2.1 C.2.2.2.2.2.2.2.1.1 (hR.one ha) 0 rfl hc k hk (va_Nw.use rfl (C.2.2.2.2.2.2.2.1.2.1 _ hlink)) (fun x hx => by rw [hT] at hx; exact hx) hv hd (kk H locs ls hR hl hL)
theorem fv_locs {locs : List Loc} {a i : Nat} (hl : ∀ q ∈ locs, Bs ≤ q.base) (ha : Bs ≤ a) : ∀ q ∈ locs ++ [(⟨a, i⟩ : Loc)], Bs ≤ q.base := by
  intro q hq
  rcases List.mem_append.mp hq with h1 | h1
  · exact hl q h1
  · rw [List.mem_singleton.mp h1]
    exact ha
theorem fv_put (C : fv_C K WA X M mc ms) {idx ci k a : Nat} {ty : FieldType} {fin : Bool} {fs : List Value} {v : Value} (F : fv_FL K WA M.1.cls idx ci k ty fin) (hfin : fin = false ∨ (fin = true ∧ M.1.name = "<init>" ∧ ∃ r, K.2.1[ci]? = some (M.1.cls, r) ∧ ∀ host C0 nm ds, (M.1.cls, idx, C0, nm, ds, host) ∉ K.2.2.2.1)) (hd : decode M.2.1 pc = .ok (.putfield idx, 3)) (hn : pc + 3 = n) (ha : h a = some (.inr (ci, fs))) (hB : Bs ≤ a) (hnr : narrow ty v = v) (hft : fits ty v = true) (hl9 : k < fs.length)
    (kk : fv_V K Bs X nL Q n L st sz (va_up h a (some (.inr (ci, fs.set k v)))) cells slots) : fv_V K Bs X nL Q pc L (v :: .ref a :: st) sz h cells slots := by
  subst hn
  intro H locs ls hR hl hL
  obtain ⟨C0, T, N, ty0, hc, hk, hin, hT, hlink, hty, hnm, hk0, hTf⟩ := F
  have hts := C.2.2.2.2.2.2.1
  have hown := C.2.2.2.2.2.1
  have hK := C.2.2.2.2.2.2.2.1.1
  have hd0 : parseFieldDescriptor (T k).2.2.1 = some ty := by rw [hty k hk, hk0]
  have hap := va_apart (own := M.1.cls) hts hin ty0 hty hnm hK hc
  obtain ⟨r, h1, cell, q1, q2, q3, q4⟩ := hR.2 a _ ha
  have hr : r = (C0, T, N) := Option.some.inj (h1.symm.trans hc)
  subst hr
  obtain ⟨hS, hfc, kC, hkC, hkind⟩ := hK.1 ci _ hc
  obtain ⟨cf, kf, fi, f, hi, hsl⟩ := hS k hk
  have hlay := hts _ (hin _ (u_in_lay hk))
  have hst := (u_facts hfc hkC (u_lays hts hin hk) hi).1
  have fin2 : ∀ H1 : Heap, H1[a]? = some (cell.setSlot f.slot v) → H1.size = H.size → (∀ q, q ≠ a → H1[q]? = H[q]?) → fv_R K sz (va_up h a (some (.inr (ci, fs.set k v)))) H1 := by
    intro H1 e1 e2 e3
    rw [hsl] at e1
    exact hR.set e2 e3 ⟨_, hc, t_OB.to (V := updV (vp_V fs) k v) ⟨_, e1, q2, q3, t_set q4 hap hk v⟩ (fun j _ => vp_updV_set hl9 v j)⟩
  have hsame : ∀ x, X.2.2.2.2.1.fieldFound? (T k).1 (T k).2.1 (T k).2.2.1 = some x → X.2.2.2.2.1.fieldFound? C0 (T k).2.1 (T k).2.2.1 = some x := fun x hx => by rw [hT] at hx; exact hx
  have hlt : f.slot < cell.slots.size := by rw [hsl]; exact k2_hasslot (q4 k hk)
  unfold u_lay at hlay
  rcases hfin with hfin | ⟨hfin, hini, r, hrr, hno⟩
  · rw [if_neg (by rw [hTf, hfin]; decide)] at hlay
    have h6 := u_store hfc hkC hkind hlay hi hd0 hnr hft
    rcases hlink with hlink | ⟨host, hlink⟩
    · exact W.putK C.1 C.2.1 (f := f) ⟨hown, hts _ hlink, ⟨_, _, _, hsame _ hi⟩, hst⟩ (by rw [q2]; exact h6) q1 q3 hlt rfl rfl hd fun H' e1 e2 e3 => kk H' _ ls (fin2 H' e1 e2 e3) (fv_locs hl hB) hL
    · exact va_WputK C.1 C.2.1 (f := f) hown (va_Nw.use rfl (C.2.2.2.2.2.2.2.1.2.1 _ hlink)) (hsame _ hi) hst (by rw [q2]; exact h6) q1 q3 hlt rfl rfl hd fun H' e1 e2 e3 => kk H' _ ls (fin2 H' e1 e2 e3) (fv_locs hl hB) hL
  · rw [if_pos (by rw [hTf, hfin])] at hlay
    rcases hlink with hlink | ⟨host, hlink⟩
    · have hcls : C0 = M.1.cls := (Prod.mk.inj (Option.some.inj (hc.symm.trans hrr))).1
      have hcf : X.2.2.2.2.2.1.cls = cf := by
        obtain ⟨_, _, c', _, _, _, -, -, hf', -, -, -, hown2, -⟩ := Cond.laysFinal_spec hlay
        have e1 : c' = cf := by have := hi.symm.trans hf'; simp at this; exact this.1.symm
        rw [hT, hcls] at hown2
        rw [← e1]; exact Option.some.inj (hown.symm.trans hown2)
      have h6 := u_fits hfc hkC hkind (Or.inr hlay) hi hd0 hnr hft
      exact W.putFinK C.1 C.2.1 hown (hts _ hlink) (hsame _ hi) hst hcf (C.2.2.2.2.2.2.2.2.2.trans hini) (by rw [q2]; exact h6) q1 q3 hlt rfl rfl hd fun H' e1 e2 e3 => kk H' _ ls (fin2 H' e1 e2 e3) (fv_locs hl hB) hL
    · exact absurd hlink (hno _ _ _ _)
theorem fv_iald (C : fv_C K WA X M mc ms) {a t0 : Nat} {cA : ClassId} {N : Nat} {f : Nat → Int32} {i : Int32} (ht : K.2.2.1[t0]? = some (cA, .int)) (hd : decode M.2.1 pc = .ok (.iaload, 1)) (hn : pc + 1 = n) (ha : h a = some (.inl (cA, N, .inl f))) (hin : vp_in i N) (kk : fv_V K Bs X nL Q n L (.int (f i.toNatClampNeg) :: st) sz h cells slots) : fv_V K Bs X nL Q pc L (.int i :: .ref a :: st) sz h cells slots := by
  subst hn
  exact fun H locs ls hR hl hL => va_iald (D := K.1) (cl := K.2.1) (tys := K.2.2.1) C.1 C.2.1 C.2.2.2.2.2.2.2.1.1 (hR.one ha) 0 t0 rfl ht hin hd (kk H locs ls hR hl hL)
theorem fv_zald (C : fv_C K WA X M mc ms) {a t0 : Nat} {cA : ClassId} {N : Nat} {f : Nat → Int32} {i : Int32} (ht : K.2.2.1[t0]? = some (cA, .boolean)) (hd : decode M.2.1 pc = .ok (.baload, 1)) (hn : pc + 1 = n) (ha : h a = some (.inl (cA, N, .inl f))) (hin : vp_in i N) (kk : fv_V K Bs X nL Q n L (.int (f i.toNatClampNeg) :: st) sz h cells slots) : fv_V K Bs X nL Q pc L (.int i :: .ref a :: st) sz h cells slots := by
  subst hn
  exact fun H locs ls hR hl hL => va_zald (D := K.1) (cl := K.2.1) (tys := K.2.2.1) C.1 C.2.1 C.2.2.2.2.2.2.2.1.1 (hR.one ha) 0 t0 rfl ht hin hd (kk H locs ls hR hl hL)
theorem fv_aald (C : fv_C K WA X M mc ms) {a t0 : Nat} {cA : ClassId} {C0 : String} {N : Nat} {f : Nat → Option Nat} {i : Int32} {v : Value} (ht : K.2.2.1[t0]? = some (cA, .object C0)) (hd : decode M.2.1 pc = .ok (.aaload, 1)) (hn : pc + 1 = n) (ha : h a = some (.inl (cA, N, .inr (.inr (.inr (.inr f)))))) (hin : vp_in i N) (hv : va_rf (f i.toNatClampNeg) = v) (kk : fv_V K Bs X nL Q n L (v :: st) sz h cells slots) : fv_V K Bs X nL Q pc L (.int i :: .ref a :: st) sz h cells slots := by
  subst hn
  subst hv
  exact fun H locs ls hR hl hL => va_aldq (D := K.1) (cl := K.2.1) (tys := K.2.2.1) C.1 C.2.1 C.2.2.2.2.2.2.2.1.1 (hR.one ha) 0 t0 rfl ht hin hd (kk H locs ls hR hl hL)
theorem fv_alen (C : fv_C K WA X M mc ms) {a t0 : Nat} {cA : ClassId} {x : vp_A} {ty : FieldType} {v : Int32} (ht : K.2.2.1[t0]? = some (cA, ty)) (hd : decode M.2.1 pc = .ok (.arraylength, 1)) (hn : pc + 1 = n) (ha : h a = some (.inl (cA, x))) (hv : Int32.ofNat x.1 = v) (kk : fv_V K Bs X nL Q n L (.int v :: st) sz h cells slots) : fv_V K Bs X nL Q pc L (.ref a :: st) sz h cells slots := by
  subst hn
  exact fun H locs ls hR hl hL => va_alen (D := K.1) (cl := K.2.1) (tys := K.2.2.1) C.1 C.2.1 C.2.2.2.2.2.2.2.1.1 (hR.one ha) 0 t0 rfl ht hv hd (kk H locs ls hR hl hL)
theorem fv_iast (C : fv_C K WA X M mc ms) {a t0 : Nat} {cA : ClassId} {N : Nat} {f : Nat → Int32} {i x : Int32} (ht : K.2.2.1[t0]? = some (cA, .int)) (hd : decode M.2.1 pc = .ok (.iastore, 1)) (hn : pc + 1 = n) (ha : h a = some (.inl (cA, N, .inl f))) (hB : Bs ≤ a) (hin : vp_in i N) (kk : fv_V K Bs X nL Q n L st sz (va_up h a (some (.inl (cA, N, .inl (upd f i.toNatClampNeg x))))) cells slots) : fv_V K Bs X nL Q pc L (.int x :: .int i :: .ref a :: st) sz h cells slots := by
  subst hn
  intro H locs ls hR hl hL
  refine W.iast C.1 C.2.1 (hR.2 a _ ha) ((C.2.2.2.2.2.2.2.1.1.2 t0 _ ht).1 N (fun j => .int (f j))) (fun q => by cases q) (by show ¬ (i < 0 ∨ (arrV _ _ _).slots.size ≤ _); rw [arrV_size]; exact hin) rfl rfl hd fun H1 e z oq => ?_
  refine kk H1 _ ls (hR.set z oq ?_) (fv_locs hl hB) hL
  show H1[a]? = some (vp_cell _ _)
  rw [e, vp_cell_i, vp_cell_i, arrV_store]
  congr 2
  funext q
  by_cases hq : q = i.toNatClampNeg
  · subst hq
    simp [updV, upd]
  · simp [updV, upd, hq]
theorem fv_zast (C : fv_C K WA X M mc ms) {a t0 : Nat} {cA : ClassId} {N : Nat} {f : Nat → Int32} {i x : Int32} (ht : K.2.2.1[t0]? = some (cA, .boolean)) (hd : decode M.2.1 pc = .ok (.bastore, 1)) (hn : pc + 1 = n) (ha : h a = some (.inl (cA, N, .inl f))) (hB : Bs ≤ a) (hin : vp_in i N) (hx : narrow .boolean (.int x) = .int x) (kk : fv_V K Bs X nL Q n L st sz (va_up h a (some (.inl (cA, N, .inl (upd f i.toNatClampNeg x))))) cells slots) : fv_V K Bs X nL Q pc L (.int x :: .int i :: .ref a :: st) sz h cells slots := by
  subst hn
  intro H locs ls hR hl hL
  refine W.zast C.1 C.2.1 (hR.2 a _ ha) ((C.2.2.2.2.2.2.2.1.1.2 t0 _ ht).1 N (fun j => .int (f j))) (fun q => by cases q) (by show ¬ (i < 0 ∨ (arrV _ _ _).slots.size ≤ _); rw [arrV_size]; exact hin) rfl rfl hd fun H1 e z oq => ?_
  refine kk H1 _ ls (hR.set z oq ?_) (fv_locs hl hB) hL
  show H1[a]? = some (vp_cell _ _)
  rw [e, hx, vp_cell_i, vp_cell_i, arrV_store]
  congr 2
  funext q
  by_cases hq : q = i.toNatClampNeg
  · subst hq
    simp [updV, upd]
  · simp [updV, upd, hq]
theorem fv_aast (C : fv_C K WA X M mc ms) {a t0 ci v : Nat} {cA : ClassId} {r : vw_C} {N : Nat} {vs : List Value} {f : Nat → Option Nat} {i : Int32} (ht : K.2.2.1[t0]? = some (cA, .object r.1)) (hd : decode M.2.1 pc = .ok (.aastore, 1)) (hn : pc + 1 = n) (ha : h a = some (.inl (cA, N, .inr (.inr (.inr (.inr f)))))) (hv : h v = some (.inr (ci, vs))) (hc : K.2.1[ci]? = some r) (hB : Bs ≤ a) (hin : vp_in i N) (kk : fv_V K Bs X nL Q n L st sz (va_up h a (some (.inl (cA, N, .inr (.inr (.inr (.inr (va_up f i.toNatClampNeg (some v))))))))) cells slots) : fv_V K Bs X nL Q pc L (.ref v :: .int i :: .ref a :: st) sz h cells slots := by
  subst hn
  intro H locs ls hR hl hL
  have hK := C.2.2.2.2.2.2.2.1.1
  have hlt : i.toNatClampNeg < N := Nat.not_le.mp fun q => hin (Or.inr q)
  have h0 : ¬ i < 0 := fun q => hin (Or.inl q)
  obtain ⟨r', hr', cellV, g1, g2, g3, -⟩ := hR.2 v _ hv
  have hcls := (hK.1 ci r hc).2
  obtain ⟨kA, comp, k1, k2, k3, -⟩ := (hK.2 t0 _ ht).2
  have hcomp : comp = K.1.1 ci := Option.some.inj (k3.symm.trans hcls.1)
  subst hcomp
  obtain ⟨kC, hkC, -⟩ := hcls.2
  refine W.aast C.1 C.2.1 (hR.2 a _ ha) (fun q h => by cases h) (fun h => by cases h) k1 k2 rfl hkC ⟨h0, by show _ < (arrV _ _ _).slots.size; rw [arrV_size]; exact hlt⟩ g1 (fun q h => by rw [g3] at h; cases h) (by rw [g2]; exact hkC) (by rw [g2]; exact va_assign hcls) rfl rfl hd fun H1 e z oq => ?_
  refine kk H1 _ ls (hR.set z oq ?_) (fv_locs hl hB) hL
  show H1[a]? = some (vp_cell _ _)
  rw [e, vp_cell_q, vp_cell_q, arrV_store]
  congr 2
  funext q
  by_cases hq : q = i.toNatClampNeg
  · subst hq
    simp [updV, va_up, va_rf]
  · simp [updV, va_up, hq]
theorem fv_aastN (C : fv_C K WA X M mc ms) {a t0 : Nat} {cA : ClassId} {C0 : String} {N : Nat} {f : Nat → Option Nat} {i : Int32} (ht : K.2.2.1[t0]? = some (cA, .object C0)) (hd : decode M.2.1 pc = .ok (.aastore, 1)) (hn : pc + 1 = n) (ha : h a = some (.inl (cA, N, .inr (.inr (.inr (.inr f)))))) (hB : Bs ≤ a) (hin : vp_in i N) (kk : fv_V K Bs X nL Q n L st sz (va_up h a (some (.inl (cA, N, .inr (.inr (.inr (.inr (va_up f i.toNatClampNeg none)))))))) cells slots) : fv_V K Bs X nL Q pc L (.null :: .int i :: .ref a :: st) sz h cells slots := by
  subst hn
  intro H locs ls hR hl hL
  refine va_WaastN (C := C0) C.1 C.2.1 (hR.2 a _ ha) ((C.2.2.2.2.2.2.2.1.1.2 t0 _ ht).1 N (fun j => va_rf (f j))) (fun h => by cases h) (by show ¬ (i < 0 ∨ (arrV _ _ _).slots.size ≤ _); rw [arrV_size]; exact hin) rfl rfl hd fun H1 e z oq => ?_
  refine kk H1 _ ls (hR.set z oq ?_) (fv_locs hl hB) hL
  show H1[a]? = some (vp_cell _ _)
  rw [e, vp_cell_q, vp_cell_q, arrV_store]
  congr 2
  funext q
  by_cases hq : q = i.toNatClampNeg
  · subst hq
    simp [updV, va_up, va_rf]
  · simp [updV, va_up, hq]
theorem fv_newa (C : fv_C K WA X M mc ms) {t0 : Nat} {cA : ClassId} {atype : ArrayType} {ty : FieldType} {z : Int32} {N : Nat} (ht : K.2.2.1[t0]? = some (cA, ty)) (hty : newarray.typeOf atype = ty) (hpr : ty = .int ∨ ty = .boolean) (hw : Cond.arrayClass ty ∈ WA) (hd : decode M.2.1 pc = .ok (.newarray atype, 2)) (hn : pc + 2 = n) (h0 : ¬ z < 0) (hN : z.toNatClampNeg = N) (hb : N * 4 ≤ 536870912) (hcells : cells + 1 ≤ mc) (hslots : slots + N ≤ ms)
    (kk : fv_V K Bs X nL Q n L (.ref sz :: st) (sz + 1) (va_up h sz (some (.inl (cA, N, .inl (fun _ => 0))))) (cells + 1) (slots + N)) : fv_V K Bs X nL Q pc L (.int z :: st) sz h cells slots := by
  subst hn
  subst hty
  intro H locs ls hR hl hL
  have hRm := C.2.2.2.2.2.2.2.2.1
  refine va_newaK C.1 C.2.1 (C.2.2.2.2.2.2.1 _ hw) rfl hd rfl h0 hN (by rcases hpr with q | q <;> rw [q] <;> simp [componentBytes] <;> omega) (by rw [hRm]; exact hcells) (by rw [hRm]; exact hslots) hR.1 fun H1 cA' e1 z1 o1 hAr hNm => ?_
  have hcA : cA' = cA := by
    have h2 := (C.2.2.2.2.2.2.2.1.1.2 t0 _ ht).2
    rcases hpr with q | q <;> rw [q] at h2 hNm <;> exact Option.some.inj (hNm.symm.trans h2)
  subst hcA
  refine kk H1 locs ls (hR.push z1 o1 ?_) hl hL
  show H1[sz]? = some (vp_cell _ _)
  rw [e1, vp_cell_i]
  rcases hpr with q | q <;> rw [q] <;> rfl
theorem fv_anewa (C : fv_C K WA X M mc ms) {t0 idx : Nat} {cA : ClassId} {C0 : String} {z : Int32} {N : Nat} (ht : K.2.2.1[t0]? = some (cA, .object C0)) (hao : C0 ∈ K.2.2.2.2.2) (hw : Cond.classLink M.1.cls idx C0 ∈ WA) (hd : decode M.2.1 pc = .ok (.anewarray idx, 3)) (hn : pc + 3 = n) (h0 : ¬ z < 0) (hN : z.toNatClampNeg = N) (hb : N * 4 ≤ 536870912) (hcells : cells + 1 ≤ mc) (hslots : slots + N ≤ ms)
    (kk : fv_V K Bs X nL Q n L (.ref sz :: st) (sz + 1) (va_up h sz (some (.inl (cA, N, .inr (.inr (.inr (.inr (fun _ => none)))))))) (cells + 1) (slots + N)) : fv_V K Bs X nL Q pc L (.int z :: st) sz h cells slots := by
  subst hn
  subst hN
  intro H locs ls hR hl hL
  have hRm := C.2.2.2.2.2.2.2.2.1
  have hz := hR.1
  subst hz
  refine W.anew C.1 C.2.1 C.2.2.2.2.2.1 (C.2.2.2.2.2.2.1 _ hw) (va_AO.use (C.2.2.2.2.2.2.2.1.2.2.2 _ hao)) rfl hd rfl h0 hb (by rw [hRm]; exact hcells) (by rw [hRm]; exact hslots) fun cA' kA comp f1 f2 f3 f4 => ?_
  have hcA : cA' = cA := by
    obtain ⟨_, _, -, -, -, h4⟩ := (C.2.2.2.2.2.2.2.1.1.2 t0 _ ht).2
    exact Option.some.inj (f1.symm.trans h4)
  subst hcA
  refine kk _ locs ls (hR.push (by rw [Array.size_push]) (fun q hq => by rw [Array.getElem?_push, if_neg (Nat.ne_of_lt hq)]) ?_) hl hL
  show (H.push _)[H.size]? = some (vp_cell _ _)
  rw [Array.getElem?_push_size, vp_cell_q, ← arrV_new]
  rfl
theorem fv_new (C : fv_C K WA X M mc ms) {idx ci N : Nat} {C0 : String} {T : u_T} {fs : List Value} (ty : Nat → FieldType) (hin : ∀ w ∈ u_ws C0 T N, w ∈ WA) (hty : ∀ k, k < N → parseFieldDescriptor (T k).2.2.1 = some (ty k)) (hc : K.2.1[ci]? = some (C0, T, N)) (hw1 : Cond.classLink M.1.cls idx C0 ∈ WA) (hw2 : Cond.instantiable C0 N ∈ WA) (hw3 : Cond.initialized C0 ∈ WA) (hfs : ∀ j, j < N → defaultValue (ty j) = vp_V fs j) (hd : decode M.2.1 pc = .ok (.new idx, 3)) (hn : pc + 3 = n) (hcells : cells + 1 ≤ mc) (hslots : slots + N ≤ ms)
    (kk : fv_V K Bs X nL Q n L (.ref sz :: st) (sz + 1) (va_up h sz (some (.inr (ci, fs)))) (cells + 1) (slots + N)) : fv_V K Bs X nL Q pc L st sz h cells slots := by
  subst hn
  intro H locs ls hR hl hL
  have hRm := C.2.2.2.2.2.2.2.2.1
  have hts := C.2.2.2.2.2.2.1
  have hKn := C.2.2.2.2.2.2.2.1.1.1 ci _ hc
  refine W.newcK C.1 C.2.1 C.2.2.2.2.2.1 (hts _ hw1) (hts _ hw2) (hts _ hw3) rfl hd (by rw [hRm]; exact hcells) (by rw [hRm]; exact hslots) hKn.2.1 hR.1 fun H1 kC hkC e1 z1 o1 => ?_
  exact kk H1 locs ls (hR.push z1 o1 ⟨_, hc, (u_born ty hts hin hKn hkC e1 hty).to hfs⟩) hl hL
theorem fv_objInit (C : fv_C K WA X M mc ms) {idx a : Nat} (hw1 : Cond.methodLink M.1.cls idx Lib.objectInit ∈ WA) (hw2 : Cond.instanceMethod Lib.objectInit ∈ WA) (hw3 : Cond.code Lib.objectInit ⟨#[0xb1]⟩ 1 none ∈ WA) (hd : decode M.2.1 pc = .ok (.invokespecial idx, 3)) (hn : pc + 3 = n) (hm : nL = M.2.2.1) (hf : 1 ≤ M.2.2.2.2.1) (hlo : (st.map fun v => v.category).sum + 12 ≤ M.2.2.2.2.2) (k : fv_V K Bs X nL Q n L st sz h cells slots) : fv_V K Bs X nL Q pc L (.ref a :: st) sz h cells slots := by
  subst hn
  intro H locs ls hR hl hL
  have hRm := C.2.2.2.2.2.2.2.2.1
  have hts := C.2.2.2.2.2.2.1
  refine W.objInit C.1 C.2.1 C.2.2.2.2.2.1 (hts _ hw1) (hts _ hw2) (hts _ hw3) rfl (by rw [C.2.2.1, ← hm]; exact hL.1.1) rfl hd (by rw [hRm]; exact hf) (by rw [hRm]; show 2 * 0 + _ + 12 ≤ _; simpa using hlo) ?_
  exact k H locs ls hR hl hL
/-- a method's link -/
def fv_ML (K : fv_K) (WA : List Cond) (own : String) (idx : Nat) (M' : fv_M) (np : Nat) : Prop :=
  (∀ w ∈ WA, fv_good w) ∧ Cond.code M'.1 M'.2.1 M'.2.2.1 M'.2.2.2.1 ∈ WA ∧ Cond.initialized M'.1.cls ∈ WA ∧ (Cond.methodLink own idx M'.1 ∈ WA ∨ ∃ host, (own, idx, M'.1, host) ∈ K.2.2.2.2.1) ∧ (M'.1.cls ≠ "java/lang/invoke/MethodHandle" ∧ M'.1.cls ≠ "java/lang/invoke/VarHandle") ∧ (parseMethodDescriptor M'.1.desc).map (fun d => d.parameters.length) = some np
theorem fv_blind {av : List Value} : FrameBlind (va_Pc av (fun U => fv_R K sz h U.heap ∧ fv_S K U)) := by
  intro a U g mk q
  obtain ⟨q0, q1, q2⟩ := q
  exact ⟨q0, q1, q2.same rfl⟩
theorem fv_words {y : Cond} {args : Array Value} {s : State} (hg : ∀ w ∈ WA, fv_good w) (hts : ∀ w ∈ WA, w.before args s = true) (hy : y ∈ WA) : ∀ w ∈ y :: WA, ∀ (a' : Array Value) (U : State), s.WarmedH U.vm → w.before a' U = true := by
  refine pay_in hts (fun w hw => ?_)
  rcases List.mem_cons.mp hw with rfl | hw
  · exact ⟨hy, hg _ hy⟩
  · exact ⟨hw, hg _ hw⟩
theorem fv_goes {post : Option Value → Nat → fv_H → Prop} {mc' ms' : Nat} {rest st0 : List Value} {a : Array Value} (hm : nL = nL) (hrun : ∀ (H : Heap) (locs : List Loc) (ls : Array Slot), fv_R K sz h H → fv_L ls nL L → va_Run X.1 X.2.1 X.2.2.1 X.2.2.2.1 X.2.2.2.2.1 X.2.2.2.2.2.1 X.2.2.2.2.2.2.1 X.2.2.2.2.2.2.2.1 X.2.2.2.2.2.2.2.2.1 X.2.2.2.2.2.2.2.2.2 H locs cells slots mc' ms' (F0 X.2.2.2.2.2.1 pc ls st0) rest (fv_Q K post a) (fun q => Bs ≤ q))
    (kk : ∀ (v : Option Value) (sz' : Nat) (h' : fv_H), post v sz' h' → fv_V K Bs X nL Q (pc + 3) L (v.toList ++ rest) sz' h' (cells + mc') (slots + ms')) : fv_V K Bs X nL Q pc L st0 sz h cells slots := by
  intro H locs ls hR hl hL T hT X'
  obtain ⟨v, st₀, t, T', L1, h0, X2, hL1, e1, e2, ⟨v', sz', h', hv, hp, hR'⟩, st⟩ := hrun H locs ls hR hL T hT X'
  cases hv
  obtain ⟨t2, a1, b1⟩ := kk v sz' h' hp T'.heap (locs ++ L1) ls (by rw [e1]; exact hR') (fun q hq => by
    rcases List.mem_append.mp hq with h | h
    · exact hl q h
    · exact hL1 q h) hL T' rfl X2
  exact ⟨t2, st t2 a1, b1⟩
theorem fv_callV (C : fv_C K WA X M mc ms) {idx np : Nat} {M' : fv_M} {b : Nat} {As rest : List Value} {mc' ms' : Nat} {post : Option Value → Nat → fv_H → Prop} (Lk : fv_ML K WA M.1.cls idx M' np) (hw1 : Cond.instanceMethod M'.1 ∈ WA) (hw2 : Cond.selects M'.1.cls M'.1 M'.1 ∈ WA) {ci : Nat} {fs : List Value} {r : u_T × Nat} (hb : h b = some (.inr (ci, fs))) (hc : K.2.1[ci]? = some (M'.1.cls, r)) (hM : fv_T X.2.1 K Bs WA M' (.ref b :: As) sz h mc' ms' post) (hd : decode M.2.1 pc = .ok (.invokevirtual idx, 3)) (hn : pc + 3 = n) (hm : nL = M.2.2.1) (hnp : As.length = np) (hst : st = (As.reverse ++ .ref b :: rest)) (hW : (rest.map fun v => v.category).sum ≤ 8) (hfr : M'.2.2.2.2.1 + 1 ≤ M.2.2.2.2.1) (hlo : 8 + (M'.2.2.1 + 11) + M'.2.2.2.2.2 ≤ M.2.2.2.2.2) (hcl : cells + mc' ≤ mc) (hsl : slots + ms' ≤ ms)
    (kk : ∀ (v : Option Value) (sz' : Nat) (h' : fv_H), post v sz' h' → fv_V K Bs X nL Q n L (v.toList ++ rest) sz' h' (cells + mc') (slots + ms')) : fv_V K Bs X nL Q pc L st sz h cells slots := by
  subst hn
  subst hst
  have hts := C.2.2.2.2.2.2.1
  have hRm := C.2.2.2.2.2.2.2.2.1
  obtain ⟨hg, hcode, hini0, hlink, hy, hpar⟩ := Lk
  have hlen : ∀ sig, parseMethodDescriptor M'.1.desc = some sig → np = sig.parameters.length := fun sig hsig => by
    have h2 := hpar
    rw [hsig] at h2
    exact (Option.some.inj h2).symm
  refine fv_goes (a := (.ref b :: As).toArray) rfl (fun H locs ls hR hL => ?_) kk
  rcases hlink with hlink | ⟨host, hlink⟩
  · exact va_runV (C := M'.1.cls) (nL := nL) (own := M.1.cls) (index := idx) (n := np) (As := As) (rest := rest) ⟨C.1, C.2.1, C.2.2.1.trans hm.symm, C.2.2.2.2.2.1, hts⟩ hM ⟨⟨rfl, rfl, by rw [hRm]; exact hfr, by rw [hRm]; exact hlo, fv_words hg hts hcode, List.mem_cons_self, hts _ hcode, hts _ hini0, hy, hlen, hts _ hlink⟩, hts _ hw1, hts _ hw2⟩ ⟨fv_blind, va_recv (q0 := 0) C.2.2.2.2.2.2.2.1.1 (hR.one hb) hc rfl, fun U hU hW => ⟨rfl, by rw [hU]; exact hR, C.2.2.2.2.2.2.2.1.warm hW⟩⟩ rfl hnp hL.1.1 rfl (lv_room hW) hd ⟨by rw [hRm]; exact hcl, by rw [hRm]; exact hsl⟩
  · exact va_runVN (C := M'.1.cls) (nL := nL) (own := M.1.cls) (host := host) (index := idx) (n := np) (As := As) (rest := rest) ⟨C.1, C.2.1, C.2.2.1.trans hm.symm, C.2.2.2.2.2.1, hts⟩ hM ⟨⟨⟨rfl, rfl, by rw [hRm]; exact hfr, by rw [hRm]; exact hlo, fv_words hg hts hcode, List.mem_cons_self⟩, hts _ hcode, hts _ hini0, hy, hlen, va_Nw.use rfl (C.2.2.2.2.2.2.2.1.2.2.1 _ hlink)⟩, hts _ hw1, hts _ hw2⟩ ⟨fv_blind, va_recv (q0 := 0) C.2.2.2.2.2.2.2.1.1 (hR.one hb) hc rfl, fun U hU hW => ⟨rfl, by rw [hU]; exact hR, C.2.2.2.2.2.2.2.1.warm hW⟩⟩ rfl hnp hL.1.1 rfl (lv_room hW) hd ⟨by rw [hRm]; exact hcl, by rw [hRm]; exact hsl⟩
theorem fv_callS (C : fv_C K WA X M mc ms) {idx np : Nat} {M' : fv_M}  {As rest : List Value} {mc' ms' : Nat} {post : Option Value → Nat → fv_H → Prop} (Lk : fv_ML K WA M.1.cls idx M' np) (hw1 : Cond.static M'.1 ∈ WA) (hM : fv_T X.2.1 K Bs WA M' As sz h mc' ms' post) (hd : decode M.2.1 pc = .ok (.invokestatic idx, 3)) (hn : pc + 3 = n) (hm : nL = M.2.2.1) (hnp : As.length = np) (hst : st = (As.reverse ++ rest)) (hW : (rest.map fun v => v.category).sum ≤ 8) (hfr : M'.2.2.2.2.1 + 1 ≤ M.2.2.2.2.1) (hlo : 8 + (M'.2.2.1 + 11) + M'.2.2.2.2.2 ≤ M.2.2.2.2.2) (hcl : cells + mc' ≤ mc) (hsl : slots + ms' ≤ ms)
    (kk : ∀ (v : Option Value) (sz' : Nat) (h' : fv_H), post v sz' h' → fv_V K Bs X nL Q n L (v.toList ++ rest) sz' h' (cells + mc') (slots + ms')) : fv_V K Bs X nL Q pc L st sz h cells slots := by
  subst hn
  subst hst
  have hts := C.2.2.2.2.2.2.1
  have hRm := C.2.2.2.2.2.2.2.2.1
  obtain ⟨hg, hcode, hini0, hlink, hy, hpar⟩ := Lk
  have hlen : ∀ sig, parseMethodDescriptor M'.1.desc = some sig → np = sig.parameters.length := fun sig hsig => by
    have h2 := hpar
    rw [hsig] at h2
    exact (Option.some.inj h2).symm
  refine fv_goes (a := As.toArray) rfl (fun H locs ls hR hL => ?_) kk
  rcases hlink with hlink | ⟨host, hlink⟩
  · exact va_runS (nL := nL) (own := M.1.cls) (index := idx) (n := np) (As := As) (rest := rest) ⟨C.1, C.2.1, C.2.2.1.trans hm.symm, C.2.2.2.2.2.1, hts⟩ hM ⟨⟨rfl, rfl, by rw [hRm]; exact hfr, by rw [hRm]; exact hlo, fv_words hg hts hcode, List.mem_cons_self, hts _ hcode, hts _ hini0, hy, hlen, hts _ hlink⟩, hts _ hw1⟩ ⟨fv_blind, fun U hU hW => ⟨rfl, by rw [hU]; exact hR, C.2.2.2.2.2.2.2.1.warm hW⟩⟩ rfl hnp hL.1.1 rfl (lv_room hW) hd ⟨by rw [hRm]; exact hcl, by rw [hRm]; exact hsl⟩
  · exact va_runSN (nL := nL) (own := M.1.cls) (host := host) (index := idx) (n := np) (As := As) (rest := rest) ⟨C.1, C.2.1, C.2.2.1.trans hm.symm, C.2.2.2.2.2.1, hts⟩ hM ⟨⟨⟨rfl, rfl, by rw [hRm]; exact hfr, by rw [hRm]; exact hlo, fv_words hg hts hcode, List.mem_cons_self⟩, hts _ hcode, hts _ hini0, hy, hlen, va_Nw.use rfl (C.2.2.2.2.2.2.2.1.2.2.1 _ hlink)⟩, hts _ hw1, trivial⟩ ⟨fv_blind, fun U hU hW => ⟨rfl, by rw [hU]; exact hR, C.2.2.2.2.2.2.2.1.warm hW⟩⟩ rfl hnp hL.1.1 rfl (lv_room hW) hd ⟨by rw [hRm]; exact hcl, by rw [hRm]; exact hsl⟩
theorem fv_callI (C : fv_C K WA X M mc ms) {idx np : Nat} {M' : fv_M} {b : Nat} {As rest : List Value} {mc' ms' : Nat} {post : Option Value → Nat → fv_H → Prop} (Lk : fv_ML K WA M.1.cls idx M' np) (hw1 : Cond.instanceMethod M'.1 ∈ WA) (hini : M'.1.name = "<init>") (hret : M'.2.2.2.1 = none) (hM : fv_T X.2.1 K Bs WA M' (.ref b :: As) sz h mc' ms' post) (hd : decode M.2.1 pc = .ok (.invokespecial idx, 3)) (hn : pc + 3 = n) (hm : nL = M.2.2.1) (hnp : As.length = np) (hst : st = (As.reverse ++ .ref b :: rest)) (hW : (rest.map fun v => v.category).sum ≤ 8) (hfr : M'.2.2.2.2.1 + 1 ≤ M.2.2.2.2.1) (hlo : 8 + (M'.2.2.1 + 11) + M'.2.2.2.2.2 ≤ M.2.2.2.2.2) (hcl : cells + mc' ≤ mc) (hsl : slots + ms' ≤ ms)
    (kk : ∀ (v : Option Value) (sz' : Nat) (h' : fv_H), post v sz' h' → fv_V K Bs X nL Q n L (v.toList ++ rest) sz' h' (cells + mc') (slots + ms')) : fv_V K Bs X nL Q pc L st sz h cells slots := by
  subst hn
  subst hst
  have hts := C.2.2.2.2.2.2.1
  have hRm := C.2.2.2.2.2.2.2.2.1
  obtain ⟨y0, b0, m0, r0, f0, l0⟩ := M'
  dsimp only at hret
  subst hret
  obtain ⟨hg, hcode, hini0, hlink, hy, hpar⟩ := Lk
  have hlen : ∀ sig, parseMethodDescriptor y0.desc = some sig → np = sig.parameters.length := fun sig hsig => by
    have h2 := hpar
    rw [hsig] at h2
    exact (Option.some.inj h2).symm
  refine fv_goes (a := (.ref b :: As).toArray) rfl (fun H locs ls hR hL => ?_) kk
  rcases hlink with hlink | ⟨host, hlink⟩
  · exact va_runI (nL := nL) (own := M.1.cls) (index := idx) (n := np) (As := As) (rest := rest) ⟨C.1, C.2.1, C.2.2.1.trans hm.symm, C.2.2.2.2.2.1, hts⟩ hM ⟨⟨rfl, rfl, by rw [hRm]; exact hfr, by rw [hRm]; exact hlo, fv_words hg hts hcode, List.mem_cons_self, hts _ hcode, hts _ hini0, hy, hlen, hts _ hlink⟩, hini, hts _ hw1⟩ ⟨fv_blind, fun U hU hW => ⟨rfl, by rw [hU]; exact hR, C.2.2.2.2.2.2.2.1.warm hW⟩⟩ rfl hnp hL.1.1 rfl (lv_room hW) hd ⟨by rw [hRm]; exact hcl, by rw [hRm]; exact hsl⟩
  · exact va_runIN (nL := nL) (own := M.1.cls) (host := host) (index := idx) (n := np) (As := As) (rest := rest) ⟨C.1, C.2.1, C.2.2.1.trans hm.symm, C.2.2.2.2.2.1, hts⟩ hM ⟨⟨⟨rfl, rfl, by rw [hRm]; exact hfr, by rw [hRm]; exact hlo, fv_words hg hts hcode, List.mem_cons_self⟩, hts _ hcode, hts _ hini0, hy, hlen, va_Nw.use rfl (C.2.2.2.2.2.2.2.1.2.2.1 _ hlink)⟩, hini, hts _ hw1⟩ ⟨fv_blind, fun U hU hW => ⟨rfl, by rw [hU]; exact hR, C.2.2.2.2.2.2.2.1.warm hW⟩⟩ rfl hnp hL.1.1 rfl (lv_room hW) hd ⟨by rw [hRm]; exact hcl, by rw [hRm]; exact hsl⟩
theorem fv_mmax (C : fv_C K WA X M mc ms) {idx : Nat} {x y : Int32} (hw1 : Cond.methodLink M.1.cls idx Lib.Math.max.name ∈ WA) (hw2 : Cond.static Lib.Math.max.name ∈ WA) (hw3 : Cond.initialized "java/lang/Math" ∈ WA) (hw4 : Cond.code Lib.Math.max.name Lib.Math.max.code 2 (some .int) ∈ WA) (hd : decode M.2.1 pc = .ok (.invokestatic idx, 3)) (hn : pc + 3 = n) (hm : nL = M.2.2.1) (hf : 1 ≤ M.2.2.2.2.1) (hlo : (st.map fun v => v.category).sum + 13 ≤ M.2.2.2.2.2) (hcl : cells ≤ mc) (hsl : slots ≤ ms)
    (kk : fv_V K Bs X nL Q n L (.int (if x < y then y else x) :: st) sz h cells slots) : fv_V K Bs X nL Q pc L (.int y :: .int x :: st) sz h cells slots := by
  subst hn
  intro H locs ls hR hl hL
  have hts := C.2.2.2.2.2.2.1
  have hRm := C.2.2.2.2.2.2.2.2.1
  exact va_mmax C.1 C.2.1 (by rw [C.2.2.1, ← hm]; exact hL.1.1.symm) C.2.2.2.2.2.1 (hts _ hw1) (hts _ hw2) (hts _ hw3) (hts _ hw4) (by rw [hRm]; exact hf) (by rw [hRm]; exact hlo) (by rw [hRm]; exact hcl) (by rw [hRm]; exact hsl) hd (kk H locs ls hR hl hL)
theorem fv_copyi (C : fv_C K WA X M mc ms) {idx a0 a t0 : Nat} {cA : ClassId} {n0 n1 : Nat} {f g : Nat → Int32} {sp dp z : Int32} (ht : K.2.2.1[t0]? = some (cA, .int)) (hw1 : Cond.methodLink M.1.cls idx arraycopyName ∈ WA) (hw2 : Cond.native arraycopyName ∈ WA) (hw3 : Cond.static arraycopyName ∈ WA) (hw4 : Cond.initialized "java/lang/System" ∈ WA) (hd : decode M.2.1 pc = .ok (.invokestatic idx, 3)) (hn : pc + 3 = n) (hm : nL = M.2.2.1) (ha0 : h a0 = some (.inl (cA, n0, .inl f))) (ha : h a = some (.inl (cA, n1, .inl g))) (hB : Bs ≤ a) (h1 : ¬ sp < 0) (h2 : ¬ dp < 0) (h3 : ¬ z < 0) (h4 : sp.toNatClampNeg + z.toNatClampNeg ≤ n0) (h5 : dp.toNatClampNeg + z.toNatClampNeg ≤ n1) (hf : 1 ≤ M.2.2.2.2.1) (hlo : (st.map fun v => v.category).sum + (nativeFrameWords "java/lang/System" "arraycopy" 5 + 11) ≤ M.2.2.2.2.2)
    (kk : fv_V K Bs X nL Q n L st sz (va_up h a (some (.inl (cA, n1, .inl (va_cpy f g sp.toNatClampNeg dp.toNatClampNeg z.toNatClampNeg))))) cells slots) : fv_V K Bs X nL Q pc L (.int z :: .int dp :: .ref a :: .int sp :: .ref a0 :: st) sz h cells slots := by
  subst hn
  intro H locs ls hR hl hL
  have hts := C.2.2.2.2.2.2.1
  have hRm := C.2.2.2.2.2.2.2.2.1
  have hK := C.2.2.2.2.2.2.2.1.1
  have nn : ∀ w : Int32, ¬ w < 0 → w.toInt = (w.toNatClampNeg : Int) := by
    intro w hw
    have hz0 : (0 : Int) ≤ w.toInt := by
      have := Int32.not_lt.mp hw
      simpa using Int32.le_iff_toInt_le.mp this
    show w.toInt = ((w.toInt.toNat : Nat) : Int)
    omega
  intro T hT X'
  have hc0 : H[a0]? = some (vp_cell cA (n0, .inl f)) := hR.2 a0 _ ha0
  have hc1 : H[a]? = some (vp_cell cA (n1, .inl g)) := hR.2 a _ ha
  obtain ⟨-, k0, hk0, cm0, hkk0⟩ := (hK.2 t0 _ ht).1 n0 (fun j => .int (f j))
  obtain ⟨-, k1, hk1, cm1, hkk1⟩ := (hK.2 t0 _ ht).1 n1 (fun j => .int (g j))
  obtain ⟨vm', X2, step⟩ := X'.arraycopy C.1 C.2.2.2.2.2.1 (hts _ hw1) (hts _ hw2) (hts _ hw3) (hts _ hw4) (src := a0) (dst := a) (cs := vp_cell cA (n0, .inl f)) (cd := vp_cell cA (n1, .inl g)) (srcPos := sp) (destPos := dp) (n := z) (by rw [hT]; exact hc0) (by rw [hT]; exact hc1)
    (fun _ h => by cases h) (fun _ h => by cases h) (fun h => by cases h) (fun h => by cases h) hk0 hk1 hkk0 hkk1 (by simp [refKind]) h1 h2 h3
    (by rw [nn sp h1, nn z h3]; show ¬ _ > ((arrV cA n0 (fun j => .int (f j))).slots.size : Int); rw [arrV_size]; omega)
    (by rw [nn dp h2, nn z h3]; show ¬ _ > ((arrV cA n1 (fun j => .int (g j))).slots.size : Int); rw [arrV_size]; omega)
    (fun vm₁ _ i hi => by
      have e : (vp_cell cA (n0, .inl f)).slots.getD (sp.toNatClampNeg + i) .null = .int (f (sp.toNatClampNeg + i)) := by
        show (arrV cA n0 (fun j => .int (f j))).slots.getD _ _ = _
        rw [Array.getD_eq_getD_getElem?, arrV_read _ _ (by omega)]
        rfl
      refine ⟨?_, ?_⟩
      · rw [e]
        rfl
      · rw [e]
        exact trivial)
    (g := F0 X.2.2.2.2.2.1 pc ls (.int z :: .int dp :: .ref a :: .int sp :: .ref a0 :: st)) rfl (by rw [C.2.2.1, ← hm]; exact hL.1.1) (rest := st) rfl (by rw [C.2.1]; exact hd) (by rw [hRm]; exact hf) (by rw [hRm]; show 2 * 0 + _ + _ ≤ M.2.2.2.2.2; omega)
  have e1 : copied (vp_cell cA (n0, .inl f)) (vp_cell cA (n1, .inl g)) sp dp z = vp_cell cA (n1, .inl (va_cpy f g sp.toNatClampNeg dp.toNatClampNeg z.toNatClampNeg)) := va_copied (fun z => .int z) cA cA f g h4
  rw [e1] at X2 step
  have hlt : a < H.size := (Array.getElem?_eq_some_iff.mp hc1).1
  have hheap : ((T.setVm vm').setCell a (vp_cell cA (n1, .inl (va_cpy f g sp.toNatClampNeg dp.toNatClampNeg z.toNatClampNeg)))).heap = H.setIfInBounds a (vp_cell cA (n1, .inl (va_cpy f g sp.toNatClampNeg dp.toNatClampNeg z.toNatClampNeg))) := by rw [← hT]; rfl
  obtain ⟨t, a1, b1⟩ := kk (H.setIfInBounds a (vp_cell cA (n1, .inl (va_cpy f g sp.toNatClampNeg dp.toNatClampNeg z.toNatClampNeg)))) _ ls (hR.set (a := a) (by simp) (fun q hq => by simp [Array.getElem?_setIfInBounds, Ne.symm hq]) (show (H.setIfInBounds a _)[a]? = some _ by simp [Array.getElem?_setIfInBounds, hlt])) (fun q hq => by
      rcases List.mem_append.mp hq with h | h
      · exact hl q h
      · obtain ⟨w, -, hw⟩ := List.mem_map.mp h
        rw [← hw]
        exact hB) hL _ hheap X2
  exact ⟨t, step t a1, b1⟩
end FV
end
section
/-! names: classes, fields, methods (by program, from the tables of the Statement) -/
def ft_D : u_T := fun k => match k with
  | 0 => ("FeedDesk", "publisher", "LFeedDesk$Publisher;", true)
  | 1 => ("FeedDesk", "receivers", "[LFeedDesk$Receiver;", true)
  | _ => ("FeedDesk", "readers", "[LFeedDesk$Reader;", true)
def ty_D : Nat → FieldType := fun k => match k with
  | 0 => (.object "FeedDesk$Publisher")
  | 1 => (.array (.object "FeedDesk$Receiver"))
  | _ => (.array (.object "FeedDesk$Reader"))
theorem nm_D : ∀ a, a < 3 → ∀ b, b < 3 → a ≠ b → (ft_D a).2.1 ≠ (ft_D b).2.1 := by decide +kernel
theorem tk_D : ∀ k, k < 3 → parseFieldDescriptor (ft_D k).2.2.1 = some (ty_D k) := by decide +kernel
def ft_B : u_T := fun k => match k with
  | 0 => ("FeedDesk$Book", "ids", "[I", true)
  | 1 => ("FeedDesk$Book", "prices", "[I", true)
  | 2 => ("FeedDesk$Book", "sizes", "[I", true)
  | 3 => ("FeedDesk$Book", "buys", "I", false)
  | 4 => ("FeedDesk$Book", "total", "I", false)
  | 5 => ("FeedDesk$Book", "isHalted", "Z", false)
  | _ => ("FeedDesk$Book", "applied", "I", false)
def ty_B : Nat → FieldType := fun k => match k with
  | 0 => (.array .int)
  | 1 => (.array .int)
  | 2 => (.array .int)
  | 3 => .int
  | 4 => .int
  | 5 => .boolean
  | _ => .int
theorem nm_B : ∀ a, a < 7 → ∀ b, b < 7 → a ≠ b → (ft_B a).2.1 ≠ (ft_B b).2.1 := by decide +kernel
theorem tk_B : ∀ k, k < 7 → parseFieldDescriptor (ft_B k).2.2.1 = some (ty_B k) := by decide +kernel
def ft_E : u_T := fun k => match k with
  | 0 => ("FeedDesk$Event", "sort", "I", true)
  | 1 => ("FeedDesk$Event", "instrument", "I", true)
  | 2 => ("FeedDesk$Event", "number", "I", true)
  | 3 => ("FeedDesk$Event", "id", "I", true)
  | 4 => ("FeedDesk$Event", "side", "I", true)
  | 5 => ("FeedDesk$Event", "price", "I", true)
  | _ => ("FeedDesk$Event", "size", "I", true)
def ty_E : Nat → FieldType := fun k => match k with
  | 0 => .int
  | 1 => .int
  | 2 => .int
  | 3 => .int
  | 4 => .int
  | 5 => .int
  | _ => .int
theorem nm_E : ∀ a, a < 7 → ∀ b, b < 7 → a ≠ b → (ft_E a).2.1 ≠ (ft_E b).2.1 := by decide +kernel
theorem tk_E : ∀ k, k < 7 → parseFieldDescriptor (ft_E k).2.2.1 = some (ty_E k) := by decide +kernel
def ft_P : u_T := fun k => match k with
  | 0 => ("FeedDesk$Publisher", "books", "[LFeedDesk$Book;", true)
  | 1 => ("FeedDesk$Publisher", "events", "[LFeedDesk$Event;", true)
  | 2 => ("FeedDesk$Publisher", "eventCount", "I", false)
  | 3 => ("FeedDesk$Publisher", "ends", "[I", true)
  | 4 => ("FeedDesk$Publisher", "closed", "I", false)
  | 5 => ("FeedDesk$Publisher", "snapshots", "[LFeedDesk$Snapshot;", true)
  | _ => ("FeedDesk$Publisher", "snapshotCount", "I", false)
def ty_P : Nat → FieldType := fun k => match k with
  | 0 => (.array (.object "FeedDesk$Book"))
  | 1 => (.array (.object "FeedDesk$Event"))
  | 2 => .int
  | 3 => (.array .int)
  | 4 => .int
  | 5 => (.array (.object "FeedDesk$Snapshot"))
  | _ => .int
theorem nm_P : ∀ a, a < 7 → ∀ b, b < 7 → a ≠ b → (ft_P a).2.1 ≠ (ft_P b).2.1 := by decide +kernel
theorem tk_P : ∀ k, k < 7 → parseFieldDescriptor (ft_P k).2.2.1 = some (ty_P k) := by decide +kernel
def ft_W : u_T := fun k => match k with
  | 0 => ("FeedDesk$Reader", "row", "[I", true)
  | 1 => ("FeedDesk$Reader", "dirtyCount", "I", false)
  | _ => ("FeedDesk$Reader", "fixed", "[I", true)
def ty_W : Nat → FieldType := fun k => match k with
  | 0 => (.array .int)
  | 1 => .int
  | _ => (.array .int)
theorem nm_W : ∀ a, a < 3 → ∀ b, b < 3 → a ≠ b → (ft_W a).2.1 ≠ (ft_W b).2.1 := by decide +kernel
theorem tk_W : ∀ k, k < 3 → parseFieldDescriptor (ft_W k).2.2.1 = some (ty_W k) := by decide +kernel
def ft_V : u_T := fun k => match k with
  | 0 => ("FeedDesk$Receiver", "publisher", "LFeedDesk$Publisher;", true)
  | 1 => ("FeedDesk$Receiver", "tracks", "[LFeedDesk$Track;", true)
  | 2 => ("FeedDesk$Receiver", "next", "I", false)
  | 3 => ("FeedDesk$Receiver", "highest", "I", false)
  | 4 => ("FeedDesk$Receiver", "kept", "[Z", true)
  | _ => ("FeedDesk$Receiver", "askedLast", "I", false)
def ty_V : Nat → FieldType := fun k => match k with
  | 0 => (.object "FeedDesk$Publisher")
  | 1 => (.array (.object "FeedDesk$Track"))
  | 2 => .int
  | 3 => .int
  | 4 => (.array .boolean)
  | _ => .int
theorem nm_V : ∀ a, a < 6 → ∀ b, b < 6 → a ≠ b → (ft_V a).2.1 ≠ (ft_V b).2.1 := by decide +kernel
theorem tk_V : ∀ k, k < 6 → parseFieldDescriptor (ft_V k).2.2.1 = some (ty_V k) := by decide +kernel
def ft_S : u_T := fun k => match k with
  | 0 => ("FeedDesk$Snapshot", "book", "LFeedDesk$Book;", true)
  | 1 => ("FeedDesk$Snapshot", "instrument", "I", false)
  | _ => ("FeedDesk$Snapshot", "covers", "I", false)
def ty_S : Nat → FieldType := fun k => match k with
  | 0 => (.object "FeedDesk$Book")
  | 1 => .int
  | _ => .int
theorem nm_S : ∀ a, a < 3 → ∀ b, b < 3 → a ≠ b → (ft_S a).2.1 ≠ (ft_S b).2.1 := by decide +kernel
theorem tk_S : ∀ k, k < 3 → parseFieldDescriptor (ft_S k).2.2.1 = some (ty_S k) := by decide +kernel
def ft_T : u_T := fun k => match k with
  | 0 => ("FeedDesk$Track", "instrument", "I", true)
  | 1 => ("FeedDesk$Track", "reader", "LFeedDesk$Reader;", true)
  | 2 => ("FeedDesk$Track", "book", "LFeedDesk$Book;", true)
  | 3 => ("FeedDesk$Track", "shown", "[I", true)
  | 4 => ("FeedDesk$Track", "held", "[LFeedDesk$Event;", true)
  | 5 => ("FeedDesk$Track", "heldCount", "I", false)
  | _ => ("FeedDesk$Track", "needed", "I", false)
def ty_T : Nat → FieldType := fun k => match k with
  | 0 => .int
  | 1 => (.object "FeedDesk$Reader")
  | 2 => (.object "FeedDesk$Book")
  | 3 => (.array .int)
  | 4 => (.array (.object "FeedDesk$Event"))
  | 5 => .int
  | _ => .int
theorem nm_T : ∀ a, a < 7 → ∀ b, b < 7 → a ≠ b → (ft_T a).2.1 ≠ (ft_T b).2.1 := by decide +kernel
theorem tk_T : ∀ k, k < 7 → parseFieldDescriptor (ft_T k).2.2.1 = some (ty_T k) := by decide +kernel
def ft_M : u_T := fun k => match k with
  | 0 => ("FeedDeskModel", "sort", "[I", true)
  | 1 => ("FeedDeskModel", "instrumentOf", "[I", true)
  | 2 => ("FeedDeskModel", "number", "[I", true)
  | 3 => ("FeedDeskModel", "id", "[I", true)
  | 4 => ("FeedDeskModel", "side", "[I", true)
  | 5 => ("FeedDeskModel", "price", "[I", true)
  | 6 => ("FeedDeskModel", "size", "[I", true)
  | 7 => ("FeedDeskModel", "events", "I", false)
  | 8 => ("FeedDeskModel", "all", "[I", true)
  | 9 => ("FeedDeskModel", "first", "[I", true)
  | 10 => ("FeedDeskModel", "packets", "I", false)
  | 11 => ("FeedDeskModel", "bookId", "[I", true)
  | 12 => ("FeedDeskModel", "bookSide", "[I", true)
  | 13 => ("FeedDeskModel", "bookPrice", "[I", true)
  | 14 => ("FeedDeskModel", "bookSize", "[I", true)
  | 15 => ("FeedDeskModel", "bookLong", "I", false)
  | 16 => ("FeedDeskModel", "bookHalted", "Z", false)
  | 17 => ("FeedDeskModel", "viewThen", "[I", true)
  | 18 => ("FeedDeskModel", "viewNow", "[I", true)
  | 19 => ("FeedDeskModel", "applied", "[I", true)
  | 20 => ("FeedDeskModel", "needs", "[I", true)
  | 21 => ("FeedDeskModel", "held", "[Z", true)
  | 22 => ("FeedDeskModel", "heldMany", "[I", true)
  | 23 => ("FeedDeskModel", "next", "[I", true)
  | 24 => ("FeedDeskModel", "highest", "[I", true)
  | 25 => ("FeedDeskModel", "kept", "[Z", true)
  | 26 => ("FeedDeskModel", "askedTo", "[I", true)
  | 27 => ("FeedDeskModel", "shotInstrument", "[I", true)
  | 28 => ("FeedDeskModel", "shotEvents", "[I", true)
  | 29 => ("FeedDeskModel", "shotCovers", "[I", true)
  | 30 => ("FeedDeskModel", "shots", "I", false)
  | 31 => ("FeedDeskModel", "row", "[I", true)
  | 32 => ("FeedDeskModel", "rowLong", "[I", true)
  | 33 => ("FeedDeskModel", "fixed", "[I", true)
  | _ => ("FeedDeskModel", "hasFixed", "[Z", true)
def ty_M : Nat → FieldType := fun k => match k with
  | 0 => (.array .int)
  | 1 => (.array .int)
  | 2 => (.array .int)
  | 3 => (.array .int)
  | 4 => (.array .int)
  | 5 => (.array .int)
  | 6 => (.array .int)
  | 7 => .int
  | 8 => (.array .int)
  | 9 => (.array .int)
  | 10 => .int
  | 11 => (.array .int)
  | 12 => (.array .int)
  | 13 => (.array .int)
  | 14 => (.array .int)
  | 15 => .int
  | 16 => .boolean
  | 17 => (.array .int)
  | 18 => (.array .int)
  | 19 => (.array .int)
  | 20 => (.array .int)
  | 21 => (.array .boolean)
  | 22 => (.array .int)
  | 23 => (.array .int)
  | 24 => (.array .int)
  | 25 => (.array .boolean)
  | 26 => (.array .int)
  | 27 => (.array .int)
  | 28 => (.array .int)
  | 29 => (.array .int)
  | 30 => .int
  | 31 => (.array .int)
  | 32 => (.array .int)
  | 33 => (.array .int)
  | _ => (.array .boolean)
theorem nm_M : ∀ a, a < 35 → ∀ b, b < 35 → a ≠ b → (ft_M a).2.1 ≠ (ft_M b).2.1 := by decide +kernel
theorem tk_M : ∀ k, k < 35 → parseFieldDescriptor (ft_M k).2.2.1 = some (ty_M k) := by decide +kernel
def fk_cl : List vw_C := [("FeedDesk", ft_D, 3), ("FeedDesk$Book", ft_B, 7), ("FeedDesk$Event", ft_E, 7), ("FeedDesk$Publisher", ft_P, 7), ("FeedDesk$Reader", ft_W, 3), ("FeedDesk$Receiver", ft_V, 6), ("FeedDesk$Snapshot", ft_S, 3), ("FeedDesk$Track", ft_T, 7), ("FeedDeskModel", ft_M, 35)]
def fk_NF : List (String × Nat × String × String × String × String) := [("FeedDesk$Snapshot", 29, "FeedDesk$Book", "total", "I", "FeedDesk"), ("FeedDesk$Track", 46, "FeedDesk$Book", "applied", "I", "FeedDesk"), ("FeedDesk$Publisher", 49, "FeedDesk$Book", "applied", "I", "FeedDesk"), ("FeedDesk", 112, "FeedDesk$Book", "applied", "I", "FeedDesk"), ("FeedDesk$Track", 62, "FeedDesk$Snapshot", "book", "LFeedDesk$Book;", "FeedDesk"), ("FeedDesk", 91, "FeedDesk$Snapshot", "instrument", "I", "FeedDesk"), ("FeedDesk$Track", 65, "FeedDesk$Snapshot", "covers", "I", "FeedDesk"), ("FeedDesk", 164, "FeedDesk$Publisher", "books", "[LFeedDesk$Book;", "FeedDesk"), ("FeedDesk$Receiver", 71, "FeedDesk$Publisher", "events", "[LFeedDesk$Event;", "FeedDesk"), ("FeedDesk$Receiver", 61, "FeedDesk$Publisher", "closed", "I", "FeedDesk"), ("FeedDesk", 143, "FeedDesk$Reader", "dirtyCount", "I", "FeedDesk"), ("FeedDesk", 149, "FeedDesk$Reader", "fixed", "[I", "FeedDesk"), ("FeedDesk", 168, "FeedDesk$Track", "book", "LFeedDesk$Book;", "FeedDesk"), ("FeedDesk$Receiver", 87, "FeedDesk$Track", "heldCount", "I", "FeedDesk"), ("FeedDesk$Receiver", 84, "FeedDesk$Track", "needed", "I", "FeedDesk"), ("FeedDesk", 87, "FeedDesk$Receiver", "tracks", "[LFeedDesk$Track;", "FeedDesk"), ("FeedDesk", 117, "FeedDesk$Receiver", "next", "I", "FeedDesk"), ("FeedDesk", 120, "FeedDesk$Receiver", "highest", "I", "FeedDesk")]
def fk_NM : List (String × Nat × MethodName × String) := [("FeedDesk$Publisher", 43, ⟨"FeedDesk$Book", "<init>", "()V"⟩, "FeedDesk"), ("FeedDesk$Publisher", 44, ⟨"FeedDesk$Snapshot", "<init>", "()V"⟩, "FeedDesk"), ("FeedDesk$Snapshot", 11, ⟨"FeedDesk$Book", "<init>", "()V"⟩, "FeedDesk"), ("FeedDesk", 28, ⟨"FeedDesk$Reader", "<init>", "()V"⟩, "FeedDesk"), ("FeedDesk$Reader", 19, ⟨"FeedDesk", "emptyView", "()[I"⟩, "FeedDesk"), ("FeedDesk$Track", 11, ⟨"FeedDesk$Book", "<init>", "()V"⟩, "FeedDesk"), ("FeedDesk$Track", 18, ⟨"FeedDesk", "emptyView", "()[I"⟩, "FeedDesk")]
def fk_AO : List String := ["FeedDesk$Receiver", "FeedDesk$Reader", "FeedDesk$Book", "FeedDesk$Event", "FeedDesk$Snapshot", "FeedDesk$Track"]
def fk_ty : List FieldType := [.int, .boolean, .object "FeedDesk$Book", .object "FeedDesk$Event", .object "FeedDesk$Receiver", .object "FeedDesk$Reader", .object "FeedDesk$Snapshot", .object "FeedDesk$Track"]
def fk_tys (dA : Nat → ClassId) : List (ClassId × FieldType) := [(dA 0, .int), (dA 1, .boolean), (dA 2, .object "FeedDesk$Book"), (dA 3, .object "FeedDesk$Event"), (dA 4, .object "FeedDesk$Receiver"), (dA 5, .object "FeedDesk$Reader"), (dA 6, .object "FeedDesk$Snapshot"), (dA 7, .object "FeedDesk$Track")]
def fk (D : va_G) (dA : Nat → ClassId) : fv_K := (D, fk_cl, fk_tys dA, fk_NF, fk_NM, fk_AO)
/-- the tables' words that a walk may keep -/
def WA : List Cond := lw_tbl.filter goodWord
theorem wa_good : ∀ w ∈ WA, fv_good w := fun w hw => good_of_word (List.mem_filter.mp hw).2
theorem wa_t {w : Cond} (i : Nat) (h : tables_1[i]? = some w) (hg : goodWord w = true) : w ∈ WA := List.mem_filter.mpr ⟨List.mem_append_right _ (List.mem_of_getElem? h), hg⟩
theorem wa_s {w : Cond} (i : Nat) (h : (k2_sels lw_privs)[i]? = some w) (hg : goodWord w = true) : w ∈ WA := List.mem_filter.mpr ⟨List.mem_append_left _ (List.mem_of_getElem? h), hg⟩
abbrev m_D_init : fv_M := (⟨"FeedDesk", "<init>", "()V"⟩, prog_1_method_1_code, 4, none, 4, 105)
abbrev m_P_init : fv_M := (⟨"FeedDesk$Publisher", "<init>", "()V"⟩, prog_4_method_1_code, 2, none, 3, 80)
abbrev m_B_init : fv_M := (⟨"FeedDesk$Book", "<init>", "()V"⟩, prog_2_method_1_code, 1, none, 1, 40)
abbrev m_S_init : fv_M := (⟨"FeedDesk$Snapshot", "<init>", "()V"⟩, prog_7_method_1_code, 1, none, 2, 60)
abbrev m_W_init : fv_M := (⟨"FeedDesk$Reader", "<init>", "()V"⟩, prog_5_method_1_code, 1, none, 2, 43)
abbrev m_D_emptyView : fv_M := (⟨"FeedDesk", "emptyView", "()[I"⟩, prog_1_method_30_code, 1, (some (.array .int)), 1, 23)
abbrev m_A_fill : fv_M := (⟨"java/util/Arrays", "fill", "([II)V"⟩, prog_13_method_103_code, 4, none, 0, 0)
abbrev m_V_init : fv_M := (⟨"FeedDesk$Receiver", "<init>", "(LFeedDesk$Publisher;LFeedDesk$Reader;)V"⟩, prog_6_method_1_code, 4, none, 3, 82)
abbrev m_T_init : fv_M := (⟨"FeedDesk$Track", "<init>", "(ILFeedDesk$Reader;)V"⟩, prog_8_method_1_code, 3, none, 2, 60)
abbrev m_D_add : fv_M := (⟨"FeedDesk", "add", "(IIIII)I"⟩, prog_1_method_2_code, 6, (some .int), 4, 113)
abbrev m_D_isInstrument : fv_M := (⟨"FeedDesk", "isInstrument", "(I)Z"⟩, prog_1_method_24_code, 1, (some .boolean), 0, 0)
abbrev m_D_isCount : fv_M := (⟨"FeedDesk", "isCount", "(I)Z"⟩, prog_1_method_27_code, 1, (some .boolean), 0, 0)
abbrev m_D_isSide : fv_M := (⟨"FeedDesk", "isSide", "(I)Z"⟩, prog_1_method_26_code, 1, (some .boolean), 0, 0)
abbrev m_P_offer : fv_M := (⟨"FeedDesk$Publisher", "offer", "(IIIIII)I"⟩, prog_4_method_2_code, 9, (some .int), 3, 85)
abbrev m_B_allows : fv_M := (⟨"FeedDesk$Book", "allows", "(III)Z"⟩, prog_2_method_2_code, 5, (some .boolean), 1, 22)
abbrev m_B_placeOf : fv_M := (⟨"FeedDesk$Book", "placeOf", "(I)I"⟩, prog_2_method_4_code, 3, (some .int), 0, 0)
abbrev m_B_haltValue : fv_M := (⟨"FeedDesk$Book", "haltValue", "()I"⟩, prog_2_method_11_code, 1, (some .int), 0, 0)
abbrev m_E_init : fv_M := (⟨"FeedDesk$Event", "<init>", "(IIIIIII)V"⟩, prog_3_method_1_code, 8, none, 1, 40)
abbrev m_B_apply : fv_M := (⟨"FeedDesk$Book", "apply", "(LFeedDesk$Event;)V"⟩, prog_2_method_3_code, 2, none, 2, 64)
abbrev m_B_insert : fv_M := (⟨"FeedDesk$Book", "insert", "(LFeedDesk$Event;)V"⟩, prog_2_method_5_code, 5, none, 1, 40)
abbrev m_B_startOf : fv_M := (⟨"FeedDesk$Book", "startOf", "(I)I"⟩, prog_2_method_9_code, 2, (some .int), 0, 0)
abbrev m_B_endOf : fv_M := (⟨"FeedDesk$Book", "endOf", "(I)I"⟩, prog_2_method_10_code, 2, (some .int), 0, 0)
abbrev m_B_shrink : fv_M := (⟨"FeedDesk$Book", "shrink", "(ILFeedDesk$Event;)V"⟩, prog_2_method_6_code, 4, none, 1, 40)
abbrev m_B_sizeLeft : fv_M := (⟨"FeedDesk$Book", "sizeLeft", "(ILFeedDesk$Event;)I"⟩, prog_2_method_7_code, 2, (some .int), 0, 0)
abbrev m_D_change : fv_M := (⟨"FeedDesk", "change", "(III)I"⟩, prog_1_method_3_code, 4, (some .int), 4, 113)
abbrev m_D_execute : fv_M := (⟨"FeedDesk", "execute", "(III)I"⟩, prog_1_method_4_code, 4, (some .int), 4, 113)
abbrev m_D_cancel : fv_M := (⟨"FeedDesk", "cancel", "(II)I"⟩, prog_1_method_5_code, 3, (some .int), 4, 113)
abbrev m_D_halt : fv_M := (⟨"FeedDesk", "halt", "(IZ)I"⟩, prog_1_method_6_code, 3, (some .int), 4, 113)
abbrev m_D_clear : fv_M := (⟨"FeedDesk", "clear", "(I)I"⟩, prog_1_method_7_code, 2, (some .int), 4, 113)
abbrev m_D_publish : fv_M := (⟨"FeedDesk", "publish", "()I"⟩, prog_1_method_8_code, 1, (some .int), 1, 20)
abbrev m_P_closePacket : fv_M := (⟨"FeedDesk$Publisher", "closePacket", "()I"⟩, prog_4_method_3_code, 1, (some .int), 0, 0)
abbrev m_D_packetByte : fv_M := (⟨"FeedDesk", "packetByte", "(II)I"⟩, prog_1_method_9_code, 3, (some .int), 3, 65)
abbrev m_P_byteOfPacket : fv_M := (⟨"FeedDesk$Publisher", "byteOfPacket", "(II)I"⟩, prog_4_method_8_code, 4, (some .int), 2, 42)
abbrev m_P_isClosed : fv_M := (⟨"FeedDesk$Publisher", "isClosed", "(I)Z"⟩, prog_4_method_4_code, 2, (some .boolean), 0, 0)
abbrev m_E_byteOf : fv_M := (⟨"FeedDesk$Event", "byteOf", "(II)I"⟩, prog_3_method_3_code, 2, (some .int), 0, 0)
abbrev m_P_endOf : fv_M := (⟨"FeedDesk$Publisher", "endOf", "(I)I"⟩, prog_4_method_6_code, 2, (some .int), 0, 0)
abbrev m_P_startOf : fv_M := (⟨"FeedDesk$Publisher", "startOf", "(I)I"⟩, prog_4_method_5_code, 2, (some .int), 0, 0)
abbrev m_E_byteAt : fv_M := (⟨"FeedDesk$Event", "byteAt", "(I)I"⟩, prog_3_method_2_code, 2, (some .int), 1, 21)
abbrev m_D_line : fv_M := (⟨"FeedDesk", "line", "(III)I"⟩, prog_1_method_10_code, 4, (some .int), 7, 174)
abbrev m_D_isReceiver : fv_M := (⟨"FeedDesk", "isReceiver", "(I)Z"⟩, prog_1_method_25_code, 1, (some .boolean), 0, 0)
abbrev m_V_hear : fv_M := (⟨"FeedDesk$Receiver", "hear", "(I)I"⟩, prog_6_method_2_code, 2, (some .int), 6, 153)
abbrev m_V_passThrough : fv_M := (⟨"FeedDesk$Receiver", "passThrough", "(I)V"⟩, prog_6_method_6_code, 5, none, 5, 129)
abbrev m_T_take : fv_M := (⟨"FeedDesk$Track", "take", "(LFeedDesk$Event;)V"⟩, prog_8_method_2_code, 3, none, 4, 107)
abbrev m_T_follow : fv_M := (⟨"FeedDesk$Track", "follow", "()V"⟩, prog_8_method_4_code, 3, none, 3, 85)
abbrev m_B_refresh : fv_M := (⟨"FeedDesk$Book", "refresh", "([I)Z"⟩, prog_2_method_14_code, 5, (some .boolean), 2, 51)
abbrev m_B_levelValue : fv_M := (⟨"FeedDesk$Book", "levelValue", "(III)I"⟩, prog_2_method_13_code, 11, (some .int), 1, 21)
abbrev m_W_mark : fv_M := (⟨"FeedDesk$Reader", "mark", "(I)V"⟩, prog_5_method_2_code, 3, none, 0, 0)
abbrev m_T_takeHeld : fv_M := (⟨"FeedDesk$Track", "takeHeld", "(I)LFeedDesk$Event;"⟩, prog_8_method_6_code, 4, (some (.object "FeedDesk$Event")), 0, 0)
abbrev m_T_hold : fv_M := (⟨"FeedDesk$Track", "hold", "(LFeedDesk$Event;)V"⟩, prog_8_method_5_code, 3, none, 0, 0)
abbrev m_D_askReplay : fv_M := (⟨"FeedDesk", "askReplay", "(I)I"⟩, prog_1_method_11_code, 2, (some .int), 2, 60)
abbrev m_V_ask : fv_M := (⟨"FeedDesk$Receiver", "ask", "()I"⟩, prog_6_method_3_code, 1, (some .int), 1, 40)
abbrev m_V_lastOfGap : fv_M := (⟨"FeedDesk$Receiver", "lastOfGap", "()I"⟩, prog_6_method_5_code, 2, (some .int), 0, 0)
abbrev m_D_serveReplay : fv_M := (⟨"FeedDesk", "serveReplay", "(I)I"⟩, prog_1_method_12_code, 2, (some .int), 7, 175)
abbrev m_V_takeAnswer : fv_M := (⟨"FeedDesk$Receiver", "takeAnswer", "()I"⟩, prog_6_method_4_code, 3, (some .int), 6, 153)
abbrev m_P_canReplayFrom : fv_M := (⟨"FeedDesk$Publisher", "canReplayFrom", "(I)Z"⟩, prog_4_method_7_code, 2, (some .boolean), 1, 21)
abbrev m_V_giveUp : fv_M := (⟨"FeedDesk$Receiver", "giveUp", "(I)V"⟩, prog_6_method_7_code, 3, none, 0, 0)
abbrev m_D_snapshotTurn : fv_M := (⟨"FeedDesk", "snapshotTurn", "()I"⟩, prog_1_method_13_code, 1, (some .int), 4, 105)
abbrev m_P_makeSnapshot : fv_M := (⟨"FeedDesk$Publisher", "makeSnapshot", "()I"⟩, prog_4_method_9_code, 2, (some .int), 3, 84)
abbrev m_P_snapshot : fv_M := (⟨"FeedDesk$Publisher", "snapshot", "(I)LFeedDesk$Snapshot;"⟩, prog_4_method_11_code, 2, (some (.object "FeedDesk$Snapshot")), 0, 0)
abbrev m_S_fix : fv_M := (⟨"FeedDesk$Snapshot", "fix", "(ILFeedDesk$Book;I)V"⟩, prog_7_method_2_code, 4, none, 2, 61)
abbrev m_B_become : fv_M := (⟨"FeedDesk$Book", "become", "(LFeedDesk$Book;)V"⟩, prog_2_method_8_code, 2, none, 1, 40)
abbrev m_D_hearSnapshot : fv_M := (⟨"FeedDesk", "hearSnapshot", "(III)I"⟩, prog_1_method_14_code, 5, (some .int), 5, 130)
abbrev m_P_canHear : fv_M := (⟨"FeedDesk$Publisher", "canHear", "(I)Z"⟩, prog_4_method_10_code, 2, (some .boolean), 0, 0)
abbrev m_S_hasPiece : fv_M := (⟨"FeedDesk$Snapshot", "hasPiece", "(I)Z"⟩, prog_7_method_3_code, 3, (some .boolean), 1, 40)
abbrev m_T_restore : fv_M := (⟨"FeedDesk$Track", "restore", "(LFeedDesk$Snapshot;)I"⟩, prog_8_method_3_code, 4, (some .int), 4, 107)
abbrev m_T_forgetOldHeld : fv_M := (⟨"FeedDesk$Track", "forgetOldHeld", "()V"⟩, prog_8_method_7_code, 4, none, 0, 0)
abbrev m_D_sound : fv_M := (⟨"FeedDesk", "sound", "(II)I"⟩, prog_1_method_15_code, 3, (some .int), 1, 21)
abbrev m_V_isSound : fv_M := (⟨"FeedDesk$Receiver", "isSound", "(I)Z"⟩, prog_6_method_8_code, 2, (some .boolean), 0, 0)
abbrev m_D_at : fv_M := (⟨"FeedDesk", "at", "(II)I"⟩, prog_1_method_16_code, 3, (some .int), 2, 41)
abbrev m_D_hasBook : fv_M := (⟨"FeedDesk", "hasBook", "(II)Z"⟩, prog_1_method_29_code, 2, (some .boolean), 1, 20)
abbrev m_D_book : fv_M := (⟨"FeedDesk", "book", "(II)LFeedDesk$Book;"⟩, prog_1_method_31_code, 3, (some (.object "FeedDesk$Book")), 0, 0)
abbrev m_D_receiver : fv_M := (⟨"FeedDesk", "receiver", "(II)I"⟩, prog_1_method_17_code, 3, (some .int), 1, 22)
abbrev m_V_countKept : fv_M := (⟨"FeedDesk$Receiver", "countKept", "()I"⟩, prog_6_method_9_code, 3, (some .int), 0, 0)
abbrev m_V_countHeld : fv_M := (⟨"FeedDesk$Receiver", "countHeld", "()I"⟩, prog_6_method_10_code, 3, (some .int), 0, 0)
abbrev m_D_best : fv_M := (⟨"FeedDesk", "best", "(IIIII)I"⟩, prog_1_method_18_code, 6, (some .int), 2, 51)
abbrev m_D_isLevelValue : fv_M := (⟨"FeedDesk", "isLevelValue", "(I)Z"⟩, prog_1_method_28_code, 1, (some .boolean), 0, 0)
abbrev m_D_order : fv_M := (⟨"FeedDesk", "order", "(IIII)I"⟩, prog_1_method_19_code, 5, (some .int), 2, 44)
abbrev m_B_idAt : fv_M := (⟨"FeedDesk$Book", "idAt", "(II)I"⟩, prog_2_method_12_code, 4, (some .int), 1, 21)
abbrev m_D_halted : fv_M := (⟨"FeedDesk", "halted", "(II)I"⟩, prog_1_method_20_code, 3, (some .int), 2, 41)
abbrev m_D_dirty : fv_M := (⟨"FeedDesk", "dirty", "(I)I"⟩, prog_1_method_21_code, 2, (some .int), 1, 20)
abbrev m_D_read : fv_M := (⟨"FeedDesk", "read", "(I)I"⟩, prog_1_method_22_code, 3, (some .int), 3, 75)
abbrev m_W_takeFirst : fv_M := (⟨"FeedDesk$Reader", "takeFirst", "()I"⟩, prog_5_method_3_code, 2, (some .int), 1, 40)
abbrev m_D_view : fv_M := (⟨"FeedDesk", "view", "(IIII)I"⟩, prog_1_method_23_code, 7, (some .int), 1, 20)
abbrev m_M_init : fv_M := (⟨"FeedDeskModel", "<init>", "()V"⟩, prog_10_method_1_code, 1, none, 1, 40)
abbrev m_M_add : fv_M := (⟨"FeedDeskModel", "add", "(IIIII)I"⟩, prog_10_method_16_code, 7, (some .int), 4, 95)
abbrev m_M_isInstrument : fv_M := (⟨"FeedDeskModel", "isInstrument", "(I)Z"⟩, prog_10_method_3_code, 1, (some .boolean), 1, 22)
abbrev m_M_within : fv_M := (⟨"FeedDeskModel", "within", "(III)Z"⟩, prog_10_method_2_code, 3, (some .boolean), 0, 0)
abbrev m_M_isId : fv_M := (⟨"FeedDeskModel", "isId", "(I)Z"⟩, prog_10_method_4_code, 1, (some .boolean), 1, 22)
abbrev m_M_take : fv_M := (⟨"FeedDeskModel", "take", "(IIIIII)I"⟩, prog_10_method_15_code, 9, (some .int), 3, 67)
abbrev m_M_goOver : fv_M := (⟨"FeedDeskModel", "goOver", "(II)V"⟩, prog_10_method_9_code, 4, none, 2, 44)
abbrev m_M_perform : fv_M := (⟨"FeedDeskModel", "perform", "(I)V"⟩, prog_10_method_8_code, 3, none, 1, 22)
abbrev m_M_find : fv_M := (⟨"FeedDeskModel", "find", "(I)I"⟩, prog_10_method_6_code, 3, (some .int), 0, 0)
abbrev m_M_drop : fv_M := (⟨"FeedDeskModel", "drop", "(I)V"⟩, prog_10_method_7_code, 3, none, 0, 0)
abbrev m_M_change : fv_M := (⟨"FeedDeskModel", "change", "(III)I"⟩, prog_10_method_17_code, 4, (some .int), 4, 95)
abbrev m_M_execute : fv_M := (⟨"FeedDeskModel", "execute", "(III)I"⟩, prog_10_method_18_code, 4, (some .int), 4, 95)
abbrev m_M_cancel : fv_M := (⟨"FeedDeskModel", "cancel", "(II)I"⟩, prog_10_method_19_code, 3, (some .int), 4, 95)
abbrev m_M_halt : fv_M := (⟨"FeedDeskModel", "halt", "(IZ)I"⟩, prog_10_method_20_code, 3, (some .int), 4, 95)
abbrev m_M_clear : fv_M := (⟨"FeedDeskModel", "clear", "(I)I"⟩, prog_10_method_21_code, 2, (some .int), 4, 95)
abbrev m_M_publish : fv_M := (⟨"FeedDeskModel", "publish", "()I"⟩, prog_10_method_22_code, 1, (some .int), 0, 0)
abbrev m_M_packetByte : fv_M := (⟨"FeedDeskModel", "packetByte", "(II)I"⟩, prog_10_method_25_code, 4, (some .int), 2, 43)
abbrev m_M_byteOf : fv_M := (⟨"FeedDeskModel", "byteOf", "(II)I"⟩, prog_10_method_23_code, 2, (some .int), 0, 0)
abbrev m_M_eventByte : fv_M := (⟨"FeedDeskModel", "eventByte", "(II)I"⟩, prog_10_method_24_code, 3, (some .int), 1, 21)
abbrev m_M_line : fv_M := (⟨"FeedDeskModel", "line", "(III)I"⟩, prog_10_method_33_code, 4, (some .int), 11, 263)
abbrev m_M_isReceiver : fv_M := (⟨"FeedDeskModel", "isReceiver", "(I)Z"⟩, prog_10_method_5_code, 1, (some .boolean), 1, 22)
abbrev m_M_hear : fv_M := (⟨"FeedDeskModel", "hear", "(II)I"⟩, prog_10_method_32_code, 3, (some .int), 10, 241)
abbrev m_M_pass : fv_M := (⟨"FeedDeskModel", "pass", "(I)V"⟩, prog_10_method_30_code, 4, none, 8, 197)
abbrev m_M_event : fv_M := (⟨"FeedDeskModel", "event", "(II)V"⟩, prog_10_method_29_code, 6, none, 7, 172)
abbrev m_M_become : fv_M := (⟨"FeedDeskModel", "become", "(III)V"⟩, prog_10_method_26_code, 6, none, 5, 124)
abbrev m_M_look : fv_M := (⟨"FeedDeskModel", "look", "([I)V"⟩, prog_10_method_14_code, 5, none, 4, 100)
abbrev m_M_ofLevel : fv_M := (⟨"FeedDeskModel", "ofLevel", "(III)I"⟩, prog_10_method_13_code, 8, (some .int), 3, 73)
abbrev m_M_levelAt : fv_M := (⟨"FeedDeskModel", "levelAt", "(II)I"⟩, prog_10_method_12_code, 7, (some .int), 2, 47)
abbrev m_M_orderAt : fv_M := (⟨"FeedDeskModel", "orderAt", "(II)I"⟩, prog_10_method_11_code, 6, (some .int), 1, 22)
abbrev m_M_ahead : fv_M := (⟨"FeedDeskModel", "ahead", "(II)Z"⟩, prog_10_method_10_code, 3, (some .boolean), 0, 0)
abbrev m_M_follow : fv_M := (⟨"FeedDeskModel", "follow", "(II)V"⟩, prog_10_method_28_code, 4, none, 6, 149)
abbrev m_M_release : fv_M := (⟨"FeedDeskModel", "release", "(II)V"⟩, prog_10_method_27_code, 3, none, 0, 0)
abbrev m_M_goOn : fv_M := (⟨"FeedDeskModel", "goOn", "(I)V"⟩, prog_10_method_31_code, 2, none, 9, 220)
abbrev m_M_askReplay : fv_M := (⟨"FeedDeskModel", "askReplay", "(I)I"⟩, prog_10_method_35_code, 3, (some .int), 2, 42)
abbrev m_M_gapEnd : fv_M := (⟨"FeedDeskModel", "gapEnd", "(I)I"⟩, prog_10_method_34_code, 3, (some .int), 0, 0)
abbrev m_M_serveReplay : fv_M := (⟨"FeedDeskModel", "serveReplay", "(I)I"⟩, prog_10_method_36_code, 5, (some .int), 11, 263)
abbrev m_M_snapshotTurn : fv_M := (⟨"FeedDeskModel", "snapshotTurn", "()I"⟩, prog_10_method_37_code, 2, (some .int), 0, 0)
abbrev m_M_hearSnapshot : fv_M := (⟨"FeedDeskModel", "hearSnapshot", "(III)I"⟩, prog_10_method_39_code, 8, (some .int), 7, 172)
abbrev m_M_pieces : fv_M := (⟨"FeedDeskModel", "pieces", "(I)I"⟩, prog_10_method_38_code, 2, (some .int), 3, 67)
abbrev m_M_sound : fv_M := (⟨"FeedDeskModel", "sound", "(II)I"⟩, prog_10_method_40_code, 3, (some .int), 2, 42)
abbrev m_M_at : fv_M := (⟨"FeedDeskModel", "at", "(II)I"⟩, prog_10_method_43_code, 3, (some .int), 3, 63)
abbrev m_M_isBook : fv_M := (⟨"FeedDeskModel", "isBook", "(II)Z"⟩, prog_10_method_41_code, 2, (some .boolean), 2, 42)
abbrev m_M_manyOf : fv_M := (⟨"FeedDeskModel", "manyOf", "(II)I"⟩, prog_10_method_42_code, 3, (some .int), 0, 0)
abbrev m_M_receiver : fv_M := (⟨"FeedDeskModel", "receiver", "(II)I"⟩, prog_10_method_44_code, 5, (some .int), 2, 42)
abbrev m_M_best : fv_M := (⟨"FeedDeskModel", "best", "(IIIII)I"⟩, prog_10_method_45_code, 6, (some .int), 4, 100)
abbrev m_M_order : fv_M := (⟨"FeedDeskModel", "order", "(IIII)I"⟩, prog_10_method_46_code, 6, (some .int), 3, 67)
abbrev m_M_halted : fv_M := (⟨"FeedDeskModel", "halted", "(II)I"⟩, prog_10_method_47_code, 3, (some .int), 3, 67)
abbrev m_M_dirty : fv_M := (⟨"FeedDeskModel", "dirty", "(I)I"⟩, prog_10_method_48_code, 2, (some .int), 2, 42)
abbrev m_M_read : fv_M := (⟨"FeedDeskModel", "read", "(I)I"⟩, prog_10_method_49_code, 4, (some .int), 5, 124)
abbrev m_M_view : fv_M := (⟨"FeedDeskModel", "view", "(IIII)I"⟩, prog_10_method_50_code, 6, (some .int), 2, 42)
abbrev m_law : fv_M := (x, code, 4, ret, 14, 576)
end
section
/-! the instructions (by program, from the listing) -/
theorem d_D_init_0 : decode prog_1_method_1_code 0 = .ok (.aload_n 0, 1) := by decide +kernel
theorem d_D_init_1 : decode prog_1_method_1_code 1 = .ok (.invokespecial 3, 3) := by decide +kernel
theorem d_D_init_4 : decode prog_1_method_1_code 4 = .ok (.aload_n 0, 1) := by decide +kernel
theorem d_D_init_5 : decode prog_1_method_1_code 5 = .ok (.iconst 2, 1) := by decide +kernel
theorem d_D_init_6 : decode prog_1_method_1_code 6 = .ok (.anewarray 9, 3) := by decide +kernel
theorem d_D_init_9 : decode prog_1_method_1_code 9 = .ok (.putfield 11, 3) := by decide +kernel
theorem d_D_init_12 : decode prog_1_method_1_code 12 = .ok (.aload_n 0, 1) := by decide +kernel
theorem d_D_init_13 : decode prog_1_method_1_code 13 = .ok (.iconst 2, 1) := by decide +kernel
theorem d_D_init_14 : decode prog_1_method_1_code 14 = .ok (.anewarray 15, 3) := by decide +kernel
theorem d_D_init_17 : decode prog_1_method_1_code 17 = .ok (.putfield 17, 3) := by decide +kernel
theorem d_D_init_20 : decode prog_1_method_1_code 20 = .ok (.new 21, 3) := by decide +kernel
theorem d_D_init_23 : decode prog_1_method_1_code 23 = .ok (.dup, 1) := by decide +kernel
theorem d_D_init_24 : decode prog_1_method_1_code 24 = .ok (.invokespecial 23, 3) := by decide +kernel
theorem d_D_init_27 : decode prog_1_method_1_code 27 = .ok (.astore_n 1, 1) := by decide +kernel
theorem d_D_init_28 : decode prog_1_method_1_code 28 = .ok (.aload_n 0, 1) := by decide +kernel
theorem d_D_init_29 : decode prog_1_method_1_code 29 = .ok (.aload_n 1, 1) := by decide +kernel
theorem d_D_init_30 : decode prog_1_method_1_code 30 = .ok (.putfield 24, 3) := by decide +kernel
theorem d_D_init_33 : decode prog_1_method_1_code 33 = .ok (.iconst 0, 1) := by decide +kernel
theorem d_D_init_34 : decode prog_1_method_1_code 34 = .ok (.istore_n 2, 1) := by decide +kernel
theorem d_D_init_35 : decode prog_1_method_1_code 35 = .ok (.iload_n 2, 1) := by decide +kernel
theorem d_D_init_36 : decode prog_1_method_1_code 36 = .ok (.iconst 2, 1) := by decide +kernel
theorem d_D_init_37 : decode prog_1_method_1_code 37 = .ok (.if_icmp .ge 39, 3) := by decide +kernel
theorem d_D_init_40 : decode prog_1_method_1_code 40 = .ok (.new 15, 3) := by decide +kernel
theorem d_D_init_43 : decode prog_1_method_1_code 43 = .ok (.dup, 1) := by decide +kernel
theorem d_D_init_44 : decode prog_1_method_1_code 44 = .ok (.invokespecial 28, 3) := by decide +kernel
theorem d_D_init_47 : decode prog_1_method_1_code 47 = .ok (.astore_n 3, 1) := by decide +kernel
theorem d_D_init_48 : decode prog_1_method_1_code 48 = .ok (.aload_n 0, 1) := by decide +kernel
theorem d_D_init_49 : decode prog_1_method_1_code 49 = .ok (.getfield 17, 3) := by decide +kernel
theorem d_D_init_52 : decode prog_1_method_1_code 52 = .ok (.iload_n 2, 1) := by decide +kernel
theorem d_D_init_53 : decode prog_1_method_1_code 53 = .ok (.aload_n 3, 1) := by decide +kernel
theorem d_D_init_54 : decode prog_1_method_1_code 54 = .ok (.aastore, 1) := by decide +kernel
theorem d_D_init_55 : decode prog_1_method_1_code 55 = .ok (.aload_n 0, 1) := by decide +kernel
theorem d_D_init_56 : decode prog_1_method_1_code 56 = .ok (.getfield 11, 3) := by decide +kernel
theorem d_D_init_59 : decode prog_1_method_1_code 59 = .ok (.iload_n 2, 1) := by decide +kernel
theorem d_D_init_60 : decode prog_1_method_1_code 60 = .ok (.new 9, 3) := by decide +kernel
theorem d_D_init_63 : decode prog_1_method_1_code 63 = .ok (.dup, 1) := by decide +kernel
theorem d_D_init_64 : decode prog_1_method_1_code 64 = .ok (.aload_n 1, 1) := by decide +kernel
theorem d_D_init_65 : decode prog_1_method_1_code 65 = .ok (.aload_n 3, 1) := by decide +kernel
theorem d_D_init_66 : decode prog_1_method_1_code 66 = .ok (.invokespecial 29, 3) := by decide +kernel
theorem d_D_init_69 : decode prog_1_method_1_code 69 = .ok (.aastore, 1) := by decide +kernel
theorem d_D_init_70 : decode prog_1_method_1_code 70 = .ok (.iinc 2 1, 3) := by decide +kernel
theorem d_D_init_73 : decode prog_1_method_1_code 73 = .ok (.goto (-38), 3) := by decide +kernel
theorem d_D_init_76 : decode prog_1_method_1_code 76 = .ok (.return_, 1) := by decide +kernel
theorem d_P_init_0 : decode prog_4_method_1_code 0 = .ok (.aload_n 0, 1) := by decide +kernel
theorem d_P_init_1 : decode prog_4_method_1_code 1 = .ok (.invokespecial 3, 3) := by decide +kernel
theorem d_P_init_4 : decode prog_4_method_1_code 4 = .ok (.aload_n 0, 1) := by decide +kernel
theorem d_P_init_5 : decode prog_4_method_1_code 5 = .ok (.iconst 4, 1) := by decide +kernel
theorem d_P_init_6 : decode prog_4_method_1_code 6 = .ok (.anewarray 9, 3) := by decide +kernel
theorem d_P_init_9 : decode prog_4_method_1_code 9 = .ok (.putfield 11, 3) := by decide +kernel
theorem d_P_init_12 : decode prog_4_method_1_code 12 = .ok (.aload_n 0, 1) := by decide +kernel
theorem d_P_init_13 : decode prog_4_method_1_code 13 = .ok (.sipush 400, 3) := by decide +kernel
theorem d_P_init_16 : decode prog_4_method_1_code 16 = .ok (.anewarray 17, 3) := by decide +kernel
theorem d_P_init_19 : decode prog_4_method_1_code 19 = .ok (.putfield 19, 3) := by decide +kernel
theorem d_P_init_22 : decode prog_4_method_1_code 22 = .ok (.aload_n 0, 1) := by decide +kernel
theorem d_P_init_23 : decode prog_4_method_1_code 23 = .ok (.iconst 0, 1) := by decide +kernel
theorem d_P_init_24 : decode prog_4_method_1_code 24 = .ok (.putfield 23, 3) := by decide +kernel
theorem d_P_init_27 : decode prog_4_method_1_code 27 = .ok (.aload_n 0, 1) := by decide +kernel
theorem d_P_init_28 : decode prog_4_method_1_code 28 = .ok (.sipush 401, 3) := by decide +kernel
theorem d_P_init_31 : decode prog_4_method_1_code 31 = .ok (.newarray .int, 2) := by decide +kernel
theorem d_P_init_33 : decode prog_4_method_1_code 33 = .ok (.putfield 27, 3) := by decide +kernel
theorem d_P_init_36 : decode prog_4_method_1_code 36 = .ok (.aload_n 0, 1) := by decide +kernel
theorem d_P_init_37 : decode prog_4_method_1_code 37 = .ok (.iconst 0, 1) := by decide +kernel
theorem d_P_init_38 : decode prog_4_method_1_code 38 = .ok (.putfield 31, 3) := by decide +kernel
theorem d_P_init_41 : decode prog_4_method_1_code 41 = .ok (.aload_n 0, 1) := by decide +kernel
theorem d_P_init_42 : decode prog_4_method_1_code 42 = .ok (.bipush 8, 2) := by decide +kernel
theorem d_P_init_44 : decode prog_4_method_1_code 44 = .ok (.anewarray 34, 3) := by decide +kernel
theorem d_P_init_47 : decode prog_4_method_1_code 47 = .ok (.putfield 36, 3) := by decide +kernel
theorem d_P_init_50 : decode prog_4_method_1_code 50 = .ok (.aload_n 0, 1) := by decide +kernel
theorem d_P_init_51 : decode prog_4_method_1_code 51 = .ok (.iconst 0, 1) := by decide +kernel
theorem d_P_init_52 : decode prog_4_method_1_code 52 = .ok (.putfield 40, 3) := by decide +kernel
theorem d_P_init_55 : decode prog_4_method_1_code 55 = .ok (.iconst 0, 1) := by decide +kernel
theorem d_P_init_56 : decode prog_4_method_1_code 56 = .ok (.istore_n 1, 1) := by decide +kernel
theorem d_P_init_57 : decode prog_4_method_1_code 57 = .ok (.iload_n 1, 1) := by decide +kernel
theorem d_P_init_58 : decode prog_4_method_1_code 58 = .ok (.iconst 4, 1) := by decide +kernel
theorem d_P_init_59 : decode prog_4_method_1_code 59 = .ok (.if_icmp .ge 22, 3) := by decide +kernel
theorem d_P_init_62 : decode prog_4_method_1_code 62 = .ok (.aload_n 0, 1) := by decide +kernel
theorem d_P_init_63 : decode prog_4_method_1_code 63 = .ok (.getfield 11, 3) := by decide +kernel
theorem d_P_init_66 : decode prog_4_method_1_code 66 = .ok (.iload_n 1, 1) := by decide +kernel
theorem d_P_init_67 : decode prog_4_method_1_code 67 = .ok (.new 9, 3) := by decide +kernel
theorem d_P_init_70 : decode prog_4_method_1_code 70 = .ok (.dup, 1) := by decide +kernel
theorem d_P_init_71 : decode prog_4_method_1_code 71 = .ok (.invokespecial 43, 3) := by decide +kernel
theorem d_P_init_74 : decode prog_4_method_1_code 74 = .ok (.aastore, 1) := by decide +kernel
theorem d_P_init_75 : decode prog_4_method_1_code 75 = .ok (.iinc 1 1, 3) := by decide +kernel
theorem d_P_init_78 : decode prog_4_method_1_code 78 = .ok (.goto (-21), 3) := by decide +kernel
theorem d_P_init_81 : decode prog_4_method_1_code 81 = .ok (.iconst 0, 1) := by decide +kernel
theorem d_P_init_82 : decode prog_4_method_1_code 82 = .ok (.istore_n 1, 1) := by decide +kernel
theorem d_P_init_83 : decode prog_4_method_1_code 83 = .ok (.iload_n 1, 1) := by decide +kernel
theorem d_P_init_84 : decode prog_4_method_1_code 84 = .ok (.bipush 8, 2) := by decide +kernel
theorem d_P_init_86 : decode prog_4_method_1_code 86 = .ok (.if_icmp .ge 22, 3) := by decide +kernel
theorem d_P_init_89 : decode prog_4_method_1_code 89 = .ok (.aload_n 0, 1) := by decide +kernel
theorem d_P_init_90 : decode prog_4_method_1_code 90 = .ok (.getfield 36, 3) := by decide +kernel
theorem d_P_init_93 : decode prog_4_method_1_code 93 = .ok (.iload_n 1, 1) := by decide +kernel
theorem d_P_init_94 : decode prog_4_method_1_code 94 = .ok (.new 34, 3) := by decide +kernel
theorem d_P_init_97 : decode prog_4_method_1_code 97 = .ok (.dup, 1) := by decide +kernel
theorem d_P_init_98 : decode prog_4_method_1_code 98 = .ok (.invokespecial 44, 3) := by decide +kernel
theorem d_P_init_101 : decode prog_4_method_1_code 101 = .ok (.aastore, 1) := by decide +kernel
theorem d_P_init_102 : decode prog_4_method_1_code 102 = .ok (.iinc 1 1, 3) := by decide +kernel
theorem d_P_init_105 : decode prog_4_method_1_code 105 = .ok (.goto (-22), 3) := by decide +kernel
theorem d_P_init_108 : decode prog_4_method_1_code 108 = .ok (.return_, 1) := by decide +kernel
theorem d_B_init_0 : decode prog_2_method_1_code 0 = .ok (.aload_n 0, 1) := by decide +kernel
theorem d_B_init_1 : decode prog_2_method_1_code 1 = .ok (.invokespecial 3, 3) := by decide +kernel
theorem d_B_init_4 : decode prog_2_method_1_code 4 = .ok (.aload_n 0, 1) := by decide +kernel
theorem d_B_init_5 : decode prog_2_method_1_code 5 = .ok (.bipush 24, 2) := by decide +kernel
theorem d_B_init_7 : decode prog_2_method_1_code 7 = .ok (.newarray .int, 2) := by decide +kernel
theorem d_B_init_9 : decode prog_2_method_1_code 9 = .ok (.putfield 9, 3) := by decide +kernel
theorem d_B_init_12 : decode prog_2_method_1_code 12 = .ok (.aload_n 0, 1) := by decide +kernel
theorem d_B_init_13 : decode prog_2_method_1_code 13 = .ok (.bipush 24, 2) := by decide +kernel
theorem d_B_init_15 : decode prog_2_method_1_code 15 = .ok (.newarray .int, 2) := by decide +kernel
theorem d_B_init_17 : decode prog_2_method_1_code 17 = .ok (.putfield 15, 3) := by decide +kernel
theorem d_B_init_20 : decode prog_2_method_1_code 20 = .ok (.aload_n 0, 1) := by decide +kernel
theorem d_B_init_21 : decode prog_2_method_1_code 21 = .ok (.bipush 24, 2) := by decide +kernel
theorem d_B_init_23 : decode prog_2_method_1_code 23 = .ok (.newarray .int, 2) := by decide +kernel
theorem d_B_init_25 : decode prog_2_method_1_code 25 = .ok (.putfield 18, 3) := by decide +kernel
theorem d_B_init_28 : decode prog_2_method_1_code 28 = .ok (.aload_n 0, 1) := by decide +kernel
theorem d_B_init_29 : decode prog_2_method_1_code 29 = .ok (.iconst 0, 1) := by decide +kernel
theorem d_B_init_30 : decode prog_2_method_1_code 30 = .ok (.putfield 21, 3) := by decide +kernel
theorem d_B_init_33 : decode prog_2_method_1_code 33 = .ok (.aload_n 0, 1) := by decide +kernel
theorem d_B_init_34 : decode prog_2_method_1_code 34 = .ok (.iconst 0, 1) := by decide +kernel
theorem d_B_init_35 : decode prog_2_method_1_code 35 = .ok (.putfield 25, 3) := by decide +kernel
theorem d_B_init_38 : decode prog_2_method_1_code 38 = .ok (.aload_n 0, 1) := by decide +kernel
theorem d_B_init_39 : decode prog_2_method_1_code 39 = .ok (.iconst 0, 1) := by decide +kernel
theorem d_B_init_40 : decode prog_2_method_1_code 40 = .ok (.putfield 28, 3) := by decide +kernel
theorem d_B_init_43 : decode prog_2_method_1_code 43 = .ok (.aload_n 0, 1) := by decide +kernel
theorem d_B_init_44 : decode prog_2_method_1_code 44 = .ok (.iconst 0, 1) := by decide +kernel
theorem d_B_init_45 : decode prog_2_method_1_code 45 = .ok (.putfield 32, 3) := by decide +kernel
theorem d_B_init_48 : decode prog_2_method_1_code 48 = .ok (.return_, 1) := by decide +kernel
theorem d_S_init_0 : decode prog_7_method_1_code 0 = .ok (.aload_n 0, 1) := by decide +kernel
theorem d_S_init_1 : decode prog_7_method_1_code 1 = .ok (.invokespecial 3, 3) := by decide +kernel
theorem d_S_init_4 : decode prog_7_method_1_code 4 = .ok (.aload_n 0, 1) := by decide +kernel
theorem d_S_init_5 : decode prog_7_method_1_code 5 = .ok (.new 9, 3) := by decide +kernel
theorem d_S_init_8 : decode prog_7_method_1_code 8 = .ok (.dup, 1) := by decide +kernel
theorem d_S_init_9 : decode prog_7_method_1_code 9 = .ok (.invokespecial 11, 3) := by decide +kernel
theorem d_S_init_12 : decode prog_7_method_1_code 12 = .ok (.putfield 12, 3) := by decide +kernel
theorem d_S_init_15 : decode prog_7_method_1_code 15 = .ok (.aload_n 0, 1) := by decide +kernel
theorem d_S_init_16 : decode prog_7_method_1_code 16 = .ok (.iconst 0, 1) := by decide +kernel
theorem d_S_init_17 : decode prog_7_method_1_code 17 = .ok (.putfield 18, 3) := by decide +kernel
theorem d_S_init_20 : decode prog_7_method_1_code 20 = .ok (.aload_n 0, 1) := by decide +kernel
theorem d_S_init_21 : decode prog_7_method_1_code 21 = .ok (.iconst 0, 1) := by decide +kernel
theorem d_S_init_22 : decode prog_7_method_1_code 22 = .ok (.putfield 22, 3) := by decide +kernel
theorem d_S_init_25 : decode prog_7_method_1_code 25 = .ok (.return_, 1) := by decide +kernel
theorem d_W_init_0 : decode prog_5_method_1_code 0 = .ok (.aload_n 0, 1) := by decide +kernel
theorem d_W_init_1 : decode prog_5_method_1_code 1 = .ok (.invokespecial 3, 3) := by decide +kernel
theorem d_W_init_4 : decode prog_5_method_1_code 4 = .ok (.aload_n 0, 1) := by decide +kernel
theorem d_W_init_5 : decode prog_5_method_1_code 5 = .ok (.iconst 4, 1) := by decide +kernel
theorem d_W_init_6 : decode prog_5_method_1_code 6 = .ok (.newarray .int, 2) := by decide +kernel
theorem d_W_init_8 : decode prog_5_method_1_code 8 = .ok (.putfield 9, 3) := by decide +kernel
theorem d_W_init_11 : decode prog_5_method_1_code 11 = .ok (.aload_n 0, 1) := by decide +kernel
theorem d_W_init_12 : decode prog_5_method_1_code 12 = .ok (.iconst 0, 1) := by decide +kernel
theorem d_W_init_13 : decode prog_5_method_1_code 13 = .ok (.putfield 15, 3) := by decide +kernel
theorem d_W_init_16 : decode prog_5_method_1_code 16 = .ok (.aload_n 0, 1) := by decide +kernel
theorem d_W_init_17 : decode prog_5_method_1_code 17 = .ok (.invokestatic 19, 3) := by decide +kernel
theorem d_W_init_20 : decode prog_5_method_1_code 20 = .ok (.putfield 23, 3) := by decide +kernel
theorem d_W_init_23 : decode prog_5_method_1_code 23 = .ok (.return_, 1) := by decide +kernel
theorem d_D_emptyView_0 : decode prog_1_method_30_code 0 = .ok (.bipush 19, 2) := by decide +kernel
theorem d_D_emptyView_2 : decode prog_1_method_30_code 2 = .ok (.newarray .int, 2) := by decide +kernel
theorem d_D_emptyView_4 : decode prog_1_method_30_code 4 = .ok (.astore_n 0, 1) := by decide +kernel
theorem d_D_emptyView_5 : decode prog_1_method_30_code 5 = .ok (.aload_n 0, 1) := by decide +kernel
theorem d_D_emptyView_6 : decode prog_1_method_30_code 6 = .ok (.ldc 157, 2) := by decide +kernel
theorem d_D_emptyView_8 : decode prog_1_method_30_code 8 = .ok (.invokestatic 158, 3) := by decide +kernel
theorem d_D_emptyView_11 : decode prog_1_method_30_code 11 = .ok (.aload_n 0, 1) := by decide +kernel
theorem d_D_emptyView_12 : decode prog_1_method_30_code 12 = .ok (.areturn, 1) := by decide +kernel
theorem d_A_fill_0 : decode prog_13_method_103_code 0 = .ok (.iconst 0, 1) := by decide +kernel
theorem d_A_fill_1 : decode prog_13_method_103_code 1 = .ok (.istore_n 2, 1) := by decide +kernel
theorem d_A_fill_2 : decode prog_13_method_103_code 2 = .ok (.aload_n 0, 1) := by decide +kernel
theorem d_A_fill_3 : decode prog_13_method_103_code 3 = .ok (.arraylength, 1) := by decide +kernel
theorem d_A_fill_4 : decode prog_13_method_103_code 4 = .ok (.istore_n 3, 1) := by decide +kernel
theorem d_A_fill_5 : decode prog_13_method_103_code 5 = .ok (.iload_n 2, 1) := by decide +kernel
theorem d_A_fill_6 : decode prog_13_method_103_code 6 = .ok (.iload_n 3, 1) := by decide +kernel
theorem d_A_fill_7 : decode prog_13_method_103_code 7 = .ok (.if_icmp .ge 13, 3) := by decide +kernel
theorem d_A_fill_10 : decode prog_13_method_103_code 10 = .ok (.aload_n 0, 1) := by decide +kernel
theorem d_A_fill_11 : decode prog_13_method_103_code 11 = .ok (.iload_n 2, 1) := by decide +kernel
theorem d_A_fill_12 : decode prog_13_method_103_code 12 = .ok (.iload_n 1, 1) := by decide +kernel
theorem d_A_fill_13 : decode prog_13_method_103_code 13 = .ok (.iastore, 1) := by decide +kernel
theorem d_A_fill_14 : decode prog_13_method_103_code 14 = .ok (.iinc 2 1, 3) := by decide +kernel
theorem d_A_fill_17 : decode prog_13_method_103_code 17 = .ok (.goto (-12), 3) := by decide +kernel
theorem d_A_fill_20 : decode prog_13_method_103_code 20 = .ok (.return_, 1) := by decide +kernel
theorem d_V_init_0 : decode prog_6_method_1_code 0 = .ok (.aload_n 0, 1) := by decide +kernel
theorem d_V_init_1 : decode prog_6_method_1_code 1 = .ok (.invokespecial 3, 3) := by decide +kernel
theorem d_V_init_4 : decode prog_6_method_1_code 4 = .ok (.aload_n 0, 1) := by decide +kernel
theorem d_V_init_5 : decode prog_6_method_1_code 5 = .ok (.iconst 4, 1) := by decide +kernel
theorem d_V_init_6 : decode prog_6_method_1_code 6 = .ok (.anewarray 9, 3) := by decide +kernel
theorem d_V_init_9 : decode prog_6_method_1_code 9 = .ok (.putfield 11, 3) := by decide +kernel
theorem d_V_init_12 : decode prog_6_method_1_code 12 = .ok (.aload_n 0, 1) := by decide +kernel
theorem d_V_init_13 : decode prog_6_method_1_code 13 = .ok (.iconst 1, 1) := by decide +kernel
theorem d_V_init_14 : decode prog_6_method_1_code 14 = .ok (.putfield 17, 3) := by decide +kernel
theorem d_V_init_17 : decode prog_6_method_1_code 17 = .ok (.aload_n 0, 1) := by decide +kernel
theorem d_V_init_18 : decode prog_6_method_1_code 18 = .ok (.iconst 0, 1) := by decide +kernel
theorem d_V_init_19 : decode prog_6_method_1_code 19 = .ok (.putfield 21, 3) := by decide +kernel
theorem d_V_init_22 : decode prog_6_method_1_code 22 = .ok (.aload_n 0, 1) := by decide +kernel
theorem d_V_init_23 : decode prog_6_method_1_code 23 = .ok (.bipush 8, 2) := by decide +kernel
theorem d_V_init_25 : decode prog_6_method_1_code 25 = .ok (.newarray .boolean, 2) := by decide +kernel
theorem d_V_init_27 : decode prog_6_method_1_code 27 = .ok (.putfield 24, 3) := by decide +kernel
theorem d_V_init_30 : decode prog_6_method_1_code 30 = .ok (.aload_n 0, 1) := by decide +kernel
theorem d_V_init_31 : decode prog_6_method_1_code 31 = .ok (.iconst 0, 1) := by decide +kernel
theorem d_V_init_32 : decode prog_6_method_1_code 32 = .ok (.putfield 28, 3) := by decide +kernel
theorem d_V_init_35 : decode prog_6_method_1_code 35 = .ok (.aload_n 0, 1) := by decide +kernel
theorem d_V_init_36 : decode prog_6_method_1_code 36 = .ok (.aload_n 1, 1) := by decide +kernel
theorem d_V_init_37 : decode prog_6_method_1_code 37 = .ok (.putfield 31, 3) := by decide +kernel
theorem d_V_init_40 : decode prog_6_method_1_code 40 = .ok (.iconst 0, 1) := by decide +kernel
theorem d_V_init_41 : decode prog_6_method_1_code 41 = .ok (.istore_n 3, 1) := by decide +kernel
theorem d_V_init_42 : decode prog_6_method_1_code 42 = .ok (.iload_n 3, 1) := by decide +kernel
theorem d_V_init_43 : decode prog_6_method_1_code 43 = .ok (.iconst 4, 1) := by decide +kernel
theorem d_V_init_44 : decode prog_6_method_1_code 44 = .ok (.if_icmp .ge 24, 3) := by decide +kernel
theorem d_V_init_47 : decode prog_6_method_1_code 47 = .ok (.aload_n 0, 1) := by decide +kernel
theorem d_V_init_48 : decode prog_6_method_1_code 48 = .ok (.getfield 11, 3) := by decide +kernel
theorem d_V_init_51 : decode prog_6_method_1_code 51 = .ok (.iload_n 3, 1) := by decide +kernel
theorem d_V_init_52 : decode prog_6_method_1_code 52 = .ok (.new 9, 3) := by decide +kernel
theorem d_V_init_55 : decode prog_6_method_1_code 55 = .ok (.dup, 1) := by decide +kernel
theorem d_V_init_56 : decode prog_6_method_1_code 56 = .ok (.iload_n 3, 1) := by decide +kernel
theorem d_V_init_57 : decode prog_6_method_1_code 57 = .ok (.aload_n 2, 1) := by decide +kernel
theorem d_V_init_58 : decode prog_6_method_1_code 58 = .ok (.invokespecial 35, 3) := by decide +kernel
theorem d_V_init_61 : decode prog_6_method_1_code 61 = .ok (.aastore, 1) := by decide +kernel
theorem d_V_init_62 : decode prog_6_method_1_code 62 = .ok (.iinc 3 1, 3) := by decide +kernel
theorem d_V_init_65 : decode prog_6_method_1_code 65 = .ok (.goto (-23), 3) := by decide +kernel
theorem d_V_init_68 : decode prog_6_method_1_code 68 = .ok (.return_, 1) := by decide +kernel
theorem d_T_init_0 : decode prog_8_method_1_code 0 = .ok (.aload_n 0, 1) := by decide +kernel
theorem d_T_init_1 : decode prog_8_method_1_code 1 = .ok (.invokespecial 3, 3) := by decide +kernel
theorem d_T_init_4 : decode prog_8_method_1_code 4 = .ok (.aload_n 0, 1) := by decide +kernel
theorem d_T_init_5 : decode prog_8_method_1_code 5 = .ok (.new 9, 3) := by decide +kernel
theorem d_T_init_8 : decode prog_8_method_1_code 8 = .ok (.dup, 1) := by decide +kernel
theorem d_T_init_9 : decode prog_8_method_1_code 9 = .ok (.invokespecial 11, 3) := by decide +kernel
theorem d_T_init_12 : decode prog_8_method_1_code 12 = .ok (.putfield 12, 3) := by decide +kernel
theorem d_T_init_15 : decode prog_8_method_1_code 15 = .ok (.aload_n 0, 1) := by decide +kernel
theorem d_T_init_16 : decode prog_8_method_1_code 16 = .ok (.invokestatic 18, 3) := by decide +kernel
theorem d_T_init_19 : decode prog_8_method_1_code 19 = .ok (.putfield 22, 3) := by decide +kernel
theorem d_T_init_22 : decode prog_8_method_1_code 22 = .ok (.aload_n 0, 1) := by decide +kernel
theorem d_T_init_23 : decode prog_8_method_1_code 23 = .ok (.bipush 30, 2) := by decide +kernel
theorem d_T_init_25 : decode prog_8_method_1_code 25 = .ok (.anewarray 26, 3) := by decide +kernel
theorem d_T_init_28 : decode prog_8_method_1_code 28 = .ok (.putfield 28, 3) := by decide +kernel
theorem d_T_init_31 : decode prog_8_method_1_code 31 = .ok (.aload_n 0, 1) := by decide +kernel
theorem d_T_init_32 : decode prog_8_method_1_code 32 = .ok (.iconst 0, 1) := by decide +kernel
theorem d_T_init_33 : decode prog_8_method_1_code 33 = .ok (.putfield 32, 3) := by decide +kernel
theorem d_T_init_36 : decode prog_8_method_1_code 36 = .ok (.aload_n 0, 1) := by decide +kernel
theorem d_T_init_37 : decode prog_8_method_1_code 37 = .ok (.iconst 0, 1) := by decide +kernel
theorem d_T_init_38 : decode prog_8_method_1_code 38 = .ok (.putfield 36, 3) := by decide +kernel
theorem d_T_init_41 : decode prog_8_method_1_code 41 = .ok (.aload_n 0, 1) := by decide +kernel
theorem d_T_init_42 : decode prog_8_method_1_code 42 = .ok (.iload_n 1, 1) := by decide +kernel
theorem d_T_init_43 : decode prog_8_method_1_code 43 = .ok (.putfield 39, 3) := by decide +kernel
theorem d_T_init_46 : decode prog_8_method_1_code 46 = .ok (.aload_n 0, 1) := by decide +kernel
theorem d_T_init_47 : decode prog_8_method_1_code 47 = .ok (.aload_n 2, 1) := by decide +kernel
theorem d_T_init_48 : decode prog_8_method_1_code 48 = .ok (.putfield 42, 3) := by decide +kernel
theorem d_T_init_51 : decode prog_8_method_1_code 51 = .ok (.aload_n 0, 1) := by decide +kernel
theorem d_T_init_52 : decode prog_8_method_1_code 52 = .ok (.getfield 22, 3) := by decide +kernel
theorem d_T_init_55 : decode prog_8_method_1_code 55 = .ok (.bipush 18, 2) := by decide +kernel
theorem d_T_init_57 : decode prog_8_method_1_code 57 = .ok (.iconst 0, 1) := by decide +kernel
theorem d_T_init_58 : decode prog_8_method_1_code 58 = .ok (.iastore, 1) := by decide +kernel
theorem d_T_init_59 : decode prog_8_method_1_code 59 = .ok (.return_, 1) := by decide +kernel
theorem d_D_add_0 : decode prog_1_method_2_code 0 = .ok (.iload_n 1, 1) := by decide +kernel
theorem d_D_add_1 : decode prog_1_method_2_code 1 = .ok (.invokestatic 32, 3) := by decide +kernel
theorem d_D_add_4 : decode prog_1_method_2_code 4 = .ok (.ifCond .eq 25, 3) := by decide +kernel
theorem d_D_add_7 : decode prog_1_method_2_code 7 = .ok (.iload_n 2, 1) := by decide +kernel
theorem d_D_add_8 : decode prog_1_method_2_code 8 = .ok (.invokestatic 36, 3) := by decide +kernel
theorem d_D_add_11 : decode prog_1_method_2_code 11 = .ok (.ifCond .eq 18, 3) := by decide +kernel
theorem d_D_add_14 : decode prog_1_method_2_code 14 = .ok (.iload_n 3, 1) := by decide +kernel
theorem d_D_add_15 : decode prog_1_method_2_code 15 = .ok (.invokestatic 39, 3) := by decide +kernel
theorem d_D_add_18 : decode prog_1_method_2_code 18 = .ok (.ifCond .eq 11, 3) := by decide +kernel
theorem d_D_add_21 : decode prog_1_method_2_code 21 = .ok (.iload 5, 2) := by decide +kernel
theorem d_D_add_23 : decode prog_1_method_2_code 23 = .ok (.invokestatic 36, 3) := by decide +kernel
theorem d_D_add_26 : decode prog_1_method_2_code 26 = .ok (.ifCond .ne 6, 3) := by decide +kernel
theorem d_D_add_29 : decode prog_1_method_2_code 29 = .ok (.bipush (-2), 2) := by decide +kernel
theorem d_D_add_31 : decode prog_1_method_2_code 31 = .ok (.ireturn, 1) := by decide +kernel
theorem d_D_add_32 : decode prog_1_method_2_code 32 = .ok (.iload 4, 2) := by decide +kernel
theorem d_D_add_34 : decode prog_1_method_2_code 34 = .ok (.ldc 42, 2) := by decide +kernel
theorem d_D_add_36 : decode prog_1_method_2_code 36 = .ok (.if_icmp .lt 10, 3) := by decide +kernel
theorem d_D_add_39 : decode prog_1_method_2_code 39 = .ok (.iload 4, 2) := by decide +kernel
theorem d_D_add_41 : decode prog_1_method_2_code 41 = .ok (.ldc 43, 2) := by decide +kernel
theorem d_D_add_43 : decode prog_1_method_2_code 43 = .ok (.if_icmp .le 6, 3) := by decide +kernel
theorem d_D_add_46 : decode prog_1_method_2_code 46 = .ok (.bipush (-2), 2) := by decide +kernel
theorem d_D_add_48 : decode prog_1_method_2_code 48 = .ok (.ireturn, 1) := by decide +kernel
theorem d_D_add_49 : decode prog_1_method_2_code 49 = .ok (.aload_n 0, 1) := by decide +kernel
theorem d_D_add_50 : decode prog_1_method_2_code 50 = .ok (.getfield 24, 3) := by decide +kernel
theorem d_D_add_53 : decode prog_1_method_2_code 53 = .ok (.iconst 0, 1) := by decide +kernel
theorem d_D_add_54 : decode prog_1_method_2_code 54 = .ok (.iload_n 1, 1) := by decide +kernel
theorem d_D_add_55 : decode prog_1_method_2_code 55 = .ok (.iload_n 2, 1) := by decide +kernel
theorem d_D_add_56 : decode prog_1_method_2_code 56 = .ok (.iload_n 3, 1) := by decide +kernel
theorem d_D_add_57 : decode prog_1_method_2_code 57 = .ok (.iload 4, 2) := by decide +kernel
theorem d_D_add_59 : decode prog_1_method_2_code 59 = .ok (.iload 5, 2) := by decide +kernel
theorem d_D_add_61 : decode prog_1_method_2_code 61 = .ok (.invokevirtual 44, 3) := by decide +kernel
theorem d_D_add_64 : decode prog_1_method_2_code 64 = .ok (.ireturn, 1) := by decide +kernel
theorem d_D_isInstrument_0 : decode prog_1_method_24_code 0 = .ok (.iload_n 0, 1) := by decide +kernel
theorem d_D_isInstrument_1 : decode prog_1_method_24_code 1 = .ok (.ifCond .lt 12, 3) := by decide +kernel
theorem d_D_isInstrument_4 : decode prog_1_method_24_code 4 = .ok (.iload_n 0, 1) := by decide +kernel
theorem d_D_isInstrument_5 : decode prog_1_method_24_code 5 = .ok (.iconst 4, 1) := by decide +kernel
theorem d_D_isInstrument_6 : decode prog_1_method_24_code 6 = .ok (.if_icmp .ge 7, 3) := by decide +kernel
theorem d_D_isInstrument_9 : decode prog_1_method_24_code 9 = .ok (.iconst 1, 1) := by decide +kernel
theorem d_D_isInstrument_10 : decode prog_1_method_24_code 10 = .ok (.goto 4, 3) := by decide +kernel
theorem d_D_isInstrument_13 : decode prog_1_method_24_code 13 = .ok (.iconst 0, 1) := by decide +kernel
theorem d_D_isInstrument_14 : decode prog_1_method_24_code 14 = .ok (.ireturn, 1) := by decide +kernel
theorem d_D_isCount_0 : decode prog_1_method_27_code 0 = .ok (.iload_n 0, 1) := by decide +kernel
theorem d_D_isCount_1 : decode prog_1_method_27_code 1 = .ok (.iconst 1, 1) := by decide +kernel
theorem d_D_isCount_2 : decode prog_1_method_27_code 2 = .ok (.if_icmp .lt 13, 3) := by decide +kernel
theorem d_D_isCount_5 : decode prog_1_method_27_code 5 = .ok (.iload_n 0, 1) := by decide +kernel
theorem d_D_isCount_6 : decode prog_1_method_27_code 6 = .ok (.ldc 43, 2) := by decide +kernel
theorem d_D_isCount_8 : decode prog_1_method_27_code 8 = .ok (.if_icmp .gt 7, 3) := by decide +kernel
theorem d_D_isCount_11 : decode prog_1_method_27_code 11 = .ok (.iconst 1, 1) := by decide +kernel
theorem d_D_isCount_12 : decode prog_1_method_27_code 12 = .ok (.goto 4, 3) := by decide +kernel
theorem d_D_isCount_15 : decode prog_1_method_27_code 15 = .ok (.iconst 0, 1) := by decide +kernel
theorem d_D_isCount_16 : decode prog_1_method_27_code 16 = .ok (.ireturn, 1) := by decide +kernel
theorem d_D_isSide_0 : decode prog_1_method_26_code 0 = .ok (.iload_n 0, 1) := by decide +kernel
theorem d_D_isSide_1 : decode prog_1_method_26_code 1 = .ok (.ifCond .lt 12, 3) := by decide +kernel
theorem d_D_isSide_4 : decode prog_1_method_26_code 4 = .ok (.iload_n 0, 1) := by decide +kernel
theorem d_D_isSide_5 : decode prog_1_method_26_code 5 = .ok (.iconst 2, 1) := by decide +kernel
theorem d_D_isSide_6 : decode prog_1_method_26_code 6 = .ok (.if_icmp .ge 7, 3) := by decide +kernel
theorem d_D_isSide_9 : decode prog_1_method_26_code 9 = .ok (.iconst 1, 1) := by decide +kernel
theorem d_D_isSide_10 : decode prog_1_method_26_code 10 = .ok (.goto 4, 3) := by decide +kernel
theorem d_D_isSide_13 : decode prog_1_method_26_code 13 = .ok (.iconst 0, 1) := by decide +kernel
theorem d_D_isSide_14 : decode prog_1_method_26_code 14 = .ok (.ireturn, 1) := by decide +kernel
theorem d_P_offer_0 : decode prog_4_method_2_code 0 = .ok (.aload_n 0, 1) := by decide +kernel
theorem d_P_offer_1 : decode prog_4_method_2_code 1 = .ok (.getfield 11, 3) := by decide +kernel
theorem d_P_offer_4 : decode prog_4_method_2_code 4 = .ok (.iload_n 2, 1) := by decide +kernel
theorem d_P_offer_5 : decode prog_4_method_2_code 5 = .ok (.aaload, 1) := by decide +kernel
theorem d_P_offer_6 : decode prog_4_method_2_code 6 = .ok (.astore 7, 2) := by decide +kernel
theorem d_P_offer_8 : decode prog_4_method_2_code 8 = .ok (.aload 7, 2) := by decide +kernel
theorem d_P_offer_10 : decode prog_4_method_2_code 10 = .ok (.iload_n 1, 1) := by decide +kernel
theorem d_P_offer_11 : decode prog_4_method_2_code 11 = .ok (.iload_n 3, 1) := by decide +kernel
theorem d_P_offer_12 : decode prog_4_method_2_code 12 = .ok (.iload 6, 2) := by decide +kernel
theorem d_P_offer_14 : decode prog_4_method_2_code 14 = .ok (.invokevirtual 45, 3) := by decide +kernel
theorem d_P_offer_17 : decode prog_4_method_2_code 17 = .ok (.ifCond .ne 6, 3) := by decide +kernel
theorem d_P_offer_20 : decode prog_4_method_2_code 20 = .ok (.bipush (-3), 2) := by decide +kernel
theorem d_P_offer_22 : decode prog_4_method_2_code 22 = .ok (.ireturn, 1) := by decide +kernel
theorem d_P_offer_23 : decode prog_4_method_2_code 23 = .ok (.aload_n 0, 1) := by decide +kernel
theorem d_P_offer_24 : decode prog_4_method_2_code 24 = .ok (.getfield 23, 3) := by decide +kernel
theorem d_P_offer_27 : decode prog_4_method_2_code 27 = .ok (.aload_n 0, 1) := by decide +kernel
theorem d_P_offer_28 : decode prog_4_method_2_code 28 = .ok (.getfield 27, 3) := by decide +kernel
theorem d_P_offer_31 : decode prog_4_method_2_code 31 = .ok (.aload_n 0, 1) := by decide +kernel
theorem d_P_offer_32 : decode prog_4_method_2_code 32 = .ok (.getfield 31, 3) := by decide +kernel
theorem d_P_offer_35 : decode prog_4_method_2_code 35 = .ok (.iaload, 1) := by decide +kernel
theorem d_P_offer_36 : decode prog_4_method_2_code 36 = .ok (.isub, 1) := by decide +kernel
theorem d_P_offer_37 : decode prog_4_method_2_code 37 = .ok (.iconst 5, 1) := by decide +kernel
theorem d_P_offer_38 : decode prog_4_method_2_code 38 = .ok (.if_icmp .ge 13, 3) := by decide +kernel
theorem d_P_offer_41 : decode prog_4_method_2_code 41 = .ok (.aload_n 0, 1) := by decide +kernel
theorem d_P_offer_42 : decode prog_4_method_2_code 42 = .ok (.getfield 23, 3) := by decide +kernel
theorem d_P_offer_45 : decode prog_4_method_2_code 45 = .ok (.sipush 400, 3) := by decide +kernel
theorem d_P_offer_48 : decode prog_4_method_2_code 48 = .ok (.if_icmp .lt 6, 3) := by decide +kernel
theorem d_P_offer_51 : decode prog_4_method_2_code 51 = .ok (.bipush (-4), 2) := by decide +kernel
theorem d_P_offer_53 : decode prog_4_method_2_code 53 = .ok (.ireturn, 1) := by decide +kernel
theorem d_P_offer_54 : decode prog_4_method_2_code 54 = .ok (.new 17, 3) := by decide +kernel
theorem d_P_offer_57 : decode prog_4_method_2_code 57 = .ok (.dup, 1) := by decide +kernel
theorem d_P_offer_58 : decode prog_4_method_2_code 58 = .ok (.iload_n 1, 1) := by decide +kernel
theorem d_P_offer_59 : decode prog_4_method_2_code 59 = .ok (.iload_n 2, 1) := by decide +kernel
theorem d_P_offer_60 : decode prog_4_method_2_code 60 = .ok (.aload 7, 2) := by decide +kernel
theorem d_P_offer_62 : decode prog_4_method_2_code 62 = .ok (.getfield 49, 3) := by decide +kernel
theorem d_P_offer_65 : decode prog_4_method_2_code 65 = .ok (.iconst 1, 1) := by decide +kernel
theorem d_P_offer_66 : decode prog_4_method_2_code 66 = .ok (.iadd, 1) := by decide +kernel
theorem d_P_offer_67 : decode prog_4_method_2_code 67 = .ok (.iload_n 3, 1) := by decide +kernel
theorem d_P_offer_68 : decode prog_4_method_2_code 68 = .ok (.iload 4, 2) := by decide +kernel
theorem d_P_offer_70 : decode prog_4_method_2_code 70 = .ok (.iload 5, 2) := by decide +kernel
theorem d_P_offer_72 : decode prog_4_method_2_code 72 = .ok (.iload 6, 2) := by decide +kernel
theorem d_P_offer_74 : decode prog_4_method_2_code 74 = .ok (.invokespecial 52, 3) := by decide +kernel
theorem d_P_offer_77 : decode prog_4_method_2_code 77 = .ok (.astore 8, 2) := by decide +kernel
theorem d_P_offer_79 : decode prog_4_method_2_code 79 = .ok (.aload_n 0, 1) := by decide +kernel
theorem d_P_offer_80 : decode prog_4_method_2_code 80 = .ok (.getfield 19, 3) := by decide +kernel
theorem d_P_offer_83 : decode prog_4_method_2_code 83 = .ok (.aload_n 0, 1) := by decide +kernel
theorem d_P_offer_84 : decode prog_4_method_2_code 84 = .ok (.getfield 23, 3) := by decide +kernel
theorem d_P_offer_87 : decode prog_4_method_2_code 87 = .ok (.aload 8, 2) := by decide +kernel
theorem d_P_offer_89 : decode prog_4_method_2_code 89 = .ok (.aastore, 1) := by decide +kernel
theorem d_P_offer_90 : decode prog_4_method_2_code 90 = .ok (.aload_n 0, 1) := by decide +kernel
theorem d_P_offer_91 : decode prog_4_method_2_code 91 = .ok (.dup, 1) := by decide +kernel
theorem d_P_offer_92 : decode prog_4_method_2_code 92 = .ok (.getfield 23, 3) := by decide +kernel
theorem d_P_offer_95 : decode prog_4_method_2_code 95 = .ok (.iconst 1, 1) := by decide +kernel
theorem d_P_offer_96 : decode prog_4_method_2_code 96 = .ok (.iadd, 1) := by decide +kernel
theorem d_P_offer_97 : decode prog_4_method_2_code 97 = .ok (.putfield 23, 3) := by decide +kernel
theorem d_P_offer_100 : decode prog_4_method_2_code 100 = .ok (.aload 7, 2) := by decide +kernel
theorem d_P_offer_102 : decode prog_4_method_2_code 102 = .ok (.aload 8, 2) := by decide +kernel
theorem d_P_offer_104 : decode prog_4_method_2_code 104 = .ok (.invokevirtual 55, 3) := by decide +kernel
theorem d_P_offer_107 : decode prog_4_method_2_code 107 = .ok (.aload 8, 2) := by decide +kernel
theorem d_P_offer_109 : decode prog_4_method_2_code 109 = .ok (.getfield 59, 3) := by decide +kernel
theorem d_P_offer_112 : decode prog_4_method_2_code 112 = .ok (.ireturn, 1) := by decide +kernel
theorem d_B_allows_0 : decode prog_2_method_2_code 0 = .ok (.aload_n 0, 1) := by decide +kernel
theorem d_B_allows_1 : decode prog_2_method_2_code 1 = .ok (.iload_n 2, 1) := by decide +kernel
theorem d_B_allows_2 : decode prog_2_method_2_code 2 = .ok (.invokevirtual 35, 3) := by decide +kernel
theorem d_B_allows_5 : decode prog_2_method_2_code 5 = .ok (.istore 4, 2) := by decide +kernel
theorem d_B_allows_7 : decode prog_2_method_2_code 7 = .ok (.iload_n 1, 1) := by decide +kernel
theorem d_B_allows_8 : decode prog_2_method_2_code 8 = .ok (.tableswitch 136 0 4 #[36, 57, 80, 110, 122], 36) := by decide +kernel
theorem d_B_allows_44 : decode prog_2_method_2_code 44 = .ok (.iload 4, 2) := by decide +kernel
theorem d_B_allows_46 : decode prog_2_method_2_code 46 = .ok (.iconst (-1), 1) := by decide +kernel
theorem d_B_allows_47 : decode prog_2_method_2_code 47 = .ok (.if_icmp .ne 16, 3) := by decide +kernel
theorem d_B_allows_50 : decode prog_2_method_2_code 50 = .ok (.aload_n 0, 1) := by decide +kernel
theorem d_B_allows_51 : decode prog_2_method_2_code 51 = .ok (.getfield 25, 3) := by decide +kernel
theorem d_B_allows_54 : decode prog_2_method_2_code 54 = .ok (.bipush 24, 2) := by decide +kernel
theorem d_B_allows_56 : decode prog_2_method_2_code 56 = .ok (.if_icmp .ge 7, 3) := by decide +kernel
theorem d_B_allows_59 : decode prog_2_method_2_code 59 = .ok (.iconst 1, 1) := by decide +kernel
theorem d_B_allows_60 : decode prog_2_method_2_code 60 = .ok (.goto 4, 3) := by decide +kernel
theorem d_B_allows_63 : decode prog_2_method_2_code 63 = .ok (.iconst 0, 1) := by decide +kernel
theorem d_B_allows_64 : decode prog_2_method_2_code 64 = .ok (.ireturn, 1) := by decide +kernel
theorem d_B_allows_65 : decode prog_2_method_2_code 65 = .ok (.iload 4, 2) := by decide +kernel
theorem d_B_allows_67 : decode prog_2_method_2_code 67 = .ok (.iconst (-1), 1) := by decide +kernel
theorem d_B_allows_68 : decode prog_2_method_2_code 68 = .ok (.if_icmp .eq 18, 3) := by decide +kernel
theorem d_B_allows_71 : decode prog_2_method_2_code 71 = .ok (.iload_n 3, 1) := by decide +kernel
theorem d_B_allows_72 : decode prog_2_method_2_code 72 = .ok (.aload_n 0, 1) := by decide +kernel
theorem d_B_allows_73 : decode prog_2_method_2_code 73 = .ok (.getfield 18, 3) := by decide +kernel
theorem d_B_allows_76 : decode prog_2_method_2_code 76 = .ok (.iload 4, 2) := by decide +kernel
theorem d_B_allows_78 : decode prog_2_method_2_code 78 = .ok (.iaload, 1) := by decide +kernel
theorem d_B_allows_79 : decode prog_2_method_2_code 79 = .ok (.if_icmp .ge 7, 3) := by decide +kernel
theorem d_B_allows_82 : decode prog_2_method_2_code 82 = .ok (.iconst 1, 1) := by decide +kernel
theorem d_B_allows_83 : decode prog_2_method_2_code 83 = .ok (.goto 4, 3) := by decide +kernel
theorem d_B_allows_86 : decode prog_2_method_2_code 86 = .ok (.iconst 0, 1) := by decide +kernel
theorem d_B_allows_87 : decode prog_2_method_2_code 87 = .ok (.ireturn, 1) := by decide +kernel
theorem d_B_allows_88 : decode prog_2_method_2_code 88 = .ok (.iload 4, 2) := by decide +kernel
theorem d_B_allows_90 : decode prog_2_method_2_code 90 = .ok (.iconst (-1), 1) := by decide +kernel
theorem d_B_allows_91 : decode prog_2_method_2_code 91 = .ok (.if_icmp .eq 25, 3) := by decide +kernel
theorem d_B_allows_94 : decode prog_2_method_2_code 94 = .ok (.aload_n 0, 1) := by decide +kernel
theorem d_B_allows_95 : decode prog_2_method_2_code 95 = .ok (.getfield 28, 3) := by decide +kernel
theorem d_B_allows_98 : decode prog_2_method_2_code 98 = .ok (.ifCond .ne 18, 3) := by decide +kernel
theorem d_B_allows_101 : decode prog_2_method_2_code 101 = .ok (.iload_n 3, 1) := by decide +kernel
theorem d_B_allows_102 : decode prog_2_method_2_code 102 = .ok (.aload_n 0, 1) := by decide +kernel
theorem d_B_allows_103 : decode prog_2_method_2_code 103 = .ok (.getfield 18, 3) := by decide +kernel
theorem d_B_allows_106 : decode prog_2_method_2_code 106 = .ok (.iload 4, 2) := by decide +kernel
theorem d_B_allows_108 : decode prog_2_method_2_code 108 = .ok (.iaload, 1) := by decide +kernel
theorem d_B_allows_109 : decode prog_2_method_2_code 109 = .ok (.if_icmp .gt 7, 3) := by decide +kernel
theorem d_B_allows_112 : decode prog_2_method_2_code 112 = .ok (.iconst 1, 1) := by decide +kernel
theorem d_B_allows_113 : decode prog_2_method_2_code 113 = .ok (.goto 4, 3) := by decide +kernel
theorem d_B_allows_116 : decode prog_2_method_2_code 116 = .ok (.iconst 0, 1) := by decide +kernel
theorem d_B_allows_117 : decode prog_2_method_2_code 117 = .ok (.ireturn, 1) := by decide +kernel
theorem d_B_allows_118 : decode prog_2_method_2_code 118 = .ok (.iload 4, 2) := by decide +kernel
theorem d_B_allows_120 : decode prog_2_method_2_code 120 = .ok (.iconst (-1), 1) := by decide +kernel
theorem d_B_allows_121 : decode prog_2_method_2_code 121 = .ok (.if_icmp .eq 7, 3) := by decide +kernel
theorem d_B_allows_124 : decode prog_2_method_2_code 124 = .ok (.iconst 1, 1) := by decide +kernel
theorem d_B_allows_125 : decode prog_2_method_2_code 125 = .ok (.goto 4, 3) := by decide +kernel
theorem d_B_allows_128 : decode prog_2_method_2_code 128 = .ok (.iconst 0, 1) := by decide +kernel
theorem d_B_allows_129 : decode prog_2_method_2_code 129 = .ok (.ireturn, 1) := by decide +kernel
theorem d_B_allows_130 : decode prog_2_method_2_code 130 = .ok (.aload_n 0, 1) := by decide +kernel
theorem d_B_allows_131 : decode prog_2_method_2_code 131 = .ok (.invokevirtual 39, 3) := by decide +kernel
theorem d_B_allows_134 : decode prog_2_method_2_code 134 = .ok (.iload_n 3, 1) := by decide +kernel
theorem d_B_allows_135 : decode prog_2_method_2_code 135 = .ok (.if_icmp .eq 7, 3) := by decide +kernel
theorem d_B_allows_138 : decode prog_2_method_2_code 138 = .ok (.iconst 1, 1) := by decide +kernel
theorem d_B_allows_139 : decode prog_2_method_2_code 139 = .ok (.goto 4, 3) := by decide +kernel
theorem d_B_allows_142 : decode prog_2_method_2_code 142 = .ok (.iconst 0, 1) := by decide +kernel
theorem d_B_allows_143 : decode prog_2_method_2_code 143 = .ok (.ireturn, 1) := by decide +kernel
theorem d_B_allows_144 : decode prog_2_method_2_code 144 = .ok (.iconst 1, 1) := by decide +kernel
theorem d_B_allows_145 : decode prog_2_method_2_code 145 = .ok (.ireturn, 1) := by decide +kernel
theorem d_B_placeOf_0 : decode prog_2_method_4_code 0 = .ok (.iconst 0, 1) := by decide +kernel
theorem d_B_placeOf_1 : decode prog_2_method_4_code 1 = .ok (.istore_n 2, 1) := by decide +kernel
theorem d_B_placeOf_2 : decode prog_2_method_4_code 2 = .ok (.iload_n 2, 1) := by decide +kernel
theorem d_B_placeOf_3 : decode prog_2_method_4_code 3 = .ok (.aload_n 0, 1) := by decide +kernel
theorem d_B_placeOf_4 : decode prog_2_method_4_code 4 = .ok (.getfield 25, 3) := by decide +kernel
theorem d_B_placeOf_7 : decode prog_2_method_4_code 7 = .ok (.if_icmp .ge 21, 3) := by decide +kernel
theorem d_B_placeOf_10 : decode prog_2_method_4_code 10 = .ok (.aload_n 0, 1) := by decide +kernel
theorem d_B_placeOf_11 : decode prog_2_method_4_code 11 = .ok (.getfield 9, 3) := by decide +kernel
theorem d_B_placeOf_14 : decode prog_2_method_4_code 14 = .ok (.iload_n 2, 1) := by decide +kernel
theorem d_B_placeOf_15 : decode prog_2_method_4_code 15 = .ok (.iaload, 1) := by decide +kernel
theorem d_B_placeOf_16 : decode prog_2_method_4_code 16 = .ok (.iload_n 1, 1) := by decide +kernel
theorem d_B_placeOf_17 : decode prog_2_method_4_code 17 = .ok (.if_icmp .ne 5, 3) := by decide +kernel
theorem d_B_placeOf_20 : decode prog_2_method_4_code 20 = .ok (.iload_n 2, 1) := by decide +kernel
theorem d_B_placeOf_21 : decode prog_2_method_4_code 21 = .ok (.ireturn, 1) := by decide +kernel
theorem d_B_placeOf_22 : decode prog_2_method_4_code 22 = .ok (.iinc 2 1, 3) := by decide +kernel
theorem d_B_placeOf_25 : decode prog_2_method_4_code 25 = .ok (.goto (-23), 3) := by decide +kernel
theorem d_B_placeOf_28 : decode prog_2_method_4_code 28 = .ok (.iconst (-1), 1) := by decide +kernel
theorem d_B_placeOf_29 : decode prog_2_method_4_code 29 = .ok (.ireturn, 1) := by decide +kernel
theorem d_B_haltValue_0 : decode prog_2_method_11_code 0 = .ok (.aload_n 0, 1) := by decide +kernel
theorem d_B_haltValue_1 : decode prog_2_method_11_code 1 = .ok (.getfield 28, 3) := by decide +kernel
theorem d_B_haltValue_4 : decode prog_2_method_11_code 4 = .ok (.ifCond .eq 7, 3) := by decide +kernel
theorem d_B_haltValue_7 : decode prog_2_method_11_code 7 = .ok (.iconst 1, 1) := by decide +kernel
theorem d_B_haltValue_8 : decode prog_2_method_11_code 8 = .ok (.goto 4, 3) := by decide +kernel
theorem d_B_haltValue_11 : decode prog_2_method_11_code 11 = .ok (.iconst 0, 1) := by decide +kernel
theorem d_B_haltValue_12 : decode prog_2_method_11_code 12 = .ok (.ireturn, 1) := by decide +kernel
theorem d_E_init_0 : decode prog_3_method_1_code 0 = .ok (.aload_n 0, 1) := by decide +kernel
theorem d_E_init_1 : decode prog_3_method_1_code 1 = .ok (.invokespecial 1, 3) := by decide +kernel
theorem d_E_init_4 : decode prog_3_method_1_code 4 = .ok (.aload_n 0, 1) := by decide +kernel
theorem d_E_init_5 : decode prog_3_method_1_code 5 = .ok (.iload_n 1, 1) := by decide +kernel
theorem d_E_init_6 : decode prog_3_method_1_code 6 = .ok (.putfield 7, 3) := by decide +kernel
theorem d_E_init_9 : decode prog_3_method_1_code 9 = .ok (.aload_n 0, 1) := by decide +kernel
theorem d_E_init_10 : decode prog_3_method_1_code 10 = .ok (.iload_n 2, 1) := by decide +kernel
theorem d_E_init_11 : decode prog_3_method_1_code 11 = .ok (.putfield 13, 3) := by decide +kernel
theorem d_E_init_14 : decode prog_3_method_1_code 14 = .ok (.aload_n 0, 1) := by decide +kernel
theorem d_E_init_15 : decode prog_3_method_1_code 15 = .ok (.iload_n 3, 1) := by decide +kernel
theorem d_E_init_16 : decode prog_3_method_1_code 16 = .ok (.putfield 16, 3) := by decide +kernel
theorem d_E_init_19 : decode prog_3_method_1_code 19 = .ok (.aload_n 0, 1) := by decide +kernel
theorem d_E_init_20 : decode prog_3_method_1_code 20 = .ok (.iload 4, 2) := by decide +kernel
theorem d_E_init_22 : decode prog_3_method_1_code 22 = .ok (.putfield 19, 3) := by decide +kernel
theorem d_E_init_25 : decode prog_3_method_1_code 25 = .ok (.aload_n 0, 1) := by decide +kernel
theorem d_E_init_26 : decode prog_3_method_1_code 26 = .ok (.iload 5, 2) := by decide +kernel
theorem d_E_init_28 : decode prog_3_method_1_code 28 = .ok (.putfield 22, 3) := by decide +kernel
theorem d_E_init_31 : decode prog_3_method_1_code 31 = .ok (.aload_n 0, 1) := by decide +kernel
theorem d_E_init_32 : decode prog_3_method_1_code 32 = .ok (.iload 6, 2) := by decide +kernel
theorem d_E_init_34 : decode prog_3_method_1_code 34 = .ok (.putfield 25, 3) := by decide +kernel
theorem d_E_init_37 : decode prog_3_method_1_code 37 = .ok (.aload_n 0, 1) := by decide +kernel
theorem d_E_init_38 : decode prog_3_method_1_code 38 = .ok (.iload 7, 2) := by decide +kernel
theorem d_E_init_40 : decode prog_3_method_1_code 40 = .ok (.putfield 28, 3) := by decide +kernel
theorem d_E_init_43 : decode prog_3_method_1_code 43 = .ok (.return_, 1) := by decide +kernel
theorem d_B_apply_0 : decode prog_2_method_3_code 0 = .ok (.aload_n 0, 1) := by decide +kernel
theorem d_B_apply_1 : decode prog_2_method_3_code 1 = .ok (.dup, 1) := by decide +kernel
theorem d_B_apply_2 : decode prog_2_method_3_code 2 = .ok (.getfield 32, 3) := by decide +kernel
theorem d_B_apply_5 : decode prog_2_method_3_code 5 = .ok (.iconst 1, 1) := by decide +kernel
theorem d_B_apply_6 : decode prog_2_method_3_code 6 = .ok (.iadd, 1) := by decide +kernel
theorem d_B_apply_7 : decode prog_2_method_3_code 7 = .ok (.putfield 32, 3) := by decide +kernel
theorem d_B_apply_10 : decode prog_2_method_3_code 10 = .ok (.aload_n 1, 1) := by decide +kernel
theorem d_B_apply_11 : decode prog_2_method_3_code 11 = .ok (.getfield 43, 3) := by decide +kernel
theorem d_B_apply_14 : decode prog_2_method_3_code 14 = .ok (.lookupswitch 75 #[(0, 34), (4, 42), (5, 62)], 34) := by decide +kernel
theorem d_B_apply_48 : decode prog_2_method_3_code 48 = .ok (.aload_n 0, 1) := by decide +kernel
theorem d_B_apply_49 : decode prog_2_method_3_code 49 = .ok (.aload_n 1, 1) := by decide +kernel
theorem d_B_apply_50 : decode prog_2_method_3_code 50 = .ok (.invokevirtual 48, 3) := by decide +kernel
theorem d_B_apply_53 : decode prog_2_method_3_code 53 = .ok (.goto 49, 3) := by decide +kernel
theorem d_B_apply_56 : decode prog_2_method_3_code 56 = .ok (.aload_n 0, 1) := by decide +kernel
theorem d_B_apply_57 : decode prog_2_method_3_code 57 = .ok (.aload_n 1, 1) := by decide +kernel
theorem d_B_apply_58 : decode prog_2_method_3_code 58 = .ok (.getfield 52, 3) := by decide +kernel
theorem d_B_apply_61 : decode prog_2_method_3_code 61 = .ok (.iconst 1, 1) := by decide +kernel
theorem d_B_apply_62 : decode prog_2_method_3_code 62 = .ok (.if_icmp .ne 7, 3) := by decide +kernel
theorem d_B_apply_65 : decode prog_2_method_3_code 65 = .ok (.iconst 1, 1) := by decide +kernel
theorem d_B_apply_66 : decode prog_2_method_3_code 66 = .ok (.goto 4, 3) := by decide +kernel
theorem d_B_apply_69 : decode prog_2_method_3_code 69 = .ok (.iconst 0, 1) := by decide +kernel
theorem d_B_apply_70 : decode prog_2_method_3_code 70 = .ok (.putfield 28, 3) := by decide +kernel
theorem d_B_apply_73 : decode prog_2_method_3_code 73 = .ok (.goto 29, 3) := by decide +kernel
theorem d_B_apply_76 : decode prog_2_method_3_code 76 = .ok (.aload_n 0, 1) := by decide +kernel
theorem d_B_apply_77 : decode prog_2_method_3_code 77 = .ok (.iconst 0, 1) := by decide +kernel
theorem d_B_apply_78 : decode prog_2_method_3_code 78 = .ok (.putfield 21, 3) := by decide +kernel
theorem d_B_apply_81 : decode prog_2_method_3_code 81 = .ok (.aload_n 0, 1) := by decide +kernel
theorem d_B_apply_82 : decode prog_2_method_3_code 82 = .ok (.iconst 0, 1) := by decide +kernel
theorem d_B_apply_83 : decode prog_2_method_3_code 83 = .ok (.putfield 25, 3) := by decide +kernel
theorem d_B_apply_86 : decode prog_2_method_3_code 86 = .ok (.goto 16, 3) := by decide +kernel
theorem d_B_apply_89 : decode prog_2_method_3_code 89 = .ok (.aload_n 0, 1) := by decide +kernel
theorem d_B_apply_90 : decode prog_2_method_3_code 90 = .ok (.aload_n 0, 1) := by decide +kernel
theorem d_B_apply_91 : decode prog_2_method_3_code 91 = .ok (.aload_n 1, 1) := by decide +kernel
theorem d_B_apply_92 : decode prog_2_method_3_code 92 = .ok (.getfield 55, 3) := by decide +kernel
theorem d_B_apply_95 : decode prog_2_method_3_code 95 = .ok (.invokevirtual 35, 3) := by decide +kernel
theorem d_B_apply_98 : decode prog_2_method_3_code 98 = .ok (.aload_n 1, 1) := by decide +kernel
theorem d_B_apply_99 : decode prog_2_method_3_code 99 = .ok (.invokevirtual 58, 3) := by decide +kernel
theorem d_B_apply_102 : decode prog_2_method_3_code 102 = .ok (.return_, 1) := by decide +kernel
theorem d_B_insert_0 : decode prog_2_method_5_code 0 = .ok (.aload_n 0, 1) := by decide +kernel
theorem d_B_insert_1 : decode prog_2_method_5_code 1 = .ok (.getfield 25, 3) := by decide +kernel
theorem d_B_insert_4 : decode prog_2_method_5_code 4 = .ok (.bipush 24, 2) := by decide +kernel
theorem d_B_insert_6 : decode prog_2_method_5_code 6 = .ok (.if_icmp .lt 4, 3) := by decide +kernel
theorem d_B_insert_9 : decode prog_2_method_5_code 9 = .ok (.return_, 1) := by decide +kernel
theorem d_B_insert_10 : decode prog_2_method_5_code 10 = .ok (.aload_n 1, 1) := by decide +kernel
theorem d_B_insert_11 : decode prog_2_method_5_code 11 = .ok (.getfield 62, 3) := by decide +kernel
theorem d_B_insert_14 : decode prog_2_method_5_code 14 = .ok (.ifCond .ne 7, 3) := by decide +kernel
theorem d_B_insert_17 : decode prog_2_method_5_code 17 = .ok (.iconst 1, 1) := by decide +kernel
theorem d_B_insert_18 : decode prog_2_method_5_code 18 = .ok (.goto 4, 3) := by decide +kernel
theorem d_B_insert_21 : decode prog_2_method_5_code 21 = .ok (.iconst 0, 1) := by decide +kernel
theorem d_B_insert_22 : decode prog_2_method_5_code 22 = .ok (.istore_n 2, 1) := by decide +kernel
theorem d_B_insert_23 : decode prog_2_method_5_code 23 = .ok (.aload_n 0, 1) := by decide +kernel
theorem d_B_insert_24 : decode prog_2_method_5_code 24 = .ok (.aload_n 1, 1) := by decide +kernel
theorem d_B_insert_25 : decode prog_2_method_5_code 25 = .ok (.getfield 62, 3) := by decide +kernel
theorem d_B_insert_28 : decode prog_2_method_5_code 28 = .ok (.invokevirtual 65, 3) := by decide +kernel
theorem d_B_insert_31 : decode prog_2_method_5_code 31 = .ok (.istore_n 3, 1) := by decide +kernel
theorem d_B_insert_32 : decode prog_2_method_5_code 32 = .ok (.aload_n 0, 1) := by decide +kernel
theorem d_B_insert_33 : decode prog_2_method_5_code 33 = .ok (.aload_n 1, 1) := by decide +kernel
theorem d_B_insert_34 : decode prog_2_method_5_code 34 = .ok (.getfield 62, 3) := by decide +kernel
theorem d_B_insert_37 : decode prog_2_method_5_code 37 = .ok (.invokevirtual 68, 3) := by decide +kernel
theorem d_B_insert_40 : decode prog_2_method_5_code 40 = .ok (.istore 4, 2) := by decide +kernel
theorem d_B_insert_42 : decode prog_2_method_5_code 42 = .ok (.iload_n 3, 1) := by decide +kernel
theorem d_B_insert_43 : decode prog_2_method_5_code 43 = .ok (.iload 4, 2) := by decide +kernel
theorem d_B_insert_45 : decode prog_2_method_5_code 45 = .ok (.if_icmp .ge 42, 3) := by decide +kernel
theorem d_B_insert_48 : decode prog_2_method_5_code 48 = .ok (.iload_n 2, 1) := by decide +kernel
theorem d_B_insert_49 : decode prog_2_method_5_code 49 = .ok (.ifCond .eq 19, 3) := by decide +kernel
theorem d_B_insert_52 : decode prog_2_method_5_code 52 = .ok (.aload_n 0, 1) := by decide +kernel
theorem d_B_insert_53 : decode prog_2_method_5_code 53 = .ok (.getfield 15, 3) := by decide +kernel
theorem d_B_insert_56 : decode prog_2_method_5_code 56 = .ok (.iload_n 3, 1) := by decide +kernel
theorem d_B_insert_57 : decode prog_2_method_5_code 57 = .ok (.iaload, 1) := by decide +kernel
theorem d_B_insert_58 : decode prog_2_method_5_code 58 = .ok (.aload_n 1, 1) := by decide +kernel
theorem d_B_insert_59 : decode prog_2_method_5_code 59 = .ok (.getfield 71, 3) := by decide +kernel
theorem d_B_insert_62 : decode prog_2_method_5_code 62 = .ok (.if_icmp .lt 25, 3) := by decide +kernel
theorem d_B_insert_65 : decode prog_2_method_5_code 65 = .ok (.goto 16, 3) := by decide +kernel
theorem d_B_insert_68 : decode prog_2_method_5_code 68 = .ok (.aload_n 0, 1) := by decide +kernel
theorem d_B_insert_69 : decode prog_2_method_5_code 69 = .ok (.getfield 15, 3) := by decide +kernel
theorem d_B_insert_72 : decode prog_2_method_5_code 72 = .ok (.iload_n 3, 1) := by decide +kernel
theorem d_B_insert_73 : decode prog_2_method_5_code 73 = .ok (.iaload, 1) := by decide +kernel
theorem d_B_insert_74 : decode prog_2_method_5_code 74 = .ok (.aload_n 1, 1) := by decide +kernel
theorem d_B_insert_75 : decode prog_2_method_5_code 75 = .ok (.getfield 71, 3) := by decide +kernel
theorem d_B_insert_78 : decode prog_2_method_5_code 78 = .ok (.if_icmp .gt 9, 3) := by decide +kernel
theorem d_B_insert_81 : decode prog_2_method_5_code 81 = .ok (.iinc 3 1, 3) := by decide +kernel
theorem d_B_insert_84 : decode prog_2_method_5_code 84 = .ok (.goto (-42), 3) := by decide +kernel
theorem d_B_insert_87 : decode prog_2_method_5_code 87 = .ok (.aload_n 0, 1) := by decide +kernel
theorem d_B_insert_88 : decode prog_2_method_5_code 88 = .ok (.getfield 9, 3) := by decide +kernel
theorem d_B_insert_91 : decode prog_2_method_5_code 91 = .ok (.iload_n 3, 1) := by decide +kernel
theorem d_B_insert_92 : decode prog_2_method_5_code 92 = .ok (.aload_n 0, 1) := by decide +kernel
theorem d_B_insert_93 : decode prog_2_method_5_code 93 = .ok (.getfield 9, 3) := by decide +kernel
theorem d_B_insert_96 : decode prog_2_method_5_code 96 = .ok (.iload_n 3, 1) := by decide +kernel
theorem d_B_insert_97 : decode prog_2_method_5_code 97 = .ok (.iconst 1, 1) := by decide +kernel
theorem d_B_insert_98 : decode prog_2_method_5_code 98 = .ok (.iadd, 1) := by decide +kernel
theorem d_B_insert_99 : decode prog_2_method_5_code 99 = .ok (.aload_n 0, 1) := by decide +kernel
theorem d_B_insert_100 : decode prog_2_method_5_code 100 = .ok (.getfield 25, 3) := by decide +kernel
theorem d_B_insert_103 : decode prog_2_method_5_code 103 = .ok (.iload_n 3, 1) := by decide +kernel
theorem d_B_insert_104 : decode prog_2_method_5_code 104 = .ok (.isub, 1) := by decide +kernel
theorem d_B_insert_105 : decode prog_2_method_5_code 105 = .ok (.invokestatic 74, 3) := by decide +kernel
theorem d_B_insert_108 : decode prog_2_method_5_code 108 = .ok (.aload_n 0, 1) := by decide +kernel
theorem d_B_insert_109 : decode prog_2_method_5_code 109 = .ok (.getfield 15, 3) := by decide +kernel
theorem d_B_insert_112 : decode prog_2_method_5_code 112 = .ok (.iload_n 3, 1) := by decide +kernel
theorem d_B_insert_113 : decode prog_2_method_5_code 113 = .ok (.aload_n 0, 1) := by decide +kernel
theorem d_B_insert_114 : decode prog_2_method_5_code 114 = .ok (.getfield 15, 3) := by decide +kernel
theorem d_B_insert_117 : decode prog_2_method_5_code 117 = .ok (.iload_n 3, 1) := by decide +kernel
theorem d_B_insert_118 : decode prog_2_method_5_code 118 = .ok (.iconst 1, 1) := by decide +kernel
theorem d_B_insert_119 : decode prog_2_method_5_code 119 = .ok (.iadd, 1) := by decide +kernel
theorem d_B_insert_120 : decode prog_2_method_5_code 120 = .ok (.aload_n 0, 1) := by decide +kernel
theorem d_B_insert_121 : decode prog_2_method_5_code 121 = .ok (.getfield 25, 3) := by decide +kernel
theorem d_B_insert_124 : decode prog_2_method_5_code 124 = .ok (.iload_n 3, 1) := by decide +kernel
theorem d_B_insert_125 : decode prog_2_method_5_code 125 = .ok (.isub, 1) := by decide +kernel
theorem d_B_insert_126 : decode prog_2_method_5_code 126 = .ok (.invokestatic 74, 3) := by decide +kernel
theorem d_B_insert_129 : decode prog_2_method_5_code 129 = .ok (.aload_n 0, 1) := by decide +kernel
theorem d_B_insert_130 : decode prog_2_method_5_code 130 = .ok (.getfield 18, 3) := by decide +kernel
theorem d_B_insert_133 : decode prog_2_method_5_code 133 = .ok (.iload_n 3, 1) := by decide +kernel
theorem d_B_insert_134 : decode prog_2_method_5_code 134 = .ok (.aload_n 0, 1) := by decide +kernel
theorem d_B_insert_135 : decode prog_2_method_5_code 135 = .ok (.getfield 18, 3) := by decide +kernel
theorem d_B_insert_138 : decode prog_2_method_5_code 138 = .ok (.iload_n 3, 1) := by decide +kernel
theorem d_B_insert_139 : decode prog_2_method_5_code 139 = .ok (.iconst 1, 1) := by decide +kernel
theorem d_B_insert_140 : decode prog_2_method_5_code 140 = .ok (.iadd, 1) := by decide +kernel
theorem d_B_insert_141 : decode prog_2_method_5_code 141 = .ok (.aload_n 0, 1) := by decide +kernel
theorem d_B_insert_142 : decode prog_2_method_5_code 142 = .ok (.getfield 25, 3) := by decide +kernel
theorem d_B_insert_145 : decode prog_2_method_5_code 145 = .ok (.iload_n 3, 1) := by decide +kernel
theorem d_B_insert_146 : decode prog_2_method_5_code 146 = .ok (.isub, 1) := by decide +kernel
theorem d_B_insert_147 : decode prog_2_method_5_code 147 = .ok (.invokestatic 74, 3) := by decide +kernel
theorem d_B_insert_150 : decode prog_2_method_5_code 150 = .ok (.aload_n 0, 1) := by decide +kernel
theorem d_B_insert_151 : decode prog_2_method_5_code 151 = .ok (.getfield 9, 3) := by decide +kernel
theorem d_B_insert_154 : decode prog_2_method_5_code 154 = .ok (.iload_n 3, 1) := by decide +kernel
theorem d_B_insert_155 : decode prog_2_method_5_code 155 = .ok (.aload_n 1, 1) := by decide +kernel
theorem d_B_insert_156 : decode prog_2_method_5_code 156 = .ok (.getfield 55, 3) := by decide +kernel
theorem d_B_insert_159 : decode prog_2_method_5_code 159 = .ok (.iastore, 1) := by decide +kernel
theorem d_B_insert_160 : decode prog_2_method_5_code 160 = .ok (.aload_n 0, 1) := by decide +kernel
theorem d_B_insert_161 : decode prog_2_method_5_code 161 = .ok (.getfield 15, 3) := by decide +kernel
theorem d_B_insert_164 : decode prog_2_method_5_code 164 = .ok (.iload_n 3, 1) := by decide +kernel
theorem d_B_insert_165 : decode prog_2_method_5_code 165 = .ok (.aload_n 1, 1) := by decide +kernel
theorem d_B_insert_166 : decode prog_2_method_5_code 166 = .ok (.getfield 71, 3) := by decide +kernel
theorem d_B_insert_169 : decode prog_2_method_5_code 169 = .ok (.iastore, 1) := by decide +kernel
theorem d_B_insert_170 : decode prog_2_method_5_code 170 = .ok (.aload_n 0, 1) := by decide +kernel
theorem d_B_insert_171 : decode prog_2_method_5_code 171 = .ok (.getfield 18, 3) := by decide +kernel
theorem d_B_insert_174 : decode prog_2_method_5_code 174 = .ok (.iload_n 3, 1) := by decide +kernel
theorem d_B_insert_175 : decode prog_2_method_5_code 175 = .ok (.aload_n 1, 1) := by decide +kernel
theorem d_B_insert_176 : decode prog_2_method_5_code 176 = .ok (.getfield 52, 3) := by decide +kernel
theorem d_B_insert_179 : decode prog_2_method_5_code 179 = .ok (.iastore, 1) := by decide +kernel
theorem d_B_insert_180 : decode prog_2_method_5_code 180 = .ok (.aload_n 0, 1) := by decide +kernel
theorem d_B_insert_181 : decode prog_2_method_5_code 181 = .ok (.dup, 1) := by decide +kernel
theorem d_B_insert_182 : decode prog_2_method_5_code 182 = .ok (.getfield 25, 3) := by decide +kernel
theorem d_B_insert_185 : decode prog_2_method_5_code 185 = .ok (.iconst 1, 1) := by decide +kernel
theorem d_B_insert_186 : decode prog_2_method_5_code 186 = .ok (.iadd, 1) := by decide +kernel
theorem d_B_insert_187 : decode prog_2_method_5_code 187 = .ok (.putfield 25, 3) := by decide +kernel
theorem d_B_insert_190 : decode prog_2_method_5_code 190 = .ok (.iload_n 2, 1) := by decide +kernel
theorem d_B_insert_191 : decode prog_2_method_5_code 191 = .ok (.ifCond .eq 13, 3) := by decide +kernel
theorem d_B_insert_194 : decode prog_2_method_5_code 194 = .ok (.aload_n 0, 1) := by decide +kernel
theorem d_B_insert_195 : decode prog_2_method_5_code 195 = .ok (.dup, 1) := by decide +kernel
theorem d_B_insert_196 : decode prog_2_method_5_code 196 = .ok (.getfield 21, 3) := by decide +kernel
theorem d_B_insert_199 : decode prog_2_method_5_code 199 = .ok (.iconst 1, 1) := by decide +kernel
theorem d_B_insert_200 : decode prog_2_method_5_code 200 = .ok (.iadd, 1) := by decide +kernel
theorem d_B_insert_201 : decode prog_2_method_5_code 201 = .ok (.putfield 21, 3) := by decide +kernel
theorem d_B_insert_204 : decode prog_2_method_5_code 204 = .ok (.return_, 1) := by decide +kernel
theorem d_B_startOf_0 : decode prog_2_method_9_code 0 = .ok (.iload_n 1, 1) := by decide +kernel
theorem d_B_startOf_1 : decode prog_2_method_9_code 1 = .ok (.ifCond .ne 7, 3) := by decide +kernel
theorem d_B_startOf_4 : decode prog_2_method_9_code 4 = .ok (.iconst 0, 1) := by decide +kernel
theorem d_B_startOf_5 : decode prog_2_method_9_code 5 = .ok (.goto 7, 3) := by decide +kernel
theorem d_B_startOf_8 : decode prog_2_method_9_code 8 = .ok (.aload_n 0, 1) := by decide +kernel
theorem d_B_startOf_9 : decode prog_2_method_9_code 9 = .ok (.getfield 21, 3) := by decide +kernel
theorem d_B_startOf_12 : decode prog_2_method_9_code 12 = .ok (.ireturn, 1) := by decide +kernel
theorem d_B_endOf_0 : decode prog_2_method_10_code 0 = .ok (.iload_n 1, 1) := by decide +kernel
theorem d_B_endOf_1 : decode prog_2_method_10_code 1 = .ok (.ifCond .ne 10, 3) := by decide +kernel
theorem d_B_endOf_4 : decode prog_2_method_10_code 4 = .ok (.aload_n 0, 1) := by decide +kernel
theorem d_B_endOf_5 : decode prog_2_method_10_code 5 = .ok (.getfield 21, 3) := by decide +kernel
theorem d_B_endOf_8 : decode prog_2_method_10_code 8 = .ok (.goto 7, 3) := by decide +kernel
theorem d_B_endOf_11 : decode prog_2_method_10_code 11 = .ok (.aload_n 0, 1) := by decide +kernel
theorem d_B_endOf_12 : decode prog_2_method_10_code 12 = .ok (.getfield 25, 3) := by decide +kernel
theorem d_B_endOf_15 : decode prog_2_method_10_code 15 = .ok (.ireturn, 1) := by decide +kernel
theorem d_B_shrink_0 : decode prog_2_method_6_code 0 = .ok (.iload_n 1, 1) := by decide +kernel
theorem d_B_shrink_1 : decode prog_2_method_6_code 1 = .ok (.iconst (-1), 1) := by decide +kernel
theorem d_B_shrink_2 : decode prog_2_method_6_code 2 = .ok (.if_icmp .ne 4, 3) := by decide +kernel
theorem d_B_shrink_5 : decode prog_2_method_6_code 5 = .ok (.return_, 1) := by decide +kernel
theorem d_B_shrink_6 : decode prog_2_method_6_code 6 = .ok (.aload_n 0, 1) := by decide +kernel
theorem d_B_shrink_7 : decode prog_2_method_6_code 7 = .ok (.getfield 18, 3) := by decide +kernel
theorem d_B_shrink_10 : decode prog_2_method_6_code 10 = .ok (.iload_n 1, 1) := by decide +kernel
theorem d_B_shrink_11 : decode prog_2_method_6_code 11 = .ok (.iaload, 1) := by decide +kernel
theorem d_B_shrink_12 : decode prog_2_method_6_code 12 = .ok (.aload_n 2, 1) := by decide +kernel
theorem d_B_shrink_13 : decode prog_2_method_6_code 13 = .ok (.invokestatic 80, 3) := by decide +kernel
theorem d_B_shrink_16 : decode prog_2_method_6_code 16 = .ok (.istore_n 3, 1) := by decide +kernel
theorem d_B_shrink_17 : decode prog_2_method_6_code 17 = .ok (.iload_n 3, 1) := by decide +kernel
theorem d_B_shrink_18 : decode prog_2_method_6_code 18 = .ok (.ifCond .le 11, 3) := by decide +kernel
theorem d_B_shrink_21 : decode prog_2_method_6_code 21 = .ok (.aload_n 0, 1) := by decide +kernel
theorem d_B_shrink_22 : decode prog_2_method_6_code 22 = .ok (.getfield 18, 3) := by decide +kernel
theorem d_B_shrink_25 : decode prog_2_method_6_code 25 = .ok (.iload_n 1, 1) := by decide +kernel
theorem d_B_shrink_26 : decode prog_2_method_6_code 26 = .ok (.iload_n 3, 1) := by decide +kernel
theorem d_B_shrink_27 : decode prog_2_method_6_code 27 = .ok (.iastore, 1) := by decide +kernel
theorem d_B_shrink_28 : decode prog_2_method_6_code 28 = .ok (.return_, 1) := by decide +kernel
theorem d_B_shrink_29 : decode prog_2_method_6_code 29 = .ok (.aload_n 0, 1) := by decide +kernel
theorem d_B_shrink_30 : decode prog_2_method_6_code 30 = .ok (.dup, 1) := by decide +kernel
theorem d_B_shrink_31 : decode prog_2_method_6_code 31 = .ok (.getfield 25, 3) := by decide +kernel
theorem d_B_shrink_34 : decode prog_2_method_6_code 34 = .ok (.iconst 1, 1) := by decide +kernel
theorem d_B_shrink_35 : decode prog_2_method_6_code 35 = .ok (.isub, 1) := by decide +kernel
theorem d_B_shrink_36 : decode prog_2_method_6_code 36 = .ok (.putfield 25, 3) := by decide +kernel
theorem d_B_shrink_39 : decode prog_2_method_6_code 39 = .ok (.iload_n 1, 1) := by decide +kernel
theorem d_B_shrink_40 : decode prog_2_method_6_code 40 = .ok (.aload_n 0, 1) := by decide +kernel
theorem d_B_shrink_41 : decode prog_2_method_6_code 41 = .ok (.getfield 21, 3) := by decide +kernel
theorem d_B_shrink_44 : decode prog_2_method_6_code 44 = .ok (.if_icmp .ge 13, 3) := by decide +kernel
theorem d_B_shrink_47 : decode prog_2_method_6_code 47 = .ok (.aload_n 0, 1) := by decide +kernel
theorem d_B_shrink_48 : decode prog_2_method_6_code 48 = .ok (.dup, 1) := by decide +kernel
theorem d_B_shrink_49 : decode prog_2_method_6_code 49 = .ok (.getfield 21, 3) := by decide +kernel
theorem d_B_shrink_52 : decode prog_2_method_6_code 52 = .ok (.iconst 1, 1) := by decide +kernel
theorem d_B_shrink_53 : decode prog_2_method_6_code 53 = .ok (.isub, 1) := by decide +kernel
theorem d_B_shrink_54 : decode prog_2_method_6_code 54 = .ok (.putfield 21, 3) := by decide +kernel
theorem d_B_shrink_57 : decode prog_2_method_6_code 57 = .ok (.aload_n 0, 1) := by decide +kernel
theorem d_B_shrink_58 : decode prog_2_method_6_code 58 = .ok (.getfield 9, 3) := by decide +kernel
theorem d_B_shrink_61 : decode prog_2_method_6_code 61 = .ok (.iload_n 1, 1) := by decide +kernel
theorem d_B_shrink_62 : decode prog_2_method_6_code 62 = .ok (.iconst 1, 1) := by decide +kernel
theorem d_B_shrink_63 : decode prog_2_method_6_code 63 = .ok (.iadd, 1) := by decide +kernel
theorem d_B_shrink_64 : decode prog_2_method_6_code 64 = .ok (.aload_n 0, 1) := by decide +kernel
theorem d_B_shrink_65 : decode prog_2_method_6_code 65 = .ok (.getfield 9, 3) := by decide +kernel
theorem d_B_shrink_68 : decode prog_2_method_6_code 68 = .ok (.iload_n 1, 1) := by decide +kernel
theorem d_B_shrink_69 : decode prog_2_method_6_code 69 = .ok (.aload_n 0, 1) := by decide +kernel
theorem d_B_shrink_70 : decode prog_2_method_6_code 70 = .ok (.getfield 25, 3) := by decide +kernel
theorem d_B_shrink_73 : decode prog_2_method_6_code 73 = .ok (.iload_n 1, 1) := by decide +kernel
theorem d_B_shrink_74 : decode prog_2_method_6_code 74 = .ok (.isub, 1) := by decide +kernel
theorem d_B_shrink_75 : decode prog_2_method_6_code 75 = .ok (.invokestatic 74, 3) := by decide +kernel
theorem d_B_shrink_78 : decode prog_2_method_6_code 78 = .ok (.aload_n 0, 1) := by decide +kernel
theorem d_B_shrink_79 : decode prog_2_method_6_code 79 = .ok (.getfield 15, 3) := by decide +kernel
theorem d_B_shrink_82 : decode prog_2_method_6_code 82 = .ok (.iload_n 1, 1) := by decide +kernel
theorem d_B_shrink_83 : decode prog_2_method_6_code 83 = .ok (.iconst 1, 1) := by decide +kernel
theorem d_B_shrink_84 : decode prog_2_method_6_code 84 = .ok (.iadd, 1) := by decide +kernel
theorem d_B_shrink_85 : decode prog_2_method_6_code 85 = .ok (.aload_n 0, 1) := by decide +kernel
theorem d_B_shrink_86 : decode prog_2_method_6_code 86 = .ok (.getfield 15, 3) := by decide +kernel
theorem d_B_shrink_89 : decode prog_2_method_6_code 89 = .ok (.iload_n 1, 1) := by decide +kernel
theorem d_B_shrink_90 : decode prog_2_method_6_code 90 = .ok (.aload_n 0, 1) := by decide +kernel
theorem d_B_shrink_91 : decode prog_2_method_6_code 91 = .ok (.getfield 25, 3) := by decide +kernel
theorem d_B_shrink_94 : decode prog_2_method_6_code 94 = .ok (.iload_n 1, 1) := by decide +kernel
theorem d_B_shrink_95 : decode prog_2_method_6_code 95 = .ok (.isub, 1) := by decide +kernel
theorem d_B_shrink_96 : decode prog_2_method_6_code 96 = .ok (.invokestatic 74, 3) := by decide +kernel
theorem d_B_shrink_99 : decode prog_2_method_6_code 99 = .ok (.aload_n 0, 1) := by decide +kernel
theorem d_B_shrink_100 : decode prog_2_method_6_code 100 = .ok (.getfield 18, 3) := by decide +kernel
theorem d_B_shrink_103 : decode prog_2_method_6_code 103 = .ok (.iload_n 1, 1) := by decide +kernel
theorem d_B_shrink_104 : decode prog_2_method_6_code 104 = .ok (.iconst 1, 1) := by decide +kernel
theorem d_B_shrink_105 : decode prog_2_method_6_code 105 = .ok (.iadd, 1) := by decide +kernel
theorem d_B_shrink_106 : decode prog_2_method_6_code 106 = .ok (.aload_n 0, 1) := by decide +kernel
theorem d_B_shrink_107 : decode prog_2_method_6_code 107 = .ok (.getfield 18, 3) := by decide +kernel
theorem d_B_shrink_110 : decode prog_2_method_6_code 110 = .ok (.iload_n 1, 1) := by decide +kernel
theorem d_B_shrink_111 : decode prog_2_method_6_code 111 = .ok (.aload_n 0, 1) := by decide +kernel
theorem d_B_shrink_112 : decode prog_2_method_6_code 112 = .ok (.getfield 25, 3) := by decide +kernel
theorem d_B_shrink_115 : decode prog_2_method_6_code 115 = .ok (.iload_n 1, 1) := by decide +kernel
theorem d_B_shrink_116 : decode prog_2_method_6_code 116 = .ok (.isub, 1) := by decide +kernel
theorem d_B_shrink_117 : decode prog_2_method_6_code 117 = .ok (.invokestatic 74, 3) := by decide +kernel
theorem d_B_shrink_120 : decode prog_2_method_6_code 120 = .ok (.return_, 1) := by decide +kernel
theorem d_B_sizeLeft_0 : decode prog_2_method_7_code 0 = .ok (.aload_n 1, 1) := by decide +kernel
theorem d_B_sizeLeft_1 : decode prog_2_method_7_code 1 = .ok (.getfield 43, 3) := by decide +kernel
theorem d_B_sizeLeft_4 : decode prog_2_method_7_code 4 = .ok (.lookupswitch 40 #[(1, 28), (2, 33)], 28) := by decide +kernel
theorem d_B_sizeLeft_32 : decode prog_2_method_7_code 32 = .ok (.aload_n 1, 1) := by decide +kernel
theorem d_B_sizeLeft_33 : decode prog_2_method_7_code 33 = .ok (.getfield 52, 3) := by decide +kernel
theorem d_B_sizeLeft_36 : decode prog_2_method_7_code 36 = .ok (.ireturn, 1) := by decide +kernel
theorem d_B_sizeLeft_37 : decode prog_2_method_7_code 37 = .ok (.iload_n 0, 1) := by decide +kernel
theorem d_B_sizeLeft_38 : decode prog_2_method_7_code 38 = .ok (.aload_n 1, 1) := by decide +kernel
theorem d_B_sizeLeft_39 : decode prog_2_method_7_code 39 = .ok (.getfield 52, 3) := by decide +kernel
theorem d_B_sizeLeft_42 : decode prog_2_method_7_code 42 = .ok (.isub, 1) := by decide +kernel
theorem d_B_sizeLeft_43 : decode prog_2_method_7_code 43 = .ok (.ireturn, 1) := by decide +kernel
theorem d_B_sizeLeft_44 : decode prog_2_method_7_code 44 = .ok (.iconst 0, 1) := by decide +kernel
theorem d_B_sizeLeft_45 : decode prog_2_method_7_code 45 = .ok (.ireturn, 1) := by decide +kernel
theorem d_D_change_0 : decode prog_1_method_3_code 0 = .ok (.iload_n 1, 1) := by decide +kernel
theorem d_D_change_1 : decode prog_1_method_3_code 1 = .ok (.invokestatic 32, 3) := by decide +kernel
theorem d_D_change_4 : decode prog_1_method_3_code 4 = .ok (.ifCond .eq 17, 3) := by decide +kernel
theorem d_D_change_7 : decode prog_1_method_3_code 7 = .ok (.iload_n 2, 1) := by decide +kernel
theorem d_D_change_8 : decode prog_1_method_3_code 8 = .ok (.invokestatic 36, 3) := by decide +kernel
theorem d_D_change_11 : decode prog_1_method_3_code 11 = .ok (.ifCond .eq 10, 3) := by decide +kernel
theorem d_D_change_14 : decode prog_1_method_3_code 14 = .ok (.iload_n 3, 1) := by decide +kernel
theorem d_D_change_15 : decode prog_1_method_3_code 15 = .ok (.invokestatic 36, 3) := by decide +kernel
theorem d_D_change_18 : decode prog_1_method_3_code 18 = .ok (.ifCond .ne 6, 3) := by decide +kernel
theorem d_D_change_21 : decode prog_1_method_3_code 21 = .ok (.bipush (-2), 2) := by decide +kernel
theorem d_D_change_23 : decode prog_1_method_3_code 23 = .ok (.ireturn, 1) := by decide +kernel
theorem d_D_change_24 : decode prog_1_method_3_code 24 = .ok (.aload_n 0, 1) := by decide +kernel
theorem d_D_change_25 : decode prog_1_method_3_code 25 = .ok (.getfield 24, 3) := by decide +kernel
theorem d_D_change_28 : decode prog_1_method_3_code 28 = .ok (.iconst 1, 1) := by decide +kernel
theorem d_D_change_29 : decode prog_1_method_3_code 29 = .ok (.iload_n 1, 1) := by decide +kernel
theorem d_D_change_30 : decode prog_1_method_3_code 30 = .ok (.iload_n 2, 1) := by decide +kernel
theorem d_D_change_31 : decode prog_1_method_3_code 31 = .ok (.iconst 0, 1) := by decide +kernel
theorem d_D_change_32 : decode prog_1_method_3_code 32 = .ok (.iconst 0, 1) := by decide +kernel
theorem d_D_change_33 : decode prog_1_method_3_code 33 = .ok (.iload_n 3, 1) := by decide +kernel
theorem d_D_change_34 : decode prog_1_method_3_code 34 = .ok (.invokevirtual 44, 3) := by decide +kernel
theorem d_D_change_37 : decode prog_1_method_3_code 37 = .ok (.ireturn, 1) := by decide +kernel
theorem d_D_execute_0 : decode prog_1_method_4_code 0 = .ok (.iload_n 1, 1) := by decide +kernel
theorem d_D_execute_1 : decode prog_1_method_4_code 1 = .ok (.invokestatic 32, 3) := by decide +kernel
theorem d_D_execute_4 : decode prog_1_method_4_code 4 = .ok (.ifCond .eq 17, 3) := by decide +kernel
theorem d_D_execute_7 : decode prog_1_method_4_code 7 = .ok (.iload_n 2, 1) := by decide +kernel
theorem d_D_execute_8 : decode prog_1_method_4_code 8 = .ok (.invokestatic 36, 3) := by decide +kernel
theorem d_D_execute_11 : decode prog_1_method_4_code 11 = .ok (.ifCond .eq 10, 3) := by decide +kernel
theorem d_D_execute_14 : decode prog_1_method_4_code 14 = .ok (.iload_n 3, 1) := by decide +kernel
theorem d_D_execute_15 : decode prog_1_method_4_code 15 = .ok (.invokestatic 36, 3) := by decide +kernel
theorem d_D_execute_18 : decode prog_1_method_4_code 18 = .ok (.ifCond .ne 6, 3) := by decide +kernel
theorem d_D_execute_21 : decode prog_1_method_4_code 21 = .ok (.bipush (-2), 2) := by decide +kernel
theorem d_D_execute_23 : decode prog_1_method_4_code 23 = .ok (.ireturn, 1) := by decide +kernel
theorem d_D_execute_24 : decode prog_1_method_4_code 24 = .ok (.aload_n 0, 1) := by decide +kernel
theorem d_D_execute_25 : decode prog_1_method_4_code 25 = .ok (.getfield 24, 3) := by decide +kernel
theorem d_D_execute_28 : decode prog_1_method_4_code 28 = .ok (.iconst 2, 1) := by decide +kernel
theorem d_D_execute_29 : decode prog_1_method_4_code 29 = .ok (.iload_n 1, 1) := by decide +kernel
theorem d_D_execute_30 : decode prog_1_method_4_code 30 = .ok (.iload_n 2, 1) := by decide +kernel
theorem d_D_execute_31 : decode prog_1_method_4_code 31 = .ok (.iconst 0, 1) := by decide +kernel
theorem d_D_execute_32 : decode prog_1_method_4_code 32 = .ok (.iconst 0, 1) := by decide +kernel
theorem d_D_execute_33 : decode prog_1_method_4_code 33 = .ok (.iload_n 3, 1) := by decide +kernel
theorem d_D_execute_34 : decode prog_1_method_4_code 34 = .ok (.invokevirtual 44, 3) := by decide +kernel
theorem d_D_execute_37 : decode prog_1_method_4_code 37 = .ok (.ireturn, 1) := by decide +kernel
theorem d_D_cancel_0 : decode prog_1_method_5_code 0 = .ok (.iload_n 1, 1) := by decide +kernel
theorem d_D_cancel_1 : decode prog_1_method_5_code 1 = .ok (.invokestatic 32, 3) := by decide +kernel
theorem d_D_cancel_4 : decode prog_1_method_5_code 4 = .ok (.ifCond .eq 10, 3) := by decide +kernel
theorem d_D_cancel_7 : decode prog_1_method_5_code 7 = .ok (.iload_n 2, 1) := by decide +kernel
theorem d_D_cancel_8 : decode prog_1_method_5_code 8 = .ok (.invokestatic 36, 3) := by decide +kernel
theorem d_D_cancel_11 : decode prog_1_method_5_code 11 = .ok (.ifCond .ne 6, 3) := by decide +kernel
theorem d_D_cancel_14 : decode prog_1_method_5_code 14 = .ok (.bipush (-2), 2) := by decide +kernel
theorem d_D_cancel_16 : decode prog_1_method_5_code 16 = .ok (.ireturn, 1) := by decide +kernel
theorem d_D_cancel_17 : decode prog_1_method_5_code 17 = .ok (.aload_n 0, 1) := by decide +kernel
theorem d_D_cancel_18 : decode prog_1_method_5_code 18 = .ok (.getfield 24, 3) := by decide +kernel
theorem d_D_cancel_21 : decode prog_1_method_5_code 21 = .ok (.iconst 3, 1) := by decide +kernel
theorem d_D_cancel_22 : decode prog_1_method_5_code 22 = .ok (.iload_n 1, 1) := by decide +kernel
theorem d_D_cancel_23 : decode prog_1_method_5_code 23 = .ok (.iload_n 2, 1) := by decide +kernel
theorem d_D_cancel_24 : decode prog_1_method_5_code 24 = .ok (.iconst 0, 1) := by decide +kernel
theorem d_D_cancel_25 : decode prog_1_method_5_code 25 = .ok (.iconst 0, 1) := by decide +kernel
theorem d_D_cancel_26 : decode prog_1_method_5_code 26 = .ok (.iconst 0, 1) := by decide +kernel
theorem d_D_cancel_27 : decode prog_1_method_5_code 27 = .ok (.invokevirtual 44, 3) := by decide +kernel
theorem d_D_cancel_30 : decode prog_1_method_5_code 30 = .ok (.ireturn, 1) := by decide +kernel
theorem d_D_halt_0 : decode prog_1_method_6_code 0 = .ok (.iload_n 1, 1) := by decide +kernel
theorem d_D_halt_1 : decode prog_1_method_6_code 1 = .ok (.invokestatic 32, 3) := by decide +kernel
theorem d_D_halt_4 : decode prog_1_method_6_code 4 = .ok (.ifCond .ne 6, 3) := by decide +kernel
theorem d_D_halt_7 : decode prog_1_method_6_code 7 = .ok (.bipush (-2), 2) := by decide +kernel
theorem d_D_halt_9 : decode prog_1_method_6_code 9 = .ok (.ireturn, 1) := by decide +kernel
theorem d_D_halt_10 : decode prog_1_method_6_code 10 = .ok (.aload_n 0, 1) := by decide +kernel
theorem d_D_halt_11 : decode prog_1_method_6_code 11 = .ok (.getfield 24, 3) := by decide +kernel
theorem d_D_halt_14 : decode prog_1_method_6_code 14 = .ok (.iconst 4, 1) := by decide +kernel
theorem d_D_halt_15 : decode prog_1_method_6_code 15 = .ok (.iload_n 1, 1) := by decide +kernel
theorem d_D_halt_16 : decode prog_1_method_6_code 16 = .ok (.iconst 0, 1) := by decide +kernel
theorem d_D_halt_17 : decode prog_1_method_6_code 17 = .ok (.iconst 0, 1) := by decide +kernel
theorem d_D_halt_18 : decode prog_1_method_6_code 18 = .ok (.iconst 0, 1) := by decide +kernel
theorem d_D_halt_19 : decode prog_1_method_6_code 19 = .ok (.iload_n 2, 1) := by decide +kernel
theorem d_D_halt_20 : decode prog_1_method_6_code 20 = .ok (.ifCond .eq 7, 3) := by decide +kernel
theorem d_D_halt_23 : decode prog_1_method_6_code 23 = .ok (.iconst 1, 1) := by decide +kernel
theorem d_D_halt_24 : decode prog_1_method_6_code 24 = .ok (.goto 4, 3) := by decide +kernel
theorem d_D_halt_27 : decode prog_1_method_6_code 27 = .ok (.iconst 0, 1) := by decide +kernel
theorem d_D_halt_28 : decode prog_1_method_6_code 28 = .ok (.invokevirtual 44, 3) := by decide +kernel
theorem d_D_halt_31 : decode prog_1_method_6_code 31 = .ok (.ireturn, 1) := by decide +kernel
theorem d_D_clear_0 : decode prog_1_method_7_code 0 = .ok (.iload_n 1, 1) := by decide +kernel
theorem d_D_clear_1 : decode prog_1_method_7_code 1 = .ok (.invokestatic 32, 3) := by decide +kernel
theorem d_D_clear_4 : decode prog_1_method_7_code 4 = .ok (.ifCond .ne 6, 3) := by decide +kernel
theorem d_D_clear_7 : decode prog_1_method_7_code 7 = .ok (.bipush (-2), 2) := by decide +kernel
theorem d_D_clear_9 : decode prog_1_method_7_code 9 = .ok (.ireturn, 1) := by decide +kernel
theorem d_D_clear_10 : decode prog_1_method_7_code 10 = .ok (.aload_n 0, 1) := by decide +kernel
theorem d_D_clear_11 : decode prog_1_method_7_code 11 = .ok (.getfield 24, 3) := by decide +kernel
theorem d_D_clear_14 : decode prog_1_method_7_code 14 = .ok (.iconst 5, 1) := by decide +kernel
theorem d_D_clear_15 : decode prog_1_method_7_code 15 = .ok (.iload_n 1, 1) := by decide +kernel
theorem d_D_clear_16 : decode prog_1_method_7_code 16 = .ok (.iconst 0, 1) := by decide +kernel
theorem d_D_clear_17 : decode prog_1_method_7_code 17 = .ok (.iconst 0, 1) := by decide +kernel
theorem d_D_clear_18 : decode prog_1_method_7_code 18 = .ok (.iconst 0, 1) := by decide +kernel
theorem d_D_clear_19 : decode prog_1_method_7_code 19 = .ok (.iconst 0, 1) := by decide +kernel
theorem d_D_clear_20 : decode prog_1_method_7_code 20 = .ok (.invokevirtual 44, 3) := by decide +kernel
theorem d_D_clear_23 : decode prog_1_method_7_code 23 = .ok (.ireturn, 1) := by decide +kernel
theorem d_D_publish_0 : decode prog_1_method_8_code 0 = .ok (.aload_n 0, 1) := by decide +kernel
theorem d_D_publish_1 : decode prog_1_method_8_code 1 = .ok (.getfield 24, 3) := by decide +kernel
theorem d_D_publish_4 : decode prog_1_method_8_code 4 = .ok (.invokevirtual 48, 3) := by decide +kernel
theorem d_D_publish_7 : decode prog_1_method_8_code 7 = .ok (.ireturn, 1) := by decide +kernel
theorem d_P_closePacket_0 : decode prog_4_method_3_code 0 = .ok (.aload_n 0, 1) := by decide +kernel
theorem d_P_closePacket_1 : decode prog_4_method_3_code 1 = .ok (.getfield 23, 3) := by decide +kernel
theorem d_P_closePacket_4 : decode prog_4_method_3_code 4 = .ok (.aload_n 0, 1) := by decide +kernel
theorem d_P_closePacket_5 : decode prog_4_method_3_code 5 = .ok (.getfield 27, 3) := by decide +kernel
theorem d_P_closePacket_8 : decode prog_4_method_3_code 8 = .ok (.aload_n 0, 1) := by decide +kernel
theorem d_P_closePacket_9 : decode prog_4_method_3_code 9 = .ok (.getfield 31, 3) := by decide +kernel
theorem d_P_closePacket_12 : decode prog_4_method_3_code 12 = .ok (.iaload, 1) := by decide +kernel
theorem d_P_closePacket_13 : decode prog_4_method_3_code 13 = .ok (.if_icmp .ne 5, 3) := by decide +kernel
theorem d_P_closePacket_16 : decode prog_4_method_3_code 16 = .ok (.iconst 0, 1) := by decide +kernel
theorem d_P_closePacket_17 : decode prog_4_method_3_code 17 = .ok (.ireturn, 1) := by decide +kernel
theorem d_P_closePacket_18 : decode prog_4_method_3_code 18 = .ok (.aload_n 0, 1) := by decide +kernel
theorem d_P_closePacket_19 : decode prog_4_method_3_code 19 = .ok (.dup, 1) := by decide +kernel
theorem d_P_closePacket_20 : decode prog_4_method_3_code 20 = .ok (.getfield 31, 3) := by decide +kernel
theorem d_P_closePacket_23 : decode prog_4_method_3_code 23 = .ok (.iconst 1, 1) := by decide +kernel
theorem d_P_closePacket_24 : decode prog_4_method_3_code 24 = .ok (.iadd, 1) := by decide +kernel
theorem d_P_closePacket_25 : decode prog_4_method_3_code 25 = .ok (.putfield 31, 3) := by decide +kernel
theorem d_P_closePacket_28 : decode prog_4_method_3_code 28 = .ok (.aload_n 0, 1) := by decide +kernel
theorem d_P_closePacket_29 : decode prog_4_method_3_code 29 = .ok (.getfield 27, 3) := by decide +kernel
theorem d_P_closePacket_32 : decode prog_4_method_3_code 32 = .ok (.aload_n 0, 1) := by decide +kernel
theorem d_P_closePacket_33 : decode prog_4_method_3_code 33 = .ok (.getfield 31, 3) := by decide +kernel
theorem d_P_closePacket_36 : decode prog_4_method_3_code 36 = .ok (.aload_n 0, 1) := by decide +kernel
theorem d_P_closePacket_37 : decode prog_4_method_3_code 37 = .ok (.getfield 23, 3) := by decide +kernel
theorem d_P_closePacket_40 : decode prog_4_method_3_code 40 = .ok (.iastore, 1) := by decide +kernel
theorem d_P_closePacket_41 : decode prog_4_method_3_code 41 = .ok (.aload_n 0, 1) := by decide +kernel
theorem d_P_closePacket_42 : decode prog_4_method_3_code 42 = .ok (.getfield 31, 3) := by decide +kernel
theorem d_P_closePacket_45 : decode prog_4_method_3_code 45 = .ok (.ireturn, 1) := by decide +kernel
theorem d_D_packetByte_0 : decode prog_1_method_9_code 0 = .ok (.aload_n 0, 1) := by decide +kernel
theorem d_D_packetByte_1 : decode prog_1_method_9_code 1 = .ok (.getfield 24, 3) := by decide +kernel
theorem d_D_packetByte_4 : decode prog_1_method_9_code 4 = .ok (.iload_n 1, 1) := by decide +kernel
theorem d_D_packetByte_5 : decode prog_1_method_9_code 5 = .ok (.iload_n 2, 1) := by decide +kernel
theorem d_D_packetByte_6 : decode prog_1_method_9_code 6 = .ok (.invokevirtual 52, 3) := by decide +kernel
theorem d_D_packetByte_9 : decode prog_1_method_9_code 9 = .ok (.ireturn, 1) := by decide +kernel
end
section
/-! the instructions (by program, from the listing) -/
theorem d_P_byteOfPacket_0 : decode prog_4_method_8_code 0 = .ok (.aload_n 0, 1) := by decide +kernel
theorem d_P_byteOfPacket_1 : decode prog_4_method_8_code 1 = .ok (.iload_n 1, 1) := by decide +kernel
theorem d_P_byteOfPacket_2 : decode prog_4_method_8_code 2 = .ok (.invokevirtual 69, 3) := by decide +kernel
theorem d_P_byteOfPacket_5 : decode prog_4_method_8_code 5 = .ok (.ifCond .eq 7, 3) := by decide +kernel
theorem d_P_byteOfPacket_8 : decode prog_4_method_8_code 8 = .ok (.iload_n 2, 1) := by decide +kernel
theorem d_P_byteOfPacket_9 : decode prog_4_method_8_code 9 = .ok (.ifCond .ge 5, 3) := by decide +kernel
theorem d_P_byteOfPacket_12 : decode prog_4_method_8_code 12 = .ok (.iconst (-1), 1) := by decide +kernel
theorem d_P_byteOfPacket_13 : decode prog_4_method_8_code 13 = .ok (.ireturn, 1) := by decide +kernel
theorem d_P_byteOfPacket_14 : decode prog_4_method_8_code 14 = .ok (.iload_n 2, 1) := by decide +kernel
theorem d_P_byteOfPacket_15 : decode prog_4_method_8_code 15 = .ok (.iconst 4, 1) := by decide +kernel
theorem d_P_byteOfPacket_16 : decode prog_4_method_8_code 16 = .ok (.if_icmp .ge 9, 3) := by decide +kernel
theorem d_P_byteOfPacket_19 : decode prog_4_method_8_code 19 = .ok (.iload_n 1, 1) := by decide +kernel
theorem d_P_byteOfPacket_20 : decode prog_4_method_8_code 20 = .ok (.iload_n 2, 1) := by decide +kernel
theorem d_P_byteOfPacket_21 : decode prog_4_method_8_code 21 = .ok (.invokestatic 73, 3) := by decide +kernel
theorem d_P_byteOfPacket_24 : decode prog_4_method_8_code 24 = .ok (.ireturn, 1) := by decide +kernel
theorem d_P_byteOfPacket_25 : decode prog_4_method_8_code 25 = .ok (.iload_n 2, 1) := by decide +kernel
theorem d_P_byteOfPacket_26 : decode prog_4_method_8_code 26 = .ok (.iconst 5, 1) := by decide +kernel
theorem d_P_byteOfPacket_27 : decode prog_4_method_8_code 27 = .ok (.if_icmp .ge 15, 3) := by decide +kernel
theorem d_P_byteOfPacket_30 : decode prog_4_method_8_code 30 = .ok (.aload_n 0, 1) := by decide +kernel
theorem d_P_byteOfPacket_31 : decode prog_4_method_8_code 31 = .ok (.iload_n 1, 1) := by decide +kernel
theorem d_P_byteOfPacket_32 : decode prog_4_method_8_code 32 = .ok (.invokevirtual 66, 3) := by decide +kernel
theorem d_P_byteOfPacket_35 : decode prog_4_method_8_code 35 = .ok (.aload_n 0, 1) := by decide +kernel
theorem d_P_byteOfPacket_36 : decode prog_4_method_8_code 36 = .ok (.iload_n 1, 1) := by decide +kernel
theorem d_P_byteOfPacket_37 : decode prog_4_method_8_code 37 = .ok (.invokevirtual 62, 3) := by decide +kernel
theorem d_P_byteOfPacket_40 : decode prog_4_method_8_code 40 = .ok (.isub, 1) := by decide +kernel
theorem d_P_byteOfPacket_41 : decode prog_4_method_8_code 41 = .ok (.ireturn, 1) := by decide +kernel
theorem d_P_byteOfPacket_42 : decode prog_4_method_8_code 42 = .ok (.aload_n 0, 1) := by decide +kernel
theorem d_P_byteOfPacket_43 : decode prog_4_method_8_code 43 = .ok (.iload_n 1, 1) := by decide +kernel
theorem d_P_byteOfPacket_44 : decode prog_4_method_8_code 44 = .ok (.invokevirtual 62, 3) := by decide +kernel
theorem d_P_byteOfPacket_47 : decode prog_4_method_8_code 47 = .ok (.iload_n 2, 1) := by decide +kernel
theorem d_P_byteOfPacket_48 : decode prog_4_method_8_code 48 = .ok (.iconst 5, 1) := by decide +kernel
theorem d_P_byteOfPacket_49 : decode prog_4_method_8_code 49 = .ok (.isub, 1) := by decide +kernel
theorem d_P_byteOfPacket_50 : decode prog_4_method_8_code 50 = .ok (.bipush 19, 2) := by decide +kernel
theorem d_P_byteOfPacket_52 : decode prog_4_method_8_code 52 = .ok (.idiv, 1) := by decide +kernel
theorem d_P_byteOfPacket_53 : decode prog_4_method_8_code 53 = .ok (.iadd, 1) := by decide +kernel
theorem d_P_byteOfPacket_54 : decode prog_4_method_8_code 54 = .ok (.istore_n 3, 1) := by decide +kernel
theorem d_P_byteOfPacket_55 : decode prog_4_method_8_code 55 = .ok (.iload_n 3, 1) := by decide +kernel
theorem d_P_byteOfPacket_56 : decode prog_4_method_8_code 56 = .ok (.aload_n 0, 1) := by decide +kernel
theorem d_P_byteOfPacket_57 : decode prog_4_method_8_code 57 = .ok (.iload_n 1, 1) := by decide +kernel
theorem d_P_byteOfPacket_58 : decode prog_4_method_8_code 58 = .ok (.invokevirtual 66, 3) := by decide +kernel
theorem d_P_byteOfPacket_61 : decode prog_4_method_8_code 61 = .ok (.if_icmp .ge 12, 3) := by decide +kernel
theorem d_P_byteOfPacket_64 : decode prog_4_method_8_code 64 = .ok (.aload_n 0, 1) := by decide +kernel
theorem d_P_byteOfPacket_65 : decode prog_4_method_8_code 65 = .ok (.getfield 19, 3) := by decide +kernel
theorem d_P_byteOfPacket_68 : decode prog_4_method_8_code 68 = .ok (.iload_n 3, 1) := by decide +kernel
theorem d_P_byteOfPacket_69 : decode prog_4_method_8_code 69 = .ok (.aaload, 1) := by decide +kernel
theorem d_P_byteOfPacket_70 : decode prog_4_method_8_code 70 = .ok (.ifnonnull 5, 3) := by decide +kernel
theorem d_P_byteOfPacket_73 : decode prog_4_method_8_code 73 = .ok (.iconst (-1), 1) := by decide +kernel
theorem d_P_byteOfPacket_74 : decode prog_4_method_8_code 74 = .ok (.ireturn, 1) := by decide +kernel
theorem d_P_byteOfPacket_75 : decode prog_4_method_8_code 75 = .ok (.aload_n 0, 1) := by decide +kernel
theorem d_P_byteOfPacket_76 : decode prog_4_method_8_code 76 = .ok (.getfield 19, 3) := by decide +kernel
theorem d_P_byteOfPacket_79 : decode prog_4_method_8_code 79 = .ok (.iload_n 3, 1) := by decide +kernel
theorem d_P_byteOfPacket_80 : decode prog_4_method_8_code 80 = .ok (.aaload, 1) := by decide +kernel
theorem d_P_byteOfPacket_81 : decode prog_4_method_8_code 81 = .ok (.iload_n 2, 1) := by decide +kernel
theorem d_P_byteOfPacket_82 : decode prog_4_method_8_code 82 = .ok (.iconst 5, 1) := by decide +kernel
theorem d_P_byteOfPacket_83 : decode prog_4_method_8_code 83 = .ok (.isub, 1) := by decide +kernel
theorem d_P_byteOfPacket_84 : decode prog_4_method_8_code 84 = .ok (.bipush 19, 2) := by decide +kernel
theorem d_P_byteOfPacket_86 : decode prog_4_method_8_code 86 = .ok (.irem, 1) := by decide +kernel
theorem d_P_byteOfPacket_87 : decode prog_4_method_8_code 87 = .ok (.invokevirtual 77, 3) := by decide +kernel
theorem d_P_byteOfPacket_90 : decode prog_4_method_8_code 90 = .ok (.ireturn, 1) := by decide +kernel
theorem d_P_isClosed_0 : decode prog_4_method_4_code 0 = .ok (.iload_n 1, 1) := by decide +kernel
theorem d_P_isClosed_1 : decode prog_4_method_4_code 1 = .ok (.iconst 1, 1) := by decide +kernel
theorem d_P_isClosed_2 : decode prog_4_method_4_code 2 = .ok (.if_icmp .lt 15, 3) := by decide +kernel
theorem d_P_isClosed_5 : decode prog_4_method_4_code 5 = .ok (.iload_n 1, 1) := by decide +kernel
theorem d_P_isClosed_6 : decode prog_4_method_4_code 6 = .ok (.aload_n 0, 1) := by decide +kernel
theorem d_P_isClosed_7 : decode prog_4_method_4_code 7 = .ok (.getfield 31, 3) := by decide +kernel
theorem d_P_isClosed_10 : decode prog_4_method_4_code 10 = .ok (.if_icmp .gt 7, 3) := by decide +kernel
theorem d_P_isClosed_13 : decode prog_4_method_4_code 13 = .ok (.iconst 1, 1) := by decide +kernel
theorem d_P_isClosed_14 : decode prog_4_method_4_code 14 = .ok (.goto 4, 3) := by decide +kernel
theorem d_P_isClosed_17 : decode prog_4_method_4_code 17 = .ok (.iconst 0, 1) := by decide +kernel
theorem d_P_isClosed_18 : decode prog_4_method_4_code 18 = .ok (.ireturn, 1) := by decide +kernel
theorem d_E_byteOf_0 : decode prog_3_method_3_code 0 = .ok (.iload_n 0, 1) := by decide +kernel
theorem d_E_byteOf_1 : decode prog_3_method_3_code 1 = .ok (.bipush 24, 2) := by decide +kernel
theorem d_E_byteOf_3 : decode prog_3_method_3_code 3 = .ok (.bipush 8, 2) := by decide +kernel
theorem d_E_byteOf_5 : decode prog_3_method_3_code 5 = .ok (.iload_n 1, 1) := by decide +kernel
theorem d_E_byteOf_6 : decode prog_3_method_3_code 6 = .ok (.imul, 1) := by decide +kernel
theorem d_E_byteOf_7 : decode prog_3_method_3_code 7 = .ok (.isub, 1) := by decide +kernel
theorem d_E_byteOf_8 : decode prog_3_method_3_code 8 = .ok (.iushr, 1) := by decide +kernel
theorem d_E_byteOf_9 : decode prog_3_method_3_code 9 = .ok (.sipush 255, 3) := by decide +kernel
theorem d_E_byteOf_12 : decode prog_3_method_3_code 12 = .ok (.iand, 1) := by decide +kernel
theorem d_E_byteOf_13 : decode prog_3_method_3_code 13 = .ok (.ireturn, 1) := by decide +kernel
theorem d_P_endOf_0 : decode prog_4_method_6_code 0 = .ok (.aload_n 0, 1) := by decide +kernel
theorem d_P_endOf_1 : decode prog_4_method_6_code 1 = .ok (.getfield 27, 3) := by decide +kernel
theorem d_P_endOf_4 : decode prog_4_method_6_code 4 = .ok (.iload_n 1, 1) := by decide +kernel
theorem d_P_endOf_5 : decode prog_4_method_6_code 5 = .ok (.iaload, 1) := by decide +kernel
theorem d_P_endOf_6 : decode prog_4_method_6_code 6 = .ok (.ireturn, 1) := by decide +kernel
theorem d_P_startOf_0 : decode prog_4_method_5_code 0 = .ok (.aload_n 0, 1) := by decide +kernel
theorem d_P_startOf_1 : decode prog_4_method_5_code 1 = .ok (.getfield 27, 3) := by decide +kernel
theorem d_P_startOf_4 : decode prog_4_method_5_code 4 = .ok (.iload_n 1, 1) := by decide +kernel
theorem d_P_startOf_5 : decode prog_4_method_5_code 5 = .ok (.iconst 1, 1) := by decide +kernel
theorem d_P_startOf_6 : decode prog_4_method_5_code 6 = .ok (.isub, 1) := by decide +kernel
theorem d_P_startOf_7 : decode prog_4_method_5_code 7 = .ok (.iaload, 1) := by decide +kernel
theorem d_P_startOf_8 : decode prog_4_method_5_code 8 = .ok (.ireturn, 1) := by decide +kernel
theorem d_E_byteAt_0 : decode prog_3_method_2_code 0 = .ok (.iload_n 1, 1) := by decide +kernel
theorem d_E_byteAt_1 : decode prog_3_method_2_code 1 = .ok (.ifCond .ne 8, 3) := by decide +kernel
theorem d_E_byteAt_4 : decode prog_3_method_2_code 4 = .ok (.aload_n 0, 1) := by decide +kernel
theorem d_E_byteAt_5 : decode prog_3_method_2_code 5 = .ok (.getfield 7, 3) := by decide +kernel
theorem d_E_byteAt_8 : decode prog_3_method_2_code 8 = .ok (.ireturn, 1) := by decide +kernel
theorem d_E_byteAt_9 : decode prog_3_method_2_code 9 = .ok (.iload_n 1, 1) := by decide +kernel
theorem d_E_byteAt_10 : decode prog_3_method_2_code 10 = .ok (.iconst 1, 1) := by decide +kernel
theorem d_E_byteAt_11 : decode prog_3_method_2_code 11 = .ok (.if_icmp .ne 8, 3) := by decide +kernel
theorem d_E_byteAt_14 : decode prog_3_method_2_code 14 = .ok (.aload_n 0, 1) := by decide +kernel
theorem d_E_byteAt_15 : decode prog_3_method_2_code 15 = .ok (.getfield 13, 3) := by decide +kernel
theorem d_E_byteAt_18 : decode prog_3_method_2_code 18 = .ok (.ireturn, 1) := by decide +kernel
theorem d_E_byteAt_19 : decode prog_3_method_2_code 19 = .ok (.iload_n 1, 1) := by decide +kernel
theorem d_E_byteAt_20 : decode prog_3_method_2_code 20 = .ok (.bipush 6, 2) := by decide +kernel
theorem d_E_byteAt_22 : decode prog_3_method_2_code 22 = .ok (.if_icmp .ge 14, 3) := by decide +kernel
theorem d_E_byteAt_25 : decode prog_3_method_2_code 25 = .ok (.aload_n 0, 1) := by decide +kernel
theorem d_E_byteAt_26 : decode prog_3_method_2_code 26 = .ok (.getfield 16, 3) := by decide +kernel
theorem d_E_byteAt_29 : decode prog_3_method_2_code 29 = .ok (.iload_n 1, 1) := by decide +kernel
theorem d_E_byteAt_30 : decode prog_3_method_2_code 30 = .ok (.iconst 2, 1) := by decide +kernel
theorem d_E_byteAt_31 : decode prog_3_method_2_code 31 = .ok (.isub, 1) := by decide +kernel
theorem d_E_byteAt_32 : decode prog_3_method_2_code 32 = .ok (.invokestatic 31, 3) := by decide +kernel
theorem d_E_byteAt_35 : decode prog_3_method_2_code 35 = .ok (.ireturn, 1) := by decide +kernel
theorem d_E_byteAt_36 : decode prog_3_method_2_code 36 = .ok (.iload_n 1, 1) := by decide +kernel
theorem d_E_byteAt_37 : decode prog_3_method_2_code 37 = .ok (.bipush 10, 2) := by decide +kernel
theorem d_E_byteAt_39 : decode prog_3_method_2_code 39 = .ok (.if_icmp .ge 15, 3) := by decide +kernel
theorem d_E_byteAt_42 : decode prog_3_method_2_code 42 = .ok (.aload_n 0, 1) := by decide +kernel
theorem d_E_byteAt_43 : decode prog_3_method_2_code 43 = .ok (.getfield 19, 3) := by decide +kernel
theorem d_E_byteAt_46 : decode prog_3_method_2_code 46 = .ok (.iload_n 1, 1) := by decide +kernel
theorem d_E_byteAt_47 : decode prog_3_method_2_code 47 = .ok (.bipush 6, 2) := by decide +kernel
theorem d_E_byteAt_49 : decode prog_3_method_2_code 49 = .ok (.isub, 1) := by decide +kernel
theorem d_E_byteAt_50 : decode prog_3_method_2_code 50 = .ok (.invokestatic 31, 3) := by decide +kernel
theorem d_E_byteAt_53 : decode prog_3_method_2_code 53 = .ok (.ireturn, 1) := by decide +kernel
theorem d_E_byteAt_54 : decode prog_3_method_2_code 54 = .ok (.iload_n 1, 1) := by decide +kernel
theorem d_E_byteAt_55 : decode prog_3_method_2_code 55 = .ok (.bipush 10, 2) := by decide +kernel
theorem d_E_byteAt_57 : decode prog_3_method_2_code 57 = .ok (.if_icmp .ne 8, 3) := by decide +kernel
theorem d_E_byteAt_60 : decode prog_3_method_2_code 60 = .ok (.aload_n 0, 1) := by decide +kernel
theorem d_E_byteAt_61 : decode prog_3_method_2_code 61 = .ok (.getfield 22, 3) := by decide +kernel
theorem d_E_byteAt_64 : decode prog_3_method_2_code 64 = .ok (.ireturn, 1) := by decide +kernel
theorem d_E_byteAt_65 : decode prog_3_method_2_code 65 = .ok (.iload_n 1, 1) := by decide +kernel
theorem d_E_byteAt_66 : decode prog_3_method_2_code 66 = .ok (.bipush 15, 2) := by decide +kernel
theorem d_E_byteAt_68 : decode prog_3_method_2_code 68 = .ok (.if_icmp .ge 17, 3) := by decide +kernel
theorem d_E_byteAt_71 : decode prog_3_method_2_code 71 = .ok (.aload_n 0, 1) := by decide +kernel
theorem d_E_byteAt_72 : decode prog_3_method_2_code 72 = .ok (.getfield 25, 3) := by decide +kernel
theorem d_E_byteAt_75 : decode prog_3_method_2_code 75 = .ok (.iload_n 1, 1) := by decide +kernel
theorem d_E_byteAt_76 : decode prog_3_method_2_code 76 = .ok (.bipush 11, 2) := by decide +kernel
theorem d_E_byteAt_78 : decode prog_3_method_2_code 78 = .ok (.isub, 1) := by decide +kernel
theorem d_E_byteAt_79 : decode prog_3_method_2_code 79 = .ok (.invokestatic 31, 3) := by decide +kernel
theorem d_E_byteAt_82 : decode prog_3_method_2_code 82 = .ok (.goto 14, 3) := by decide +kernel
theorem d_E_byteAt_85 : decode prog_3_method_2_code 85 = .ok (.aload_n 0, 1) := by decide +kernel
theorem d_E_byteAt_86 : decode prog_3_method_2_code 86 = .ok (.getfield 28, 3) := by decide +kernel
theorem d_E_byteAt_89 : decode prog_3_method_2_code 89 = .ok (.iload_n 1, 1) := by decide +kernel
theorem d_E_byteAt_90 : decode prog_3_method_2_code 90 = .ok (.bipush 15, 2) := by decide +kernel
theorem d_E_byteAt_92 : decode prog_3_method_2_code 92 = .ok (.isub, 1) := by decide +kernel
theorem d_E_byteAt_93 : decode prog_3_method_2_code 93 = .ok (.invokestatic 31, 3) := by decide +kernel
theorem d_E_byteAt_96 : decode prog_3_method_2_code 96 = .ok (.ireturn, 1) := by decide +kernel
theorem d_D_line_0 : decode prog_1_method_10_code 0 = .ok (.iload_n 1, 1) := by decide +kernel
theorem d_D_line_1 : decode prog_1_method_10_code 1 = .ok (.ifCond .lt 26, 3) := by decide +kernel
theorem d_D_line_4 : decode prog_1_method_10_code 4 = .ok (.iload_n 1, 1) := by decide +kernel
theorem d_D_line_5 : decode prog_1_method_10_code 5 = .ok (.iconst 2, 1) := by decide +kernel
theorem d_D_line_6 : decode prog_1_method_10_code 6 = .ok (.if_icmp .ge 21, 3) := by decide +kernel
theorem d_D_line_9 : decode prog_1_method_10_code 9 = .ok (.aload_n 0, 1) := by decide +kernel
theorem d_D_line_10 : decode prog_1_method_10_code 10 = .ok (.getfield 24, 3) := by decide +kernel
theorem d_D_line_13 : decode prog_1_method_10_code 13 = .ok (.iload_n 2, 1) := by decide +kernel
theorem d_D_line_14 : decode prog_1_method_10_code 14 = .ok (.invokevirtual 56, 3) := by decide +kernel
theorem d_D_line_17 : decode prog_1_method_10_code 17 = .ok (.ifCond .eq 10, 3) := by decide +kernel
theorem d_D_line_20 : decode prog_1_method_10_code 20 = .ok (.iload_n 3, 1) := by decide +kernel
theorem d_D_line_21 : decode prog_1_method_10_code 21 = .ok (.invokestatic 59, 3) := by decide +kernel
theorem d_D_line_24 : decode prog_1_method_10_code 24 = .ok (.ifCond .ne 6, 3) := by decide +kernel
theorem d_D_line_27 : decode prog_1_method_10_code 27 = .ok (.bipush (-2), 2) := by decide +kernel
theorem d_D_line_29 : decode prog_1_method_10_code 29 = .ok (.ireturn, 1) := by decide +kernel
theorem d_D_line_30 : decode prog_1_method_10_code 30 = .ok (.aload_n 0, 1) := by decide +kernel
theorem d_D_line_31 : decode prog_1_method_10_code 31 = .ok (.getfield 11, 3) := by decide +kernel
theorem d_D_line_34 : decode prog_1_method_10_code 34 = .ok (.iload_n 3, 1) := by decide +kernel
theorem d_D_line_35 : decode prog_1_method_10_code 35 = .ok (.aaload, 1) := by decide +kernel
theorem d_D_line_36 : decode prog_1_method_10_code 36 = .ok (.iload_n 2, 1) := by decide +kernel
theorem d_D_line_37 : decode prog_1_method_10_code 37 = .ok (.invokevirtual 62, 3) := by decide +kernel
theorem d_D_line_40 : decode prog_1_method_10_code 40 = .ok (.ireturn, 1) := by decide +kernel
theorem d_D_isReceiver_0 : decode prog_1_method_25_code 0 = .ok (.iload_n 0, 1) := by decide +kernel
theorem d_D_isReceiver_1 : decode prog_1_method_25_code 1 = .ok (.ifCond .lt 12, 3) := by decide +kernel
theorem d_D_isReceiver_4 : decode prog_1_method_25_code 4 = .ok (.iload_n 0, 1) := by decide +kernel
theorem d_D_isReceiver_5 : decode prog_1_method_25_code 5 = .ok (.iconst 2, 1) := by decide +kernel
theorem d_D_isReceiver_6 : decode prog_1_method_25_code 6 = .ok (.if_icmp .ge 7, 3) := by decide +kernel
theorem d_D_isReceiver_9 : decode prog_1_method_25_code 9 = .ok (.iconst 1, 1) := by decide +kernel
theorem d_D_isReceiver_10 : decode prog_1_method_25_code 10 = .ok (.goto 4, 3) := by decide +kernel
theorem d_D_isReceiver_13 : decode prog_1_method_25_code 13 = .ok (.iconst 0, 1) := by decide +kernel
theorem d_D_isReceiver_14 : decode prog_1_method_25_code 14 = .ok (.ireturn, 1) := by decide +kernel
theorem d_V_hear_0 : decode prog_6_method_2_code 0 = .ok (.aload_n 0, 1) := by decide +kernel
theorem d_V_hear_1 : decode prog_6_method_2_code 1 = .ok (.aload_n 0, 1) := by decide +kernel
theorem d_V_hear_2 : decode prog_6_method_2_code 2 = .ok (.getfield 21, 3) := by decide +kernel
theorem d_V_hear_5 : decode prog_6_method_2_code 5 = .ok (.iload_n 1, 1) := by decide +kernel
theorem d_V_hear_6 : decode prog_6_method_2_code 6 = .ok (.invokestatic 38, 3) := by decide +kernel
theorem d_V_hear_9 : decode prog_6_method_2_code 9 = .ok (.putfield 21, 3) := by decide +kernel
theorem d_V_hear_12 : decode prog_6_method_2_code 12 = .ok (.iload_n 1, 1) := by decide +kernel
theorem d_V_hear_13 : decode prog_6_method_2_code 13 = .ok (.aload_n 0, 1) := by decide +kernel
theorem d_V_hear_14 : decode prog_6_method_2_code 14 = .ok (.getfield 17, 3) := by decide +kernel
theorem d_V_hear_17 : decode prog_6_method_2_code 17 = .ok (.if_icmp .ge 5, 3) := by decide +kernel
theorem d_V_hear_20 : decode prog_6_method_2_code 20 = .ok (.iconst 0, 1) := by decide +kernel
theorem d_V_hear_21 : decode prog_6_method_2_code 21 = .ok (.ireturn, 1) := by decide +kernel
theorem d_V_hear_22 : decode prog_6_method_2_code 22 = .ok (.iload_n 1, 1) := by decide +kernel
theorem d_V_hear_23 : decode prog_6_method_2_code 23 = .ok (.aload_n 0, 1) := by decide +kernel
theorem d_V_hear_24 : decode prog_6_method_2_code 24 = .ok (.getfield 17, 3) := by decide +kernel
theorem d_V_hear_27 : decode prog_6_method_2_code 27 = .ok (.bipush 6, 2) := by decide +kernel
theorem d_V_hear_29 : decode prog_6_method_2_code 29 = .ok (.iadd, 1) := by decide +kernel
theorem d_V_hear_30 : decode prog_6_method_2_code 30 = .ok (.if_icmp .le 5, 3) := by decide +kernel
theorem d_V_hear_33 : decode prog_6_method_2_code 33 = .ok (.iconst 3, 1) := by decide +kernel
theorem d_V_hear_34 : decode prog_6_method_2_code 34 = .ok (.ireturn, 1) := by decide +kernel
theorem d_V_hear_35 : decode prog_6_method_2_code 35 = .ok (.iload_n 1, 1) := by decide +kernel
theorem d_V_hear_36 : decode prog_6_method_2_code 36 = .ok (.aload_n 0, 1) := by decide +kernel
theorem d_V_hear_37 : decode prog_6_method_2_code 37 = .ok (.getfield 17, 3) := by decide +kernel
theorem d_V_hear_40 : decode prog_6_method_2_code 40 = .ok (.if_icmp .le 15, 3) := by decide +kernel
theorem d_V_hear_43 : decode prog_6_method_2_code 43 = .ok (.aload_n 0, 1) := by decide +kernel
theorem d_V_hear_44 : decode prog_6_method_2_code 44 = .ok (.getfield 24, 3) := by decide +kernel
theorem d_V_hear_47 : decode prog_6_method_2_code 47 = .ok (.iload_n 1, 1) := by decide +kernel
theorem d_V_hear_48 : decode prog_6_method_2_code 48 = .ok (.bipush 7, 2) := by decide +kernel
theorem d_V_hear_50 : decode prog_6_method_2_code 50 = .ok (.iand, 1) := by decide +kernel
theorem d_V_hear_51 : decode prog_6_method_2_code 51 = .ok (.iconst 1, 1) := by decide +kernel
theorem d_V_hear_52 : decode prog_6_method_2_code 52 = .ok (.bastore, 1) := by decide +kernel
theorem d_V_hear_53 : decode prog_6_method_2_code 53 = .ok (.iconst 2, 1) := by decide +kernel
theorem d_V_hear_54 : decode prog_6_method_2_code 54 = .ok (.ireturn, 1) := by decide +kernel
theorem d_V_hear_55 : decode prog_6_method_2_code 55 = .ok (.aload_n 0, 1) := by decide +kernel
theorem d_V_hear_56 : decode prog_6_method_2_code 56 = .ok (.iload_n 1, 1) := by decide +kernel
theorem d_V_hear_57 : decode prog_6_method_2_code 57 = .ok (.invokevirtual 44, 3) := by decide +kernel
theorem d_V_hear_60 : decode prog_6_method_2_code 60 = .ok (.iconst 1, 1) := by decide +kernel
theorem d_V_hear_61 : decode prog_6_method_2_code 61 = .ok (.ireturn, 1) := by decide +kernel
theorem d_V_passThrough_0 : decode prog_6_method_6_code 0 = .ok (.aload_n 0, 1) := by decide +kernel
theorem d_V_passThrough_1 : decode prog_6_method_6_code 1 = .ok (.getfield 17, 3) := by decide +kernel
theorem d_V_passThrough_4 : decode prog_6_method_6_code 4 = .ok (.aload_n 0, 1) := by decide +kernel
theorem d_V_passThrough_5 : decode prog_6_method_6_code 5 = .ok (.getfield 31, 3) := by decide +kernel
theorem d_V_passThrough_8 : decode prog_6_method_6_code 8 = .ok (.getfield 61, 3) := by decide +kernel
theorem d_V_passThrough_11 : decode prog_6_method_6_code 11 = .ok (.if_icmp .gt 118, 3) := by decide +kernel
theorem d_V_passThrough_14 : decode prog_6_method_6_code 14 = .ok (.aload_n 0, 1) := by decide +kernel
theorem d_V_passThrough_15 : decode prog_6_method_6_code 15 = .ok (.getfield 17, 3) := by decide +kernel
theorem d_V_passThrough_18 : decode prog_6_method_6_code 18 = .ok (.iload_n 1, 1) := by decide +kernel
theorem d_V_passThrough_19 : decode prog_6_method_6_code 19 = .ok (.if_icmp .le 18, 3) := by decide +kernel
theorem d_V_passThrough_22 : decode prog_6_method_6_code 22 = .ok (.aload_n 0, 1) := by decide +kernel
theorem d_V_passThrough_23 : decode prog_6_method_6_code 23 = .ok (.getfield 24, 3) := by decide +kernel
theorem d_V_passThrough_26 : decode prog_6_method_6_code 26 = .ok (.aload_n 0, 1) := by decide +kernel
theorem d_V_passThrough_27 : decode prog_6_method_6_code 27 = .ok (.getfield 17, 3) := by decide +kernel
theorem d_V_passThrough_30 : decode prog_6_method_6_code 30 = .ok (.bipush 7, 2) := by decide +kernel
theorem d_V_passThrough_32 : decode prog_6_method_6_code 32 = .ok (.iand, 1) := by decide +kernel
theorem d_V_passThrough_33 : decode prog_6_method_6_code 33 = .ok (.baload, 1) := by decide +kernel
theorem d_V_passThrough_34 : decode prog_6_method_6_code 34 = .ok (.ifCond .eq 95, 3) := by decide +kernel
theorem d_V_passThrough_37 : decode prog_6_method_6_code 37 = .ok (.aload_n 0, 1) := by decide +kernel
theorem d_V_passThrough_38 : decode prog_6_method_6_code 38 = .ok (.getfield 24, 3) := by decide +kernel
theorem d_V_passThrough_41 : decode prog_6_method_6_code 41 = .ok (.aload_n 0, 1) := by decide +kernel
theorem d_V_passThrough_42 : decode prog_6_method_6_code 42 = .ok (.getfield 17, 3) := by decide +kernel
theorem d_V_passThrough_45 : decode prog_6_method_6_code 45 = .ok (.bipush 7, 2) := by decide +kernel
theorem d_V_passThrough_47 : decode prog_6_method_6_code 47 = .ok (.iand, 1) := by decide +kernel
theorem d_V_passThrough_48 : decode prog_6_method_6_code 48 = .ok (.iconst 0, 1) := by decide +kernel
theorem d_V_passThrough_49 : decode prog_6_method_6_code 49 = .ok (.bastore, 1) := by decide +kernel
theorem d_V_passThrough_50 : decode prog_6_method_6_code 50 = .ok (.aload_n 0, 1) := by decide +kernel
theorem d_V_passThrough_51 : decode prog_6_method_6_code 51 = .ok (.getfield 31, 3) := by decide +kernel
theorem d_V_passThrough_54 : decode prog_6_method_6_code 54 = .ok (.aload_n 0, 1) := by decide +kernel
theorem d_V_passThrough_55 : decode prog_6_method_6_code 55 = .ok (.getfield 17, 3) := by decide +kernel
theorem d_V_passThrough_58 : decode prog_6_method_6_code 58 = .ok (.invokevirtual 64, 3) := by decide +kernel
theorem d_V_passThrough_61 : decode prog_6_method_6_code 61 = .ok (.istore_n 2, 1) := by decide +kernel
theorem d_V_passThrough_62 : decode prog_6_method_6_code 62 = .ok (.aload_n 0, 1) := by decide +kernel
theorem d_V_passThrough_63 : decode prog_6_method_6_code 63 = .ok (.getfield 31, 3) := by decide +kernel
theorem d_V_passThrough_66 : decode prog_6_method_6_code 66 = .ok (.aload_n 0, 1) := by decide +kernel
theorem d_V_passThrough_67 : decode prog_6_method_6_code 67 = .ok (.getfield 17, 3) := by decide +kernel
theorem d_V_passThrough_70 : decode prog_6_method_6_code 70 = .ok (.invokevirtual 68, 3) := by decide +kernel
theorem d_V_passThrough_73 : decode prog_6_method_6_code 73 = .ok (.istore_n 3, 1) := by decide +kernel
theorem d_V_passThrough_74 : decode prog_6_method_6_code 74 = .ok (.iload_n 3, 1) := by decide +kernel
theorem d_V_passThrough_75 : decode prog_6_method_6_code 75 = .ok (.iload_n 2, 1) := by decide +kernel
theorem d_V_passThrough_76 : decode prog_6_method_6_code 76 = .ok (.if_icmp .ge 40, 3) := by decide +kernel
theorem d_V_passThrough_79 : decode prog_6_method_6_code 79 = .ok (.aload_n 0, 1) := by decide +kernel
theorem d_V_passThrough_80 : decode prog_6_method_6_code 80 = .ok (.getfield 31, 3) := by decide +kernel
theorem d_V_passThrough_83 : decode prog_6_method_6_code 83 = .ok (.getfield 71, 3) := by decide +kernel
theorem d_V_passThrough_86 : decode prog_6_method_6_code 86 = .ok (.iload_n 3, 1) := by decide +kernel
theorem d_V_passThrough_87 : decode prog_6_method_6_code 87 = .ok (.aaload, 1) := by decide +kernel
theorem d_V_passThrough_88 : decode prog_6_method_6_code 88 = .ok (.astore 4, 2) := by decide +kernel
theorem d_V_passThrough_90 : decode prog_6_method_6_code 90 = .ok (.aload 4, 2) := by decide +kernel
theorem d_V_passThrough_92 : decode prog_6_method_6_code 92 = .ok (.ifnull 18, 3) := by decide +kernel
theorem d_V_passThrough_95 : decode prog_6_method_6_code 95 = .ok (.aload_n 0, 1) := by decide +kernel
theorem d_V_passThrough_96 : decode prog_6_method_6_code 96 = .ok (.getfield 11, 3) := by decide +kernel
theorem d_V_passThrough_99 : decode prog_6_method_6_code 99 = .ok (.aload 4, 2) := by decide +kernel
theorem d_V_passThrough_101 : decode prog_6_method_6_code 101 = .ok (.getfield 75, 3) := by decide +kernel
theorem d_V_passThrough_104 : decode prog_6_method_6_code 104 = .ok (.aaload, 1) := by decide +kernel
theorem d_V_passThrough_105 : decode prog_6_method_6_code 105 = .ok (.aload 4, 2) := by decide +kernel
theorem d_V_passThrough_107 : decode prog_6_method_6_code 107 = .ok (.invokevirtual 80, 3) := by decide +kernel
theorem d_V_passThrough_110 : decode prog_6_method_6_code 110 = .ok (.iinc 3 1, 3) := by decide +kernel
theorem d_V_passThrough_113 : decode prog_6_method_6_code 113 = .ok (.goto (-39), 3) := by decide +kernel
theorem d_V_passThrough_116 : decode prog_6_method_6_code 116 = .ok (.aload_n 0, 1) := by decide +kernel
theorem d_V_passThrough_117 : decode prog_6_method_6_code 117 = .ok (.dup, 1) := by decide +kernel
theorem d_V_passThrough_118 : decode prog_6_method_6_code 118 = .ok (.getfield 17, 3) := by decide +kernel
theorem d_V_passThrough_121 : decode prog_6_method_6_code 121 = .ok (.iconst 1, 1) := by decide +kernel
theorem d_V_passThrough_122 : decode prog_6_method_6_code 122 = .ok (.iadd, 1) := by decide +kernel
theorem d_V_passThrough_123 : decode prog_6_method_6_code 123 = .ok (.putfield 17, 3) := by decide +kernel
theorem d_V_passThrough_126 : decode prog_6_method_6_code 126 = .ok (.goto (-126), 3) := by decide +kernel
theorem d_V_passThrough_129 : decode prog_6_method_6_code 129 = .ok (.return_, 1) := by decide +kernel
theorem d_T_take_0 : decode prog_8_method_2_code 0 = .ok (.aload_n 0, 1) := by decide +kernel
theorem d_T_take_1 : decode prog_8_method_2_code 1 = .ok (.getfield 12, 3) := by decide +kernel
theorem d_T_take_4 : decode prog_8_method_2_code 4 = .ok (.getfield 46, 3) := by decide +kernel
theorem d_T_take_7 : decode prog_8_method_2_code 7 = .ok (.iconst 1, 1) := by decide +kernel
theorem d_T_take_8 : decode prog_8_method_2_code 8 = .ok (.iadd, 1) := by decide +kernel
theorem d_T_take_9 : decode prog_8_method_2_code 9 = .ok (.istore_n 2, 1) := by decide +kernel
theorem d_T_take_10 : decode prog_8_method_2_code 10 = .ok (.aload_n 1, 1) := by decide +kernel
theorem d_T_take_11 : decode prog_8_method_2_code 11 = .ok (.getfield 49, 3) := by decide +kernel
theorem d_T_take_14 : decode prog_8_method_2_code 14 = .ok (.iload_n 2, 1) := by decide +kernel
theorem d_T_take_15 : decode prog_8_method_2_code 15 = .ok (.if_icmp .ne 18, 3) := by decide +kernel
theorem d_T_take_18 : decode prog_8_method_2_code 18 = .ok (.aload_n 0, 1) := by decide +kernel
theorem d_T_take_19 : decode prog_8_method_2_code 19 = .ok (.getfield 12, 3) := by decide +kernel
theorem d_T_take_22 : decode prog_8_method_2_code 22 = .ok (.aload_n 1, 1) := by decide +kernel
theorem d_T_take_23 : decode prog_8_method_2_code 23 = .ok (.invokevirtual 52, 3) := by decide +kernel
theorem d_T_take_26 : decode prog_8_method_2_code 26 = .ok (.aload_n 0, 1) := by decide +kernel
theorem d_T_take_27 : decode prog_8_method_2_code 27 = .ok (.invokevirtual 56, 3) := by decide +kernel
theorem d_T_take_30 : decode prog_8_method_2_code 30 = .ok (.goto 16, 3) := by decide +kernel
theorem d_T_take_33 : decode prog_8_method_2_code 33 = .ok (.aload_n 1, 1) := by decide +kernel
theorem d_T_take_34 : decode prog_8_method_2_code 34 = .ok (.getfield 49, 3) := by decide +kernel
theorem d_T_take_37 : decode prog_8_method_2_code 37 = .ok (.iload_n 2, 1) := by decide +kernel
theorem d_T_take_38 : decode prog_8_method_2_code 38 = .ok (.if_icmp .le 8, 3) := by decide +kernel
theorem d_T_take_41 : decode prog_8_method_2_code 41 = .ok (.aload_n 0, 1) := by decide +kernel
theorem d_T_take_42 : decode prog_8_method_2_code 42 = .ok (.aload_n 1, 1) := by decide +kernel
theorem d_T_take_43 : decode prog_8_method_2_code 43 = .ok (.invokevirtual 59, 3) := by decide +kernel
theorem d_T_take_46 : decode prog_8_method_2_code 46 = .ok (.return_, 1) := by decide +kernel
theorem d_T_follow_0 : decode prog_8_method_4_code 0 = .ok (.iconst 0, 1) := by decide +kernel
theorem d_T_follow_1 : decode prog_8_method_4_code 1 = .ok (.istore_n 1, 1) := by decide +kernel
theorem d_T_follow_2 : decode prog_8_method_4_code 2 = .ok (.iload_n 1, 1) := by decide +kernel
theorem d_T_follow_3 : decode prog_8_method_4_code 3 = .ok (.bipush 30, 2) := by decide +kernel
theorem d_T_follow_5 : decode prog_8_method_4_code 5 = .ok (.if_icmp .gt 61, 3) := by decide +kernel
theorem d_T_follow_8 : decode prog_8_method_4_code 8 = .ok (.aload_n 0, 1) := by decide +kernel
theorem d_T_follow_9 : decode prog_8_method_4_code 9 = .ok (.getfield 12, 3) := by decide +kernel
theorem d_T_follow_12 : decode prog_8_method_4_code 12 = .ok (.aload_n 0, 1) := by decide +kernel
theorem d_T_follow_13 : decode prog_8_method_4_code 13 = .ok (.getfield 22, 3) := by decide +kernel
theorem d_T_follow_16 : decode prog_8_method_4_code 16 = .ok (.invokevirtual 75, 3) := by decide +kernel
theorem d_T_follow_19 : decode prog_8_method_4_code 19 = .ok (.ifCond .eq 14, 3) := by decide +kernel
theorem d_T_follow_22 : decode prog_8_method_4_code 22 = .ok (.aload_n 0, 1) := by decide +kernel
theorem d_T_follow_23 : decode prog_8_method_4_code 23 = .ok (.getfield 42, 3) := by decide +kernel
theorem d_T_follow_26 : decode prog_8_method_4_code 26 = .ok (.aload_n 0, 1) := by decide +kernel
theorem d_T_follow_27 : decode prog_8_method_4_code 27 = .ok (.getfield 39, 3) := by decide +kernel
theorem d_T_follow_30 : decode prog_8_method_4_code 30 = .ok (.invokevirtual 79, 3) := by decide +kernel
theorem d_T_follow_33 : decode prog_8_method_4_code 33 = .ok (.aload_n 0, 1) := by decide +kernel
theorem d_T_follow_34 : decode prog_8_method_4_code 34 = .ok (.aload_n 0, 1) := by decide +kernel
theorem d_T_follow_35 : decode prog_8_method_4_code 35 = .ok (.getfield 12, 3) := by decide +kernel
theorem d_T_follow_38 : decode prog_8_method_4_code 38 = .ok (.getfield 46, 3) := by decide +kernel
theorem d_T_follow_41 : decode prog_8_method_4_code 41 = .ok (.iconst 1, 1) := by decide +kernel
theorem d_T_follow_42 : decode prog_8_method_4_code 42 = .ok (.iadd, 1) := by decide +kernel
theorem d_T_follow_43 : decode prog_8_method_4_code 43 = .ok (.invokevirtual 85, 3) := by decide +kernel
theorem d_T_follow_46 : decode prog_8_method_4_code 46 = .ok (.astore_n 2, 1) := by decide +kernel
theorem d_T_follow_47 : decode prog_8_method_4_code 47 = .ok (.aload_n 2, 1) := by decide +kernel
theorem d_T_follow_48 : decode prog_8_method_4_code 48 = .ok (.ifnonnull 4, 3) := by decide +kernel
theorem d_T_follow_51 : decode prog_8_method_4_code 51 = .ok (.return_, 1) := by decide +kernel
theorem d_T_follow_52 : decode prog_8_method_4_code 52 = .ok (.aload_n 0, 1) := by decide +kernel
theorem d_T_follow_53 : decode prog_8_method_4_code 53 = .ok (.getfield 12, 3) := by decide +kernel
theorem d_T_follow_56 : decode prog_8_method_4_code 56 = .ok (.aload_n 2, 1) := by decide +kernel
theorem d_T_follow_57 : decode prog_8_method_4_code 57 = .ok (.invokevirtual 52, 3) := by decide +kernel
theorem d_T_follow_60 : decode prog_8_method_4_code 60 = .ok (.iinc 1 1, 3) := by decide +kernel
theorem d_T_follow_63 : decode prog_8_method_4_code 63 = .ok (.goto (-61), 3) := by decide +kernel
theorem d_T_follow_66 : decode prog_8_method_4_code 66 = .ok (.return_, 1) := by decide +kernel
theorem d_B_refresh_0 : decode prog_2_method_14_code 0 = .ok (.iconst 0, 1) := by decide +kernel
theorem d_B_refresh_1 : decode prog_2_method_14_code 1 = .ok (.istore_n 2, 1) := by decide +kernel
theorem d_B_refresh_2 : decode prog_2_method_14_code 2 = .ok (.iconst 0, 1) := by decide +kernel
theorem d_B_refresh_3 : decode prog_2_method_14_code 3 = .ok (.istore_n 3, 1) := by decide +kernel
theorem d_B_refresh_4 : decode prog_2_method_14_code 4 = .ok (.iload_n 3, 1) := by decide +kernel
theorem d_B_refresh_5 : decode prog_2_method_14_code 5 = .ok (.bipush 19, 2) := by decide +kernel
theorem d_B_refresh_7 : decode prog_2_method_14_code 7 = .ok (.if_icmp .ge 70, 3) := by decide +kernel
theorem d_B_refresh_10 : decode prog_2_method_14_code 10 = .ok (.iload_n 3, 1) := by decide +kernel
theorem d_B_refresh_11 : decode prog_2_method_14_code 11 = .ok (.aload_n 1, 1) := by decide +kernel
theorem d_B_refresh_12 : decode prog_2_method_14_code 12 = .ok (.arraylength, 1) := by decide +kernel
theorem d_B_refresh_13 : decode prog_2_method_14_code 13 = .ok (.if_icmp .ge 64, 3) := by decide +kernel
theorem d_B_refresh_16 : decode prog_2_method_14_code 16 = .ok (.iload_n 3, 1) := by decide +kernel
theorem d_B_refresh_17 : decode prog_2_method_14_code 17 = .ok (.bipush 18, 2) := by decide +kernel
theorem d_B_refresh_19 : decode prog_2_method_14_code 19 = .ok (.if_icmp .ne 10, 3) := by decide +kernel
theorem d_B_refresh_22 : decode prog_2_method_14_code 22 = .ok (.aload_n 0, 1) := by decide +kernel
theorem d_B_refresh_23 : decode prog_2_method_14_code 23 = .ok (.invokevirtual 39, 3) := by decide +kernel
theorem d_B_refresh_26 : decode prog_2_method_14_code 26 = .ok (.goto 20, 3) := by decide +kernel
theorem d_B_refresh_29 : decode prog_2_method_14_code 29 = .ok (.aload_n 0, 1) := by decide +kernel
theorem d_B_refresh_30 : decode prog_2_method_14_code 30 = .ok (.iload_n 3, 1) := by decide +kernel
theorem d_B_refresh_31 : decode prog_2_method_14_code 31 = .ok (.bipush 9, 2) := by decide +kernel
theorem d_B_refresh_33 : decode prog_2_method_14_code 33 = .ok (.idiv, 1) := by decide +kernel
theorem d_B_refresh_34 : decode prog_2_method_14_code 34 = .ok (.iload_n 3, 1) := by decide +kernel
theorem d_B_refresh_35 : decode prog_2_method_14_code 35 = .ok (.bipush 9, 2) := by decide +kernel
theorem d_B_refresh_37 : decode prog_2_method_14_code 37 = .ok (.irem, 1) := by decide +kernel
theorem d_B_refresh_38 : decode prog_2_method_14_code 38 = .ok (.iconst 3, 1) := by decide +kernel
theorem d_B_refresh_39 : decode prog_2_method_14_code 39 = .ok (.idiv, 1) := by decide +kernel
theorem d_B_refresh_40 : decode prog_2_method_14_code 40 = .ok (.iload_n 3, 1) := by decide +kernel
theorem d_B_refresh_41 : decode prog_2_method_14_code 41 = .ok (.iconst 3, 1) := by decide +kernel
theorem d_B_refresh_42 : decode prog_2_method_14_code 42 = .ok (.irem, 1) := by decide +kernel
theorem d_B_refresh_43 : decode prog_2_method_14_code 43 = .ok (.invokevirtual 85, 3) := by decide +kernel
theorem d_B_refresh_46 : decode prog_2_method_14_code 46 = .ok (.istore 4, 2) := by decide +kernel
theorem d_B_refresh_48 : decode prog_2_method_14_code 48 = .ok (.iload_n 2, 1) := by decide +kernel
theorem d_B_refresh_49 : decode prog_2_method_14_code 49 = .ok (.ifCond .ne 11, 3) := by decide +kernel
theorem d_B_refresh_52 : decode prog_2_method_14_code 52 = .ok (.aload_n 1, 1) := by decide +kernel
theorem d_B_refresh_53 : decode prog_2_method_14_code 53 = .ok (.iload_n 3, 1) := by decide +kernel
theorem d_B_refresh_54 : decode prog_2_method_14_code 54 = .ok (.iaload, 1) := by decide +kernel
theorem d_B_refresh_55 : decode prog_2_method_14_code 55 = .ok (.iload 4, 2) := by decide +kernel
theorem d_B_refresh_57 : decode prog_2_method_14_code 57 = .ok (.if_icmp .eq 7, 3) := by decide +kernel
theorem d_B_refresh_60 : decode prog_2_method_14_code 60 = .ok (.iconst 1, 1) := by decide +kernel
theorem d_B_refresh_61 : decode prog_2_method_14_code 61 = .ok (.goto 4, 3) := by decide +kernel
theorem d_B_refresh_64 : decode prog_2_method_14_code 64 = .ok (.iconst 0, 1) := by decide +kernel
theorem d_B_refresh_65 : decode prog_2_method_14_code 65 = .ok (.istore_n 2, 1) := by decide +kernel
theorem d_B_refresh_66 : decode prog_2_method_14_code 66 = .ok (.aload_n 1, 1) := by decide +kernel
theorem d_B_refresh_67 : decode prog_2_method_14_code 67 = .ok (.iload_n 3, 1) := by decide +kernel
theorem d_B_refresh_68 : decode prog_2_method_14_code 68 = .ok (.iload 4, 2) := by decide +kernel
theorem d_B_refresh_70 : decode prog_2_method_14_code 70 = .ok (.iastore, 1) := by decide +kernel
theorem d_B_refresh_71 : decode prog_2_method_14_code 71 = .ok (.iinc 3 1, 3) := by decide +kernel
theorem d_B_refresh_74 : decode prog_2_method_14_code 74 = .ok (.goto (-70), 3) := by decide +kernel
theorem d_B_refresh_77 : decode prog_2_method_14_code 77 = .ok (.iload_n 2, 1) := by decide +kernel
theorem d_B_refresh_78 : decode prog_2_method_14_code 78 = .ok (.ireturn, 1) := by decide +kernel
theorem d_B_levelValue_0 : decode prog_2_method_13_code 0 = .ok (.aload_n 0, 1) := by decide +kernel
theorem d_B_levelValue_1 : decode prog_2_method_13_code 1 = .ok (.iload_n 1, 1) := by decide +kernel
theorem d_B_levelValue_2 : decode prog_2_method_13_code 2 = .ok (.invokevirtual 65, 3) := by decide +kernel
theorem d_B_levelValue_5 : decode prog_2_method_13_code 5 = .ok (.istore 4, 2) := by decide +kernel
theorem d_B_levelValue_7 : decode prog_2_method_13_code 7 = .ok (.aload_n 0, 1) := by decide +kernel
theorem d_B_levelValue_8 : decode prog_2_method_13_code 8 = .ok (.iload_n 1, 1) := by decide +kernel
theorem d_B_levelValue_9 : decode prog_2_method_13_code 9 = .ok (.invokevirtual 68, 3) := by decide +kernel
theorem d_B_levelValue_12 : decode prog_2_method_13_code 12 = .ok (.istore 5, 2) := by decide +kernel
theorem d_B_levelValue_14 : decode prog_2_method_13_code 14 = .ok (.iconst (-1), 1) := by decide +kernel
theorem d_B_levelValue_15 : decode prog_2_method_13_code 15 = .ok (.istore 6, 2) := by decide +kernel
theorem d_B_levelValue_17 : decode prog_2_method_13_code 17 = .ok (.iconst 0, 1) := by decide +kernel
theorem d_B_levelValue_18 : decode prog_2_method_13_code 18 = .ok (.istore 7, 2) := by decide +kernel
theorem d_B_levelValue_20 : decode prog_2_method_13_code 20 = .ok (.iconst 0, 1) := by decide +kernel
theorem d_B_levelValue_21 : decode prog_2_method_13_code 21 = .ok (.istore 8, 2) := by decide +kernel
theorem d_B_levelValue_23 : decode prog_2_method_13_code 23 = .ok (.iconst 0, 1) := by decide +kernel
theorem d_B_levelValue_24 : decode prog_2_method_13_code 24 = .ok (.istore 9, 2) := by decide +kernel
theorem d_B_levelValue_26 : decode prog_2_method_13_code 26 = .ok (.iload 4, 2) := by decide +kernel
theorem d_B_levelValue_28 : decode prog_2_method_13_code 28 = .ok (.istore 10, 2) := by decide +kernel
theorem d_B_levelValue_30 : decode prog_2_method_13_code 30 = .ok (.iload 10, 2) := by decide +kernel
theorem d_B_levelValue_32 : decode prog_2_method_13_code 32 = .ok (.iload 5, 2) := by decide +kernel
theorem d_B_levelValue_34 : decode prog_2_method_13_code 34 = .ok (.if_icmp .ge 74, 3) := by decide +kernel
theorem d_B_levelValue_37 : decode prog_2_method_13_code 37 = .ok (.iload 6, 2) := by decide +kernel
theorem d_B_levelValue_39 : decode prog_2_method_13_code 39 = .ok (.iload_n 2, 1) := by decide +kernel
theorem d_B_levelValue_40 : decode prog_2_method_13_code 40 = .ok (.if_icmp .gt 68, 3) := by decide +kernel
theorem d_B_levelValue_43 : decode prog_2_method_13_code 43 = .ok (.iload 10, 2) := by decide +kernel
theorem d_B_levelValue_45 : decode prog_2_method_13_code 45 = .ok (.iload 4, 2) := by decide +kernel
theorem d_B_levelValue_47 : decode prog_2_method_13_code 47 = .ok (.if_icmp .eq 22, 3) := by decide +kernel
theorem d_B_levelValue_50 : decode prog_2_method_13_code 50 = .ok (.aload_n 0, 1) := by decide +kernel
theorem d_B_levelValue_51 : decode prog_2_method_13_code 51 = .ok (.getfield 15, 3) := by decide +kernel
theorem d_B_levelValue_54 : decode prog_2_method_13_code 54 = .ok (.iload 10, 2) := by decide +kernel
theorem d_B_levelValue_56 : decode prog_2_method_13_code 56 = .ok (.iaload, 1) := by decide +kernel
theorem d_B_levelValue_57 : decode prog_2_method_13_code 57 = .ok (.aload_n 0, 1) := by decide +kernel
theorem d_B_levelValue_58 : decode prog_2_method_13_code 58 = .ok (.getfield 15, 3) := by decide +kernel
theorem d_B_levelValue_61 : decode prog_2_method_13_code 61 = .ok (.iload 10, 2) := by decide +kernel
theorem d_B_levelValue_63 : decode prog_2_method_13_code 63 = .ok (.iconst 1, 1) := by decide +kernel
theorem d_B_levelValue_64 : decode prog_2_method_13_code 64 = .ok (.isub, 1) := by decide +kernel
theorem d_B_levelValue_65 : decode prog_2_method_13_code 65 = .ok (.iaload, 1) := by decide +kernel
theorem d_B_levelValue_66 : decode prog_2_method_13_code 66 = .ok (.if_icmp .eq 6, 3) := by decide +kernel
theorem d_B_levelValue_69 : decode prog_2_method_13_code 69 = .ok (.iinc 6 1, 3) := by decide +kernel
theorem d_B_levelValue_72 : decode prog_2_method_13_code 72 = .ok (.iload 6, 2) := by decide +kernel
theorem d_B_levelValue_74 : decode prog_2_method_13_code 74 = .ok (.iload_n 2, 1) := by decide +kernel
theorem d_B_levelValue_75 : decode prog_2_method_13_code 75 = .ok (.if_icmp .ne 27, 3) := by decide +kernel
theorem d_B_levelValue_78 : decode prog_2_method_13_code 78 = .ok (.aload_n 0, 1) := by decide +kernel
theorem d_B_levelValue_79 : decode prog_2_method_13_code 79 = .ok (.getfield 15, 3) := by decide +kernel
theorem d_B_levelValue_82 : decode prog_2_method_13_code 82 = .ok (.iload 10, 2) := by decide +kernel
theorem d_B_levelValue_84 : decode prog_2_method_13_code 84 = .ok (.iaload, 1) := by decide +kernel
theorem d_B_levelValue_85 : decode prog_2_method_13_code 85 = .ok (.istore 7, 2) := by decide +kernel
theorem d_B_levelValue_87 : decode prog_2_method_13_code 87 = .ok (.iload 8, 2) := by decide +kernel
theorem d_B_levelValue_89 : decode prog_2_method_13_code 89 = .ok (.aload_n 0, 1) := by decide +kernel
theorem d_B_levelValue_90 : decode prog_2_method_13_code 90 = .ok (.getfield 18, 3) := by decide +kernel
theorem d_B_levelValue_93 : decode prog_2_method_13_code 93 = .ok (.iload 10, 2) := by decide +kernel
theorem d_B_levelValue_95 : decode prog_2_method_13_code 95 = .ok (.iaload, 1) := by decide +kernel
theorem d_B_levelValue_96 : decode prog_2_method_13_code 96 = .ok (.iadd, 1) := by decide +kernel
theorem d_B_levelValue_97 : decode prog_2_method_13_code 97 = .ok (.istore 8, 2) := by decide +kernel
theorem d_B_levelValue_99 : decode prog_2_method_13_code 99 = .ok (.iinc 9 1, 3) := by decide +kernel
theorem d_B_levelValue_102 : decode prog_2_method_13_code 102 = .ok (.iinc 10 1, 3) := by decide +kernel
theorem d_B_levelValue_105 : decode prog_2_method_13_code 105 = .ok (.goto (-75), 3) := by decide +kernel
theorem d_B_levelValue_108 : decode prog_2_method_13_code 108 = .ok (.iload 9, 2) := by decide +kernel
theorem d_B_levelValue_110 : decode prog_2_method_13_code 110 = .ok (.ifCond .ne 6, 3) := by decide +kernel
theorem d_B_levelValue_113 : decode prog_2_method_13_code 113 = .ok (.ldc 84, 2) := by decide +kernel
theorem d_B_levelValue_115 : decode prog_2_method_13_code 115 = .ok (.ireturn, 1) := by decide +kernel
theorem d_B_levelValue_116 : decode prog_2_method_13_code 116 = .ok (.iload_n 3, 1) := by decide +kernel
theorem d_B_levelValue_117 : decode prog_2_method_13_code 117 = .ok (.ifCond .ne 8, 3) := by decide +kernel
theorem d_B_levelValue_120 : decode prog_2_method_13_code 120 = .ok (.iload 7, 2) := by decide +kernel
theorem d_B_levelValue_122 : decode prog_2_method_13_code 122 = .ok (.goto 15, 3) := by decide +kernel
theorem d_B_levelValue_125 : decode prog_2_method_13_code 125 = .ok (.iload_n 3, 1) := by decide +kernel
theorem d_B_levelValue_126 : decode prog_2_method_13_code 126 = .ok (.iconst 1, 1) := by decide +kernel
theorem d_B_levelValue_127 : decode prog_2_method_13_code 127 = .ok (.if_icmp .ne 8, 3) := by decide +kernel
theorem d_B_levelValue_130 : decode prog_2_method_13_code 130 = .ok (.iload 8, 2) := by decide +kernel
theorem d_B_levelValue_132 : decode prog_2_method_13_code 132 = .ok (.goto 5, 3) := by decide +kernel
theorem d_B_levelValue_135 : decode prog_2_method_13_code 135 = .ok (.iload 9, 2) := by decide +kernel
theorem d_B_levelValue_137 : decode prog_2_method_13_code 137 = .ok (.ireturn, 1) := by decide +kernel
theorem d_W_mark_0 : decode prog_5_method_2_code 0 = .ok (.iconst 0, 1) := by decide +kernel
theorem d_W_mark_1 : decode prog_5_method_2_code 1 = .ok (.istore_n 2, 1) := by decide +kernel
theorem d_W_mark_2 : decode prog_5_method_2_code 2 = .ok (.iload_n 2, 1) := by decide +kernel
theorem d_W_mark_3 : decode prog_5_method_2_code 3 = .ok (.aload_n 0, 1) := by decide +kernel
theorem d_W_mark_4 : decode prog_5_method_2_code 4 = .ok (.getfield 15, 3) := by decide +kernel
theorem d_W_mark_7 : decode prog_5_method_2_code 7 = .ok (.if_icmp .ge 20, 3) := by decide +kernel
theorem d_W_mark_10 : decode prog_5_method_2_code 10 = .ok (.aload_n 0, 1) := by decide +kernel
theorem d_W_mark_11 : decode prog_5_method_2_code 11 = .ok (.getfield 9, 3) := by decide +kernel
theorem d_W_mark_14 : decode prog_5_method_2_code 14 = .ok (.iload_n 2, 1) := by decide +kernel
theorem d_W_mark_15 : decode prog_5_method_2_code 15 = .ok (.iaload, 1) := by decide +kernel
theorem d_W_mark_16 : decode prog_5_method_2_code 16 = .ok (.iload_n 1, 1) := by decide +kernel
theorem d_W_mark_17 : decode prog_5_method_2_code 17 = .ok (.if_icmp .ne 4, 3) := by decide +kernel
theorem d_W_mark_20 : decode prog_5_method_2_code 20 = .ok (.return_, 1) := by decide +kernel
theorem d_W_mark_21 : decode prog_5_method_2_code 21 = .ok (.iinc 2 1, 3) := by decide +kernel
theorem d_W_mark_24 : decode prog_5_method_2_code 24 = .ok (.goto (-22), 3) := by decide +kernel
theorem d_W_mark_27 : decode prog_5_method_2_code 27 = .ok (.aload_n 0, 1) := by decide +kernel
theorem d_W_mark_28 : decode prog_5_method_2_code 28 = .ok (.getfield 15, 3) := by decide +kernel
theorem d_W_mark_31 : decode prog_5_method_2_code 31 = .ok (.iconst 4, 1) := by decide +kernel
theorem d_W_mark_32 : decode prog_5_method_2_code 32 = .ok (.if_icmp .ge 23, 3) := by decide +kernel
theorem d_W_mark_35 : decode prog_5_method_2_code 35 = .ok (.aload_n 0, 1) := by decide +kernel
theorem d_W_mark_36 : decode prog_5_method_2_code 36 = .ok (.getfield 9, 3) := by decide +kernel
theorem d_W_mark_39 : decode prog_5_method_2_code 39 = .ok (.aload_n 0, 1) := by decide +kernel
theorem d_W_mark_40 : decode prog_5_method_2_code 40 = .ok (.getfield 15, 3) := by decide +kernel
theorem d_W_mark_43 : decode prog_5_method_2_code 43 = .ok (.iload_n 1, 1) := by decide +kernel
theorem d_W_mark_44 : decode prog_5_method_2_code 44 = .ok (.iastore, 1) := by decide +kernel
theorem d_W_mark_45 : decode prog_5_method_2_code 45 = .ok (.aload_n 0, 1) := by decide +kernel
theorem d_W_mark_46 : decode prog_5_method_2_code 46 = .ok (.dup, 1) := by decide +kernel
theorem d_W_mark_47 : decode prog_5_method_2_code 47 = .ok (.getfield 15, 3) := by decide +kernel
theorem d_W_mark_50 : decode prog_5_method_2_code 50 = .ok (.iconst 1, 1) := by decide +kernel
theorem d_W_mark_51 : decode prog_5_method_2_code 51 = .ok (.iadd, 1) := by decide +kernel
theorem d_W_mark_52 : decode prog_5_method_2_code 52 = .ok (.putfield 15, 3) := by decide +kernel
theorem d_W_mark_55 : decode prog_5_method_2_code 55 = .ok (.return_, 1) := by decide +kernel
theorem d_T_takeHeld_0 : decode prog_8_method_6_code 0 = .ok (.iconst 0, 1) := by decide +kernel
theorem d_T_takeHeld_1 : decode prog_8_method_6_code 1 = .ok (.istore_n 2, 1) := by decide +kernel
theorem d_T_takeHeld_2 : decode prog_8_method_6_code 2 = .ok (.iload_n 2, 1) := by decide +kernel
theorem d_T_takeHeld_3 : decode prog_8_method_6_code 3 = .ok (.aload_n 0, 1) := by decide +kernel
theorem d_T_takeHeld_4 : decode prog_8_method_6_code 4 = .ok (.getfield 32, 3) := by decide +kernel
theorem d_T_takeHeld_7 : decode prog_8_method_6_code 7 = .ok (.if_icmp .ge 55, 3) := by decide +kernel
theorem d_T_takeHeld_10 : decode prog_8_method_6_code 10 = .ok (.aload_n 0, 1) := by decide +kernel
theorem d_T_takeHeld_11 : decode prog_8_method_6_code 11 = .ok (.getfield 28, 3) := by decide +kernel
theorem d_T_takeHeld_14 : decode prog_8_method_6_code 14 = .ok (.iload_n 2, 1) := by decide +kernel
theorem d_T_takeHeld_15 : decode prog_8_method_6_code 15 = .ok (.aaload, 1) := by decide +kernel
theorem d_T_takeHeld_16 : decode prog_8_method_6_code 16 = .ok (.astore_n 3, 1) := by decide +kernel
theorem d_T_takeHeld_17 : decode prog_8_method_6_code 17 = .ok (.aload_n 3, 1) := by decide +kernel
theorem d_T_takeHeld_18 : decode prog_8_method_6_code 18 = .ok (.ifnull 38, 3) := by decide +kernel
theorem d_T_takeHeld_21 : decode prog_8_method_6_code 21 = .ok (.aload_n 3, 1) := by decide +kernel
theorem d_T_takeHeld_22 : decode prog_8_method_6_code 22 = .ok (.getfield 49, 3) := by decide +kernel
theorem d_T_takeHeld_25 : decode prog_8_method_6_code 25 = .ok (.iload_n 1, 1) := by decide +kernel
theorem d_T_takeHeld_26 : decode prog_8_method_6_code 26 = .ok (.if_icmp .ne 30, 3) := by decide +kernel
theorem d_T_takeHeld_29 : decode prog_8_method_6_code 29 = .ok (.aload_n 0, 1) := by decide +kernel
theorem d_T_takeHeld_30 : decode prog_8_method_6_code 30 = .ok (.dup, 1) := by decide +kernel
theorem d_T_takeHeld_31 : decode prog_8_method_6_code 31 = .ok (.getfield 32, 3) := by decide +kernel
theorem d_T_takeHeld_34 : decode prog_8_method_6_code 34 = .ok (.iconst 1, 1) := by decide +kernel
theorem d_T_takeHeld_35 : decode prog_8_method_6_code 35 = .ok (.isub, 1) := by decide +kernel
theorem d_T_takeHeld_36 : decode prog_8_method_6_code 36 = .ok (.putfield 32, 3) := by decide +kernel
theorem d_T_takeHeld_39 : decode prog_8_method_6_code 39 = .ok (.aload_n 0, 1) := by decide +kernel
theorem d_T_takeHeld_40 : decode prog_8_method_6_code 40 = .ok (.getfield 28, 3) := by decide +kernel
theorem d_T_takeHeld_43 : decode prog_8_method_6_code 43 = .ok (.iload_n 2, 1) := by decide +kernel
theorem d_T_takeHeld_44 : decode prog_8_method_6_code 44 = .ok (.aload_n 0, 1) := by decide +kernel
theorem d_T_takeHeld_45 : decode prog_8_method_6_code 45 = .ok (.getfield 28, 3) := by decide +kernel
theorem d_T_takeHeld_48 : decode prog_8_method_6_code 48 = .ok (.aload_n 0, 1) := by decide +kernel
theorem d_T_takeHeld_49 : decode prog_8_method_6_code 49 = .ok (.getfield 32, 3) := by decide +kernel
theorem d_T_takeHeld_52 : decode prog_8_method_6_code 52 = .ok (.aaload, 1) := by decide +kernel
theorem d_T_takeHeld_53 : decode prog_8_method_6_code 53 = .ok (.aastore, 1) := by decide +kernel
theorem d_T_takeHeld_54 : decode prog_8_method_6_code 54 = .ok (.aload_n 3, 1) := by decide +kernel
theorem d_T_takeHeld_55 : decode prog_8_method_6_code 55 = .ok (.areturn, 1) := by decide +kernel
theorem d_T_takeHeld_56 : decode prog_8_method_6_code 56 = .ok (.iinc 2 1, 3) := by decide +kernel
theorem d_T_takeHeld_59 : decode prog_8_method_6_code 59 = .ok (.goto (-57), 3) := by decide +kernel
theorem d_T_takeHeld_62 : decode prog_8_method_6_code 62 = .ok (.aconst_null, 1) := by decide +kernel
theorem d_T_takeHeld_63 : decode prog_8_method_6_code 63 = .ok (.areturn, 1) := by decide +kernel
theorem d_T_hold_0 : decode prog_8_method_5_code 0 = .ok (.iconst 0, 1) := by decide +kernel
theorem d_T_hold_1 : decode prog_8_method_5_code 1 = .ok (.istore_n 2, 1) := by decide +kernel
theorem d_T_hold_2 : decode prog_8_method_5_code 2 = .ok (.iload_n 2, 1) := by decide +kernel
theorem d_T_hold_3 : decode prog_8_method_5_code 3 = .ok (.aload_n 0, 1) := by decide +kernel
theorem d_T_hold_4 : decode prog_8_method_5_code 4 = .ok (.getfield 32, 3) := by decide +kernel
theorem d_T_hold_7 : decode prog_8_method_5_code 7 = .ok (.if_icmp .ge 35, 3) := by decide +kernel
theorem d_T_hold_10 : decode prog_8_method_5_code 10 = .ok (.aload_n 0, 1) := by decide +kernel
theorem d_T_hold_11 : decode prog_8_method_5_code 11 = .ok (.getfield 28, 3) := by decide +kernel
theorem d_T_hold_14 : decode prog_8_method_5_code 14 = .ok (.iload_n 2, 1) := by decide +kernel
theorem d_T_hold_15 : decode prog_8_method_5_code 15 = .ok (.aaload, 1) := by decide +kernel
theorem d_T_hold_16 : decode prog_8_method_5_code 16 = .ok (.ifnull 20, 3) := by decide +kernel
theorem d_T_hold_19 : decode prog_8_method_5_code 19 = .ok (.aload_n 0, 1) := by decide +kernel
theorem d_T_hold_20 : decode prog_8_method_5_code 20 = .ok (.getfield 28, 3) := by decide +kernel
theorem d_T_hold_23 : decode prog_8_method_5_code 23 = .ok (.iload_n 2, 1) := by decide +kernel
theorem d_T_hold_24 : decode prog_8_method_5_code 24 = .ok (.aaload, 1) := by decide +kernel
theorem d_T_hold_25 : decode prog_8_method_5_code 25 = .ok (.getfield 49, 3) := by decide +kernel
theorem d_T_hold_28 : decode prog_8_method_5_code 28 = .ok (.aload_n 1, 1) := by decide +kernel
theorem d_T_hold_29 : decode prog_8_method_5_code 29 = .ok (.getfield 49, 3) := by decide +kernel
theorem d_T_hold_32 : decode prog_8_method_5_code 32 = .ok (.if_icmp .ne 4, 3) := by decide +kernel
theorem d_T_hold_35 : decode prog_8_method_5_code 35 = .ok (.return_, 1) := by decide +kernel
theorem d_T_hold_36 : decode prog_8_method_5_code 36 = .ok (.iinc 2 1, 3) := by decide +kernel
theorem d_T_hold_39 : decode prog_8_method_5_code 39 = .ok (.goto (-37), 3) := by decide +kernel
theorem d_T_hold_42 : decode prog_8_method_5_code 42 = .ok (.aload_n 0, 1) := by decide +kernel
theorem d_T_hold_43 : decode prog_8_method_5_code 43 = .ok (.getfield 32, 3) := by decide +kernel
theorem d_T_hold_46 : decode prog_8_method_5_code 46 = .ok (.bipush 30, 2) := by decide +kernel
theorem d_T_hold_48 : decode prog_8_method_5_code 48 = .ok (.if_icmp .ge 23, 3) := by decide +kernel
theorem d_T_hold_51 : decode prog_8_method_5_code 51 = .ok (.aload_n 0, 1) := by decide +kernel
theorem d_T_hold_52 : decode prog_8_method_5_code 52 = .ok (.getfield 28, 3) := by decide +kernel
theorem d_T_hold_55 : decode prog_8_method_5_code 55 = .ok (.aload_n 0, 1) := by decide +kernel
theorem d_T_hold_56 : decode prog_8_method_5_code 56 = .ok (.getfield 32, 3) := by decide +kernel
theorem d_T_hold_59 : decode prog_8_method_5_code 59 = .ok (.aload_n 1, 1) := by decide +kernel
theorem d_T_hold_60 : decode prog_8_method_5_code 60 = .ok (.aastore, 1) := by decide +kernel
theorem d_T_hold_61 : decode prog_8_method_5_code 61 = .ok (.aload_n 0, 1) := by decide +kernel
theorem d_T_hold_62 : decode prog_8_method_5_code 62 = .ok (.dup, 1) := by decide +kernel
theorem d_T_hold_63 : decode prog_8_method_5_code 63 = .ok (.getfield 32, 3) := by decide +kernel
theorem d_T_hold_66 : decode prog_8_method_5_code 66 = .ok (.iconst 1, 1) := by decide +kernel
theorem d_T_hold_67 : decode prog_8_method_5_code 67 = .ok (.iadd, 1) := by decide +kernel
theorem d_T_hold_68 : decode prog_8_method_5_code 68 = .ok (.putfield 32, 3) := by decide +kernel
theorem d_T_hold_71 : decode prog_8_method_5_code 71 = .ok (.return_, 1) := by decide +kernel
theorem d_D_askReplay_0 : decode prog_1_method_11_code 0 = .ok (.iload_n 1, 1) := by decide +kernel
theorem d_D_askReplay_1 : decode prog_1_method_11_code 1 = .ok (.invokestatic 59, 3) := by decide +kernel
theorem d_D_askReplay_4 : decode prog_1_method_11_code 4 = .ok (.ifCond .eq 15, 3) := by decide +kernel
theorem d_D_askReplay_7 : decode prog_1_method_11_code 7 = .ok (.aload_n 0, 1) := by decide +kernel
theorem d_D_askReplay_8 : decode prog_1_method_11_code 8 = .ok (.getfield 11, 3) := by decide +kernel
theorem d_D_askReplay_11 : decode prog_1_method_11_code 11 = .ok (.iload_n 1, 1) := by decide +kernel
theorem d_D_askReplay_12 : decode prog_1_method_11_code 12 = .ok (.aaload, 1) := by decide +kernel
theorem d_D_askReplay_13 : decode prog_1_method_11_code 13 = .ok (.invokevirtual 66, 3) := by decide +kernel
theorem d_D_askReplay_16 : decode prog_1_method_11_code 16 = .ok (.goto 5, 3) := by decide +kernel
theorem d_D_askReplay_19 : decode prog_1_method_11_code 19 = .ok (.bipush (-2), 2) := by decide +kernel
theorem d_D_askReplay_21 : decode prog_1_method_11_code 21 = .ok (.ireturn, 1) := by decide +kernel
theorem d_V_ask_0 : decode prog_6_method_3_code 0 = .ok (.aload_n 0, 1) := by decide +kernel
theorem d_V_ask_1 : decode prog_6_method_3_code 1 = .ok (.aload_n 0, 1) := by decide +kernel
theorem d_V_ask_2 : decode prog_6_method_3_code 2 = .ok (.invokevirtual 48, 3) := by decide +kernel
theorem d_V_ask_5 : decode prog_6_method_3_code 5 = .ok (.putfield 28, 3) := by decide +kernel
theorem d_V_ask_8 : decode prog_6_method_3_code 8 = .ok (.iconst 0, 1) := by decide +kernel
theorem d_V_ask_9 : decode prog_6_method_3_code 9 = .ok (.aload_n 0, 1) := by decide +kernel
theorem d_V_ask_10 : decode prog_6_method_3_code 10 = .ok (.getfield 28, 3) := by decide +kernel
theorem d_V_ask_13 : decode prog_6_method_3_code 13 = .ok (.aload_n 0, 1) := by decide +kernel
theorem d_V_ask_14 : decode prog_6_method_3_code 14 = .ok (.getfield 17, 3) := by decide +kernel
theorem d_V_ask_17 : decode prog_6_method_3_code 17 = .ok (.isub, 1) := by decide +kernel
theorem d_V_ask_18 : decode prog_6_method_3_code 18 = .ok (.iconst 1, 1) := by decide +kernel
theorem d_V_ask_19 : decode prog_6_method_3_code 19 = .ok (.iadd, 1) := by decide +kernel
theorem d_V_ask_20 : decode prog_6_method_3_code 20 = .ok (.invokestatic 38, 3) := by decide +kernel
theorem d_V_ask_23 : decode prog_6_method_3_code 23 = .ok (.ireturn, 1) := by decide +kernel
theorem d_V_lastOfGap_0 : decode prog_6_method_5_code 0 = .ok (.aload_n 0, 1) := by decide +kernel
theorem d_V_lastOfGap_1 : decode prog_6_method_5_code 1 = .ok (.getfield 17, 3) := by decide +kernel
theorem d_V_lastOfGap_4 : decode prog_6_method_5_code 4 = .ok (.iconst 1, 1) := by decide +kernel
theorem d_V_lastOfGap_5 : decode prog_6_method_5_code 5 = .ok (.iadd, 1) := by decide +kernel
theorem d_V_lastOfGap_6 : decode prog_6_method_5_code 6 = .ok (.istore_n 1, 1) := by decide +kernel
theorem d_V_lastOfGap_7 : decode prog_6_method_5_code 7 = .ok (.iload_n 1, 1) := by decide +kernel
theorem d_V_lastOfGap_8 : decode prog_6_method_5_code 8 = .ok (.aload_n 0, 1) := by decide +kernel
theorem d_V_lastOfGap_9 : decode prog_6_method_5_code 9 = .ok (.getfield 17, 3) := by decide +kernel
theorem d_V_lastOfGap_12 : decode prog_6_method_5_code 12 = .ok (.bipush 6, 2) := by decide +kernel
theorem d_V_lastOfGap_14 : decode prog_6_method_5_code 14 = .ok (.iadd, 1) := by decide +kernel
theorem d_V_lastOfGap_15 : decode prog_6_method_5_code 15 = .ok (.if_icmp .gt 25, 3) := by decide +kernel
theorem d_V_lastOfGap_18 : decode prog_6_method_5_code 18 = .ok (.aload_n 0, 1) := by decide +kernel
theorem d_V_lastOfGap_19 : decode prog_6_method_5_code 19 = .ok (.getfield 24, 3) := by decide +kernel
theorem d_V_lastOfGap_22 : decode prog_6_method_5_code 22 = .ok (.iload_n 1, 1) := by decide +kernel
theorem d_V_lastOfGap_23 : decode prog_6_method_5_code 23 = .ok (.bipush 7, 2) := by decide +kernel
theorem d_V_lastOfGap_25 : decode prog_6_method_5_code 25 = .ok (.iand, 1) := by decide +kernel
theorem d_V_lastOfGap_26 : decode prog_6_method_5_code 26 = .ok (.baload, 1) := by decide +kernel
theorem d_V_lastOfGap_27 : decode prog_6_method_5_code 27 = .ok (.ifCond .eq 7, 3) := by decide +kernel
theorem d_V_lastOfGap_30 : decode prog_6_method_5_code 30 = .ok (.iload_n 1, 1) := by decide +kernel
theorem d_V_lastOfGap_31 : decode prog_6_method_5_code 31 = .ok (.iconst 1, 1) := by decide +kernel
theorem d_V_lastOfGap_32 : decode prog_6_method_5_code 32 = .ok (.isub, 1) := by decide +kernel
theorem d_V_lastOfGap_33 : decode prog_6_method_5_code 33 = .ok (.ireturn, 1) := by decide +kernel
theorem d_V_lastOfGap_34 : decode prog_6_method_5_code 34 = .ok (.iinc 1 1, 3) := by decide +kernel
theorem d_V_lastOfGap_37 : decode prog_6_method_5_code 37 = .ok (.goto (-30), 3) := by decide +kernel
theorem d_V_lastOfGap_40 : decode prog_6_method_5_code 40 = .ok (.aload_n 0, 1) := by decide +kernel
theorem d_V_lastOfGap_41 : decode prog_6_method_5_code 41 = .ok (.getfield 21, 3) := by decide +kernel
theorem d_V_lastOfGap_44 : decode prog_6_method_5_code 44 = .ok (.ireturn, 1) := by decide +kernel
theorem d_D_serveReplay_0 : decode prog_1_method_12_code 0 = .ok (.iload_n 1, 1) := by decide +kernel
theorem d_D_serveReplay_1 : decode prog_1_method_12_code 1 = .ok (.invokestatic 59, 3) := by decide +kernel
theorem d_D_serveReplay_4 : decode prog_1_method_12_code 4 = .ok (.ifCond .eq 15, 3) := by decide +kernel
theorem d_D_serveReplay_7 : decode prog_1_method_12_code 7 = .ok (.aload_n 0, 1) := by decide +kernel
theorem d_D_serveReplay_8 : decode prog_1_method_12_code 8 = .ok (.getfield 11, 3) := by decide +kernel
theorem d_D_serveReplay_11 : decode prog_1_method_12_code 11 = .ok (.iload_n 1, 1) := by decide +kernel
theorem d_D_serveReplay_12 : decode prog_1_method_12_code 12 = .ok (.aaload, 1) := by decide +kernel
theorem d_D_serveReplay_13 : decode prog_1_method_12_code 13 = .ok (.invokevirtual 69, 3) := by decide +kernel
theorem d_D_serveReplay_16 : decode prog_1_method_12_code 16 = .ok (.goto 5, 3) := by decide +kernel
theorem d_D_serveReplay_19 : decode prog_1_method_12_code 19 = .ok (.bipush (-2), 2) := by decide +kernel
theorem d_D_serveReplay_21 : decode prog_1_method_12_code 21 = .ok (.ireturn, 1) := by decide +kernel
theorem d_V_takeAnswer_0 : decode prog_6_method_4_code 0 = .ok (.aload_n 0, 1) := by decide +kernel
theorem d_V_takeAnswer_1 : decode prog_6_method_4_code 1 = .ok (.getfield 28, 3) := by decide +kernel
theorem d_V_takeAnswer_4 : decode prog_6_method_4_code 4 = .ok (.istore_n 1, 1) := by decide +kernel
theorem d_V_takeAnswer_5 : decode prog_6_method_4_code 5 = .ok (.aload_n 0, 1) := by decide +kernel
theorem d_V_takeAnswer_6 : decode prog_6_method_4_code 6 = .ok (.iconst 0, 1) := by decide +kernel
theorem d_V_takeAnswer_7 : decode prog_6_method_4_code 7 = .ok (.putfield 28, 3) := by decide +kernel
theorem d_V_takeAnswer_10 : decode prog_6_method_4_code 10 = .ok (.iload_n 1, 1) := by decide +kernel
theorem d_V_takeAnswer_11 : decode prog_6_method_4_code 11 = .ok (.aload_n 0, 1) := by decide +kernel
theorem d_V_takeAnswer_12 : decode prog_6_method_4_code 12 = .ok (.getfield 17, 3) := by decide +kernel
theorem d_V_takeAnswer_15 : decode prog_6_method_4_code 15 = .ok (.if_icmp .ge 5, 3) := by decide +kernel
theorem d_V_takeAnswer_18 : decode prog_6_method_4_code 18 = .ok (.iconst 0, 1) := by decide +kernel
theorem d_V_takeAnswer_19 : decode prog_6_method_4_code 19 = .ok (.ireturn, 1) := by decide +kernel
theorem d_V_takeAnswer_20 : decode prog_6_method_4_code 20 = .ok (.aload_n 0, 1) := by decide +kernel
theorem d_V_takeAnswer_21 : decode prog_6_method_4_code 21 = .ok (.getfield 31, 3) := by decide +kernel
theorem d_V_takeAnswer_24 : decode prog_6_method_4_code 24 = .ok (.aload_n 0, 1) := by decide +kernel
theorem d_V_takeAnswer_25 : decode prog_6_method_4_code 25 = .ok (.getfield 17, 3) := by decide +kernel
theorem d_V_takeAnswer_28 : decode prog_6_method_4_code 28 = .ok (.invokevirtual 52, 3) := by decide +kernel
theorem d_V_takeAnswer_31 : decode prog_6_method_4_code 31 = .ok (.ifCond .ne 7, 3) := by decide +kernel
theorem d_V_takeAnswer_34 : decode prog_6_method_4_code 34 = .ok (.iconst 1, 1) := by decide +kernel
theorem d_V_takeAnswer_35 : decode prog_6_method_4_code 35 = .ok (.goto 4, 3) := by decide +kernel
theorem d_V_takeAnswer_38 : decode prog_6_method_4_code 38 = .ok (.iconst 0, 1) := by decide +kernel
theorem d_V_takeAnswer_39 : decode prog_6_method_4_code 39 = .ok (.istore_n 2, 1) := by decide +kernel
theorem d_V_takeAnswer_40 : decode prog_6_method_4_code 40 = .ok (.iload_n 2, 1) := by decide +kernel
theorem d_V_takeAnswer_41 : decode prog_6_method_4_code 41 = .ok (.ifCond .eq 8, 3) := by decide +kernel
theorem d_V_takeAnswer_44 : decode prog_6_method_4_code 44 = .ok (.aload_n 0, 1) := by decide +kernel
theorem d_V_takeAnswer_45 : decode prog_6_method_4_code 45 = .ok (.iload_n 1, 1) := by decide +kernel
theorem d_V_takeAnswer_46 : decode prog_6_method_4_code 46 = .ok (.invokevirtual 58, 3) := by decide +kernel
theorem d_V_takeAnswer_49 : decode prog_6_method_4_code 49 = .ok (.aload_n 0, 1) := by decide +kernel
theorem d_V_takeAnswer_50 : decode prog_6_method_4_code 50 = .ok (.iload_n 1, 1) := by decide +kernel
theorem d_V_takeAnswer_51 : decode prog_6_method_4_code 51 = .ok (.invokevirtual 44, 3) := by decide +kernel
theorem d_V_takeAnswer_54 : decode prog_6_method_4_code 54 = .ok (.iload_n 2, 1) := by decide +kernel
theorem d_V_takeAnswer_55 : decode prog_6_method_4_code 55 = .ok (.ifCond .eq 7, 3) := by decide +kernel
theorem d_V_takeAnswer_58 : decode prog_6_method_4_code 58 = .ok (.iconst 2, 1) := by decide +kernel
theorem d_V_takeAnswer_59 : decode prog_6_method_4_code 59 = .ok (.goto 4, 3) := by decide +kernel
theorem d_V_takeAnswer_62 : decode prog_6_method_4_code 62 = .ok (.iconst 1, 1) := by decide +kernel
theorem d_V_takeAnswer_63 : decode prog_6_method_4_code 63 = .ok (.ireturn, 1) := by decide +kernel
theorem d_P_canReplayFrom_0 : decode prog_4_method_7_code 0 = .ok (.aload_n 0, 1) := by decide +kernel
theorem d_P_canReplayFrom_1 : decode prog_4_method_7_code 1 = .ok (.iload_n 1, 1) := by decide +kernel
theorem d_P_canReplayFrom_2 : decode prog_4_method_7_code 2 = .ok (.invokevirtual 62, 3) := by decide +kernel
theorem d_P_canReplayFrom_5 : decode prog_4_method_7_code 5 = .ok (.aload_n 0, 1) := by decide +kernel
theorem d_P_canReplayFrom_6 : decode prog_4_method_7_code 6 = .ok (.aload_n 0, 1) := by decide +kernel
theorem d_P_canReplayFrom_7 : decode prog_4_method_7_code 7 = .ok (.getfield 31, 3) := by decide +kernel
theorem d_P_canReplayFrom_10 : decode prog_4_method_7_code 10 = .ok (.invokevirtual 66, 3) := by decide +kernel
theorem d_P_canReplayFrom_13 : decode prog_4_method_7_code 13 = .ok (.bipush 40, 2) := by decide +kernel
theorem d_P_canReplayFrom_15 : decode prog_4_method_7_code 15 = .ok (.isub, 1) := by decide +kernel
theorem d_P_canReplayFrom_16 : decode prog_4_method_7_code 16 = .ok (.if_icmp .lt 7, 3) := by decide +kernel
theorem d_P_canReplayFrom_19 : decode prog_4_method_7_code 19 = .ok (.iconst 1, 1) := by decide +kernel
theorem d_P_canReplayFrom_20 : decode prog_4_method_7_code 20 = .ok (.goto 4, 3) := by decide +kernel
theorem d_P_canReplayFrom_23 : decode prog_4_method_7_code 23 = .ok (.iconst 0, 1) := by decide +kernel
theorem d_P_canReplayFrom_24 : decode prog_4_method_7_code 24 = .ok (.ireturn, 1) := by decide +kernel
theorem d_V_giveUp_0 : decode prog_6_method_7_code 0 = .ok (.aload_n 0, 1) := by decide +kernel
theorem d_V_giveUp_1 : decode prog_6_method_7_code 1 = .ok (.getfield 17, 3) := by decide +kernel
theorem d_V_giveUp_4 : decode prog_6_method_7_code 4 = .ok (.istore_n 2, 1) := by decide +kernel
theorem d_V_giveUp_5 : decode prog_6_method_7_code 5 = .ok (.iload_n 2, 1) := by decide +kernel
theorem d_V_giveUp_6 : decode prog_6_method_7_code 6 = .ok (.iload_n 1, 1) := by decide +kernel
theorem d_V_giveUp_7 : decode prog_6_method_7_code 7 = .ok (.if_icmp .gt 30, 3) := by decide +kernel
theorem d_V_giveUp_10 : decode prog_6_method_7_code 10 = .ok (.iload_n 2, 1) := by decide +kernel
theorem d_V_giveUp_11 : decode prog_6_method_7_code 11 = .ok (.aload_n 0, 1) := by decide +kernel
theorem d_V_giveUp_12 : decode prog_6_method_7_code 12 = .ok (.getfield 17, 3) := by decide +kernel
theorem d_V_giveUp_15 : decode prog_6_method_7_code 15 = .ok (.bipush 6, 2) := by decide +kernel
theorem d_V_giveUp_17 : decode prog_6_method_7_code 17 = .ok (.iadd, 1) := by decide +kernel
theorem d_V_giveUp_18 : decode prog_6_method_7_code 18 = .ok (.if_icmp .gt 19, 3) := by decide +kernel
theorem d_V_giveUp_21 : decode prog_6_method_7_code 21 = .ok (.aload_n 0, 1) := by decide +kernel
theorem d_V_giveUp_22 : decode prog_6_method_7_code 22 = .ok (.getfield 24, 3) := by decide +kernel
theorem d_V_giveUp_25 : decode prog_6_method_7_code 25 = .ok (.iload_n 2, 1) := by decide +kernel
theorem d_V_giveUp_26 : decode prog_6_method_7_code 26 = .ok (.bipush 7, 2) := by decide +kernel
theorem d_V_giveUp_28 : decode prog_6_method_7_code 28 = .ok (.iand, 1) := by decide +kernel
theorem d_V_giveUp_29 : decode prog_6_method_7_code 29 = .ok (.iconst 0, 1) := by decide +kernel
theorem d_V_giveUp_30 : decode prog_6_method_7_code 30 = .ok (.bastore, 1) := by decide +kernel
theorem d_V_giveUp_31 : decode prog_6_method_7_code 31 = .ok (.iinc 2 1, 3) := by decide +kernel
theorem d_V_giveUp_34 : decode prog_6_method_7_code 34 = .ok (.goto (-29), 3) := by decide +kernel
theorem d_V_giveUp_37 : decode prog_6_method_7_code 37 = .ok (.iconst 0, 1) := by decide +kernel
theorem d_V_giveUp_38 : decode prog_6_method_7_code 38 = .ok (.istore_n 2, 1) := by decide +kernel
theorem d_V_giveUp_39 : decode prog_6_method_7_code 39 = .ok (.iload_n 2, 1) := by decide +kernel
theorem d_V_giveUp_40 : decode prog_6_method_7_code 40 = .ok (.iconst 4, 1) := by decide +kernel
theorem d_V_giveUp_41 : decode prog_6_method_7_code 41 = .ok (.if_icmp .ge 19, 3) := by decide +kernel
theorem d_V_giveUp_44 : decode prog_6_method_7_code 44 = .ok (.aload_n 0, 1) := by decide +kernel
theorem d_V_giveUp_45 : decode prog_6_method_7_code 45 = .ok (.getfield 11, 3) := by decide +kernel
theorem d_V_giveUp_48 : decode prog_6_method_7_code 48 = .ok (.iload_n 2, 1) := by decide +kernel
theorem d_V_giveUp_49 : decode prog_6_method_7_code 49 = .ok (.aaload, 1) := by decide +kernel
theorem d_V_giveUp_50 : decode prog_6_method_7_code 50 = .ok (.iload_n 1, 1) := by decide +kernel
theorem d_V_giveUp_51 : decode prog_6_method_7_code 51 = .ok (.putfield 84, 3) := by decide +kernel
theorem d_V_giveUp_54 : decode prog_6_method_7_code 54 = .ok (.iinc 2 1, 3) := by decide +kernel
theorem d_V_giveUp_57 : decode prog_6_method_7_code 57 = .ok (.goto (-18), 3) := by decide +kernel
theorem d_V_giveUp_60 : decode prog_6_method_7_code 60 = .ok (.aload_n 0, 1) := by decide +kernel
theorem d_V_giveUp_61 : decode prog_6_method_7_code 61 = .ok (.iload_n 1, 1) := by decide +kernel
theorem d_V_giveUp_62 : decode prog_6_method_7_code 62 = .ok (.iconst 1, 1) := by decide +kernel
theorem d_V_giveUp_63 : decode prog_6_method_7_code 63 = .ok (.iadd, 1) := by decide +kernel
theorem d_V_giveUp_64 : decode prog_6_method_7_code 64 = .ok (.putfield 17, 3) := by decide +kernel
theorem d_V_giveUp_67 : decode prog_6_method_7_code 67 = .ok (.return_, 1) := by decide +kernel
theorem d_D_snapshotTurn_0 : decode prog_1_method_13_code 0 = .ok (.aload_n 0, 1) := by decide +kernel
theorem d_D_snapshotTurn_1 : decode prog_1_method_13_code 1 = .ok (.getfield 24, 3) := by decide +kernel
theorem d_D_snapshotTurn_4 : decode prog_1_method_13_code 4 = .ok (.invokevirtual 72, 3) := by decide +kernel
theorem d_D_snapshotTurn_7 : decode prog_1_method_13_code 7 = .ok (.ireturn, 1) := by decide +kernel
theorem d_P_makeSnapshot_0 : decode prog_4_method_9_code 0 = .ok (.aload_n 0, 1) := by decide +kernel
theorem d_P_makeSnapshot_1 : decode prog_4_method_9_code 1 = .ok (.getfield 40, 3) := by decide +kernel
theorem d_P_makeSnapshot_4 : decode prog_4_method_9_code 4 = .ok (.iconst 3, 1) := by decide +kernel
theorem d_P_makeSnapshot_5 : decode prog_4_method_9_code 5 = .ok (.iand, 1) := by decide +kernel
theorem d_P_makeSnapshot_6 : decode prog_4_method_9_code 6 = .ok (.istore_n 1, 1) := by decide +kernel
theorem d_P_makeSnapshot_7 : decode prog_4_method_9_code 7 = .ok (.aload_n 0, 1) := by decide +kernel
theorem d_P_makeSnapshot_8 : decode prog_4_method_9_code 8 = .ok (.dup, 1) := by decide +kernel
theorem d_P_makeSnapshot_9 : decode prog_4_method_9_code 9 = .ok (.getfield 40, 3) := by decide +kernel
theorem d_P_makeSnapshot_12 : decode prog_4_method_9_code 12 = .ok (.iconst 1, 1) := by decide +kernel
theorem d_P_makeSnapshot_13 : decode prog_4_method_9_code 13 = .ok (.iadd, 1) := by decide +kernel
theorem d_P_makeSnapshot_14 : decode prog_4_method_9_code 14 = .ok (.putfield 40, 3) := by decide +kernel
theorem d_P_makeSnapshot_17 : decode prog_4_method_9_code 17 = .ok (.aload_n 0, 1) := by decide +kernel
theorem d_P_makeSnapshot_18 : decode prog_4_method_9_code 18 = .ok (.aload_n 0, 1) := by decide +kernel
theorem d_P_makeSnapshot_19 : decode prog_4_method_9_code 19 = .ok (.getfield 40, 3) := by decide +kernel
theorem d_P_makeSnapshot_22 : decode prog_4_method_9_code 22 = .ok (.invokevirtual 80, 3) := by decide +kernel
theorem d_P_makeSnapshot_25 : decode prog_4_method_9_code 25 = .ok (.iload_n 1, 1) := by decide +kernel
theorem d_P_makeSnapshot_26 : decode prog_4_method_9_code 26 = .ok (.aload_n 0, 1) := by decide +kernel
theorem d_P_makeSnapshot_27 : decode prog_4_method_9_code 27 = .ok (.getfield 11, 3) := by decide +kernel
theorem d_P_makeSnapshot_30 : decode prog_4_method_9_code 30 = .ok (.iload_n 1, 1) := by decide +kernel
theorem d_P_makeSnapshot_31 : decode prog_4_method_9_code 31 = .ok (.aaload, 1) := by decide +kernel
theorem d_P_makeSnapshot_32 : decode prog_4_method_9_code 32 = .ok (.aload_n 0, 1) := by decide +kernel
theorem d_P_makeSnapshot_33 : decode prog_4_method_9_code 33 = .ok (.getfield 31, 3) := by decide +kernel
theorem d_P_makeSnapshot_36 : decode prog_4_method_9_code 36 = .ok (.invokevirtual 84, 3) := by decide +kernel
theorem d_P_makeSnapshot_39 : decode prog_4_method_9_code 39 = .ok (.aload_n 0, 1) := by decide +kernel
theorem d_P_makeSnapshot_40 : decode prog_4_method_9_code 40 = .ok (.getfield 40, 3) := by decide +kernel
theorem d_P_makeSnapshot_43 : decode prog_4_method_9_code 43 = .ok (.ireturn, 1) := by decide +kernel
theorem d_P_snapshot_0 : decode prog_4_method_11_code 0 = .ok (.aload_n 0, 1) := by decide +kernel
theorem d_P_snapshot_1 : decode prog_4_method_11_code 1 = .ok (.getfield 36, 3) := by decide +kernel
theorem d_P_snapshot_4 : decode prog_4_method_11_code 4 = .ok (.iload_n 1, 1) := by decide +kernel
theorem d_P_snapshot_5 : decode prog_4_method_11_code 5 = .ok (.bipush 7, 2) := by decide +kernel
theorem d_P_snapshot_7 : decode prog_4_method_11_code 7 = .ok (.iand, 1) := by decide +kernel
theorem d_P_snapshot_8 : decode prog_4_method_11_code 8 = .ok (.aaload, 1) := by decide +kernel
theorem d_P_snapshot_9 : decode prog_4_method_11_code 9 = .ok (.areturn, 1) := by decide +kernel
theorem d_S_fix_0 : decode prog_7_method_2_code 0 = .ok (.aload_n 0, 1) := by decide +kernel
theorem d_S_fix_1 : decode prog_7_method_2_code 1 = .ok (.iload_n 1, 1) := by decide +kernel
theorem d_S_fix_2 : decode prog_7_method_2_code 2 = .ok (.putfield 18, 3) := by decide +kernel
theorem d_S_fix_5 : decode prog_7_method_2_code 5 = .ok (.aload_n 0, 1) := by decide +kernel
theorem d_S_fix_6 : decode prog_7_method_2_code 6 = .ok (.getfield 12, 3) := by decide +kernel
theorem d_S_fix_9 : decode prog_7_method_2_code 9 = .ok (.aload_n 2, 1) := by decide +kernel
theorem d_S_fix_10 : decode prog_7_method_2_code 10 = .ok (.invokevirtual 25, 3) := by decide +kernel
theorem d_S_fix_13 : decode prog_7_method_2_code 13 = .ok (.aload_n 0, 1) := by decide +kernel
theorem d_S_fix_14 : decode prog_7_method_2_code 14 = .ok (.iload_n 3, 1) := by decide +kernel
theorem d_S_fix_15 : decode prog_7_method_2_code 15 = .ok (.putfield 22, 3) := by decide +kernel
theorem d_S_fix_18 : decode prog_7_method_2_code 18 = .ok (.return_, 1) := by decide +kernel
theorem d_B_become_0 : decode prog_2_method_8_code 0 = .ok (.aload_n 1, 1) := by decide +kernel
theorem d_B_become_1 : decode prog_2_method_8_code 1 = .ok (.getfield 9, 3) := by decide +kernel
theorem d_B_become_4 : decode prog_2_method_8_code 4 = .ok (.iconst 0, 1) := by decide +kernel
theorem d_B_become_5 : decode prog_2_method_8_code 5 = .ok (.aload_n 0, 1) := by decide +kernel
theorem d_B_become_6 : decode prog_2_method_8_code 6 = .ok (.getfield 9, 3) := by decide +kernel
theorem d_B_become_9 : decode prog_2_method_8_code 9 = .ok (.iconst 0, 1) := by decide +kernel
theorem d_B_become_10 : decode prog_2_method_8_code 10 = .ok (.aload_n 1, 1) := by decide +kernel
theorem d_B_become_11 : decode prog_2_method_8_code 11 = .ok (.getfield 25, 3) := by decide +kernel
theorem d_B_become_14 : decode prog_2_method_8_code 14 = .ok (.invokestatic 74, 3) := by decide +kernel
theorem d_B_become_17 : decode prog_2_method_8_code 17 = .ok (.aload_n 1, 1) := by decide +kernel
theorem d_B_become_18 : decode prog_2_method_8_code 18 = .ok (.getfield 15, 3) := by decide +kernel
theorem d_B_become_21 : decode prog_2_method_8_code 21 = .ok (.iconst 0, 1) := by decide +kernel
theorem d_B_become_22 : decode prog_2_method_8_code 22 = .ok (.aload_n 0, 1) := by decide +kernel
theorem d_B_become_23 : decode prog_2_method_8_code 23 = .ok (.getfield 15, 3) := by decide +kernel
theorem d_B_become_26 : decode prog_2_method_8_code 26 = .ok (.iconst 0, 1) := by decide +kernel
theorem d_B_become_27 : decode prog_2_method_8_code 27 = .ok (.aload_n 1, 1) := by decide +kernel
theorem d_B_become_28 : decode prog_2_method_8_code 28 = .ok (.getfield 25, 3) := by decide +kernel
theorem d_B_become_31 : decode prog_2_method_8_code 31 = .ok (.invokestatic 74, 3) := by decide +kernel
theorem d_B_become_34 : decode prog_2_method_8_code 34 = .ok (.aload_n 1, 1) := by decide +kernel
theorem d_B_become_35 : decode prog_2_method_8_code 35 = .ok (.getfield 18, 3) := by decide +kernel
theorem d_B_become_38 : decode prog_2_method_8_code 38 = .ok (.iconst 0, 1) := by decide +kernel
theorem d_B_become_39 : decode prog_2_method_8_code 39 = .ok (.aload_n 0, 1) := by decide +kernel
theorem d_B_become_40 : decode prog_2_method_8_code 40 = .ok (.getfield 18, 3) := by decide +kernel
theorem d_B_become_43 : decode prog_2_method_8_code 43 = .ok (.iconst 0, 1) := by decide +kernel
theorem d_B_become_44 : decode prog_2_method_8_code 44 = .ok (.aload_n 1, 1) := by decide +kernel
theorem d_B_become_45 : decode prog_2_method_8_code 45 = .ok (.getfield 25, 3) := by decide +kernel
theorem d_B_become_48 : decode prog_2_method_8_code 48 = .ok (.invokestatic 74, 3) := by decide +kernel
theorem d_B_become_51 : decode prog_2_method_8_code 51 = .ok (.aload_n 0, 1) := by decide +kernel
theorem d_B_become_52 : decode prog_2_method_8_code 52 = .ok (.aload_n 1, 1) := by decide +kernel
theorem d_B_become_53 : decode prog_2_method_8_code 53 = .ok (.getfield 21, 3) := by decide +kernel
theorem d_B_become_56 : decode prog_2_method_8_code 56 = .ok (.putfield 21, 3) := by decide +kernel
theorem d_B_become_59 : decode prog_2_method_8_code 59 = .ok (.aload_n 0, 1) := by decide +kernel
theorem d_B_become_60 : decode prog_2_method_8_code 60 = .ok (.aload_n 1, 1) := by decide +kernel
theorem d_B_become_61 : decode prog_2_method_8_code 61 = .ok (.getfield 25, 3) := by decide +kernel
theorem d_B_become_64 : decode prog_2_method_8_code 64 = .ok (.putfield 25, 3) := by decide +kernel
theorem d_B_become_67 : decode prog_2_method_8_code 67 = .ok (.aload_n 0, 1) := by decide +kernel
theorem d_B_become_68 : decode prog_2_method_8_code 68 = .ok (.aload_n 1, 1) := by decide +kernel
theorem d_B_become_69 : decode prog_2_method_8_code 69 = .ok (.getfield 28, 3) := by decide +kernel
theorem d_B_become_72 : decode prog_2_method_8_code 72 = .ok (.putfield 28, 3) := by decide +kernel
theorem d_B_become_75 : decode prog_2_method_8_code 75 = .ok (.aload_n 0, 1) := by decide +kernel
theorem d_B_become_76 : decode prog_2_method_8_code 76 = .ok (.aload_n 1, 1) := by decide +kernel
theorem d_B_become_77 : decode prog_2_method_8_code 77 = .ok (.getfield 32, 3) := by decide +kernel
theorem d_B_become_80 : decode prog_2_method_8_code 80 = .ok (.putfield 32, 3) := by decide +kernel
theorem d_B_become_83 : decode prog_2_method_8_code 83 = .ok (.return_, 1) := by decide +kernel
theorem d_D_hearSnapshot_0 : decode prog_1_method_14_code 0 = .ok (.aload_n 0, 1) := by decide +kernel
theorem d_D_hearSnapshot_1 : decode prog_1_method_14_code 1 = .ok (.getfield 24, 3) := by decide +kernel
theorem d_D_hearSnapshot_4 : decode prog_1_method_14_code 4 = .ok (.iload_n 1, 1) := by decide +kernel
theorem d_D_hearSnapshot_5 : decode prog_1_method_14_code 5 = .ok (.invokevirtual 75, 3) := by decide +kernel
theorem d_D_hearSnapshot_8 : decode prog_1_method_14_code 8 = .ok (.ifCond .eq 10, 3) := by decide +kernel
theorem d_D_hearSnapshot_11 : decode prog_1_method_14_code 11 = .ok (.iload_n 2, 1) := by decide +kernel
theorem d_D_hearSnapshot_12 : decode prog_1_method_14_code 12 = .ok (.invokestatic 59, 3) := by decide +kernel
theorem d_D_hearSnapshot_15 : decode prog_1_method_14_code 15 = .ok (.ifCond .ne 6, 3) := by decide +kernel
theorem d_D_hearSnapshot_18 : decode prog_1_method_14_code 18 = .ok (.bipush (-2), 2) := by decide +kernel
theorem d_D_hearSnapshot_20 : decode prog_1_method_14_code 20 = .ok (.ireturn, 1) := by decide +kernel
theorem d_D_hearSnapshot_21 : decode prog_1_method_14_code 21 = .ok (.aload_n 0, 1) := by decide +kernel
theorem d_D_hearSnapshot_22 : decode prog_1_method_14_code 22 = .ok (.getfield 24, 3) := by decide +kernel
theorem d_D_hearSnapshot_25 : decode prog_1_method_14_code 25 = .ok (.iload_n 1, 1) := by decide +kernel
theorem d_D_hearSnapshot_26 : decode prog_1_method_14_code 26 = .ok (.invokevirtual 78, 3) := by decide +kernel
theorem d_D_hearSnapshot_29 : decode prog_1_method_14_code 29 = .ok (.astore 4, 2) := by decide +kernel
theorem d_D_hearSnapshot_31 : decode prog_1_method_14_code 31 = .ok (.aload 4, 2) := by decide +kernel
theorem d_D_hearSnapshot_33 : decode prog_1_method_14_code 33 = .ok (.iload_n 3, 1) := by decide +kernel
theorem d_D_hearSnapshot_34 : decode prog_1_method_14_code 34 = .ok (.invokevirtual 82, 3) := by decide +kernel
theorem d_D_hearSnapshot_37 : decode prog_1_method_14_code 37 = .ok (.ifCond .eq 5, 3) := by decide +kernel
theorem d_D_hearSnapshot_40 : decode prog_1_method_14_code 40 = .ok (.iconst 0, 1) := by decide +kernel
theorem d_D_hearSnapshot_41 : decode prog_1_method_14_code 41 = .ok (.ireturn, 1) := by decide +kernel
theorem d_D_hearSnapshot_42 : decode prog_1_method_14_code 42 = .ok (.aload_n 0, 1) := by decide +kernel
theorem d_D_hearSnapshot_43 : decode prog_1_method_14_code 43 = .ok (.getfield 11, 3) := by decide +kernel
theorem d_D_hearSnapshot_46 : decode prog_1_method_14_code 46 = .ok (.iload_n 2, 1) := by decide +kernel
theorem d_D_hearSnapshot_47 : decode prog_1_method_14_code 47 = .ok (.aaload, 1) := by decide +kernel
theorem d_D_hearSnapshot_48 : decode prog_1_method_14_code 48 = .ok (.getfield 87, 3) := by decide +kernel
theorem d_D_hearSnapshot_51 : decode prog_1_method_14_code 51 = .ok (.aload 4, 2) := by decide +kernel
theorem d_D_hearSnapshot_53 : decode prog_1_method_14_code 53 = .ok (.getfield 91, 3) := by decide +kernel
theorem d_D_hearSnapshot_56 : decode prog_1_method_14_code 56 = .ok (.aaload, 1) := by decide +kernel
theorem d_D_hearSnapshot_57 : decode prog_1_method_14_code 57 = .ok (.aload 4, 2) := by decide +kernel
theorem d_D_hearSnapshot_59 : decode prog_1_method_14_code 59 = .ok (.invokevirtual 95, 3) := by decide +kernel
theorem d_D_hearSnapshot_62 : decode prog_1_method_14_code 62 = .ok (.ireturn, 1) := by decide +kernel
theorem d_P_canHear_0 : decode prog_4_method_10_code 0 = .ok (.iload_n 1, 1) := by decide +kernel
theorem d_P_canHear_1 : decode prog_4_method_10_code 1 = .ok (.iconst 1, 1) := by decide +kernel
theorem d_P_canHear_2 : decode prog_4_method_10_code 2 = .ok (.if_icmp .lt 26, 3) := by decide +kernel
theorem d_P_canHear_5 : decode prog_4_method_10_code 5 = .ok (.iload_n 1, 1) := by decide +kernel
theorem d_P_canHear_6 : decode prog_4_method_10_code 6 = .ok (.aload_n 0, 1) := by decide +kernel
theorem d_P_canHear_7 : decode prog_4_method_10_code 7 = .ok (.getfield 40, 3) := by decide +kernel
theorem d_P_canHear_10 : decode prog_4_method_10_code 10 = .ok (.if_icmp .gt 18, 3) := by decide +kernel
theorem d_P_canHear_13 : decode prog_4_method_10_code 13 = .ok (.iload_n 1, 1) := by decide +kernel
theorem d_P_canHear_14 : decode prog_4_method_10_code 14 = .ok (.aload_n 0, 1) := by decide +kernel
theorem d_P_canHear_15 : decode prog_4_method_10_code 15 = .ok (.getfield 40, 3) := by decide +kernel
theorem d_P_canHear_18 : decode prog_4_method_10_code 18 = .ok (.bipush 8, 2) := by decide +kernel
theorem d_P_canHear_20 : decode prog_4_method_10_code 20 = .ok (.isub, 1) := by decide +kernel
theorem d_P_canHear_21 : decode prog_4_method_10_code 21 = .ok (.if_icmp .le 7, 3) := by decide +kernel
theorem d_P_canHear_24 : decode prog_4_method_10_code 24 = .ok (.iconst 1, 1) := by decide +kernel
theorem d_P_canHear_25 : decode prog_4_method_10_code 25 = .ok (.goto 4, 3) := by decide +kernel
theorem d_P_canHear_28 : decode prog_4_method_10_code 28 = .ok (.iconst 0, 1) := by decide +kernel
theorem d_P_canHear_29 : decode prog_4_method_10_code 29 = .ok (.ireturn, 1) := by decide +kernel
theorem d_S_hasPiece_0 : decode prog_7_method_3_code 0 = .ok (.aload_n 0, 1) := by decide +kernel
theorem d_S_hasPiece_1 : decode prog_7_method_3_code 1 = .ok (.getfield 12, 3) := by decide +kernel
theorem d_S_hasPiece_4 : decode prog_7_method_3_code 4 = .ok (.getfield 29, 3) := by decide +kernel
theorem d_S_hasPiece_7 : decode prog_7_method_3_code 7 = .ok (.iconst 3, 1) := by decide +kernel
theorem d_S_hasPiece_8 : decode prog_7_method_3_code 8 = .ok (.iadd, 1) := by decide +kernel
theorem d_S_hasPiece_9 : decode prog_7_method_3_code 9 = .ok (.iconst 1, 1) := by decide +kernel
theorem d_S_hasPiece_10 : decode prog_7_method_3_code 10 = .ok (.isub, 1) := by decide +kernel
theorem d_S_hasPiece_11 : decode prog_7_method_3_code 11 = .ok (.iconst 3, 1) := by decide +kernel
theorem d_S_hasPiece_12 : decode prog_7_method_3_code 12 = .ok (.idiv, 1) := by decide +kernel
theorem d_S_hasPiece_13 : decode prog_7_method_3_code 13 = .ok (.istore_n 2, 1) := by decide +kernel
theorem d_S_hasPiece_14 : decode prog_7_method_3_code 14 = .ok (.iload_n 1, 1) := by decide +kernel
theorem d_S_hasPiece_15 : decode prog_7_method_3_code 15 = .ok (.iconst 1, 1) := by decide +kernel
theorem d_S_hasPiece_16 : decode prog_7_method_3_code 16 = .ok (.if_icmp .lt 16, 3) := by decide +kernel
theorem d_S_hasPiece_19 : decode prog_7_method_3_code 19 = .ok (.iload_n 1, 1) := by decide +kernel
theorem d_S_hasPiece_20 : decode prog_7_method_3_code 20 = .ok (.iconst 1, 1) := by decide +kernel
theorem d_S_hasPiece_21 : decode prog_7_method_3_code 21 = .ok (.iload_n 2, 1) := by decide +kernel
theorem d_S_hasPiece_22 : decode prog_7_method_3_code 22 = .ok (.invokestatic 32, 3) := by decide +kernel
theorem d_S_hasPiece_25 : decode prog_7_method_3_code 25 = .ok (.if_icmp .gt 7, 3) := by decide +kernel
theorem d_S_hasPiece_28 : decode prog_7_method_3_code 28 = .ok (.iconst 1, 1) := by decide +kernel
theorem d_S_hasPiece_29 : decode prog_7_method_3_code 29 = .ok (.goto 4, 3) := by decide +kernel
theorem d_S_hasPiece_32 : decode prog_7_method_3_code 32 = .ok (.iconst 0, 1) := by decide +kernel
theorem d_S_hasPiece_33 : decode prog_7_method_3_code 33 = .ok (.ireturn, 1) := by decide +kernel
end
section
/-! the instructions (by program, from the listing) -/
theorem d_T_restore_0 : decode prog_8_method_3_code 0 = .ok (.aload_n 1, 1) := by decide +kernel
theorem d_T_restore_1 : decode prog_8_method_3_code 1 = .ok (.getfield 62, 3) := by decide +kernel
theorem d_T_restore_4 : decode prog_8_method_3_code 4 = .ok (.getfield 46, 3) := by decide +kernel
theorem d_T_restore_7 : decode prog_8_method_3_code 7 = .ok (.aload_n 0, 1) := by decide +kernel
theorem d_T_restore_8 : decode prog_8_method_3_code 8 = .ok (.getfield 12, 3) := by decide +kernel
theorem d_T_restore_11 : decode prog_8_method_3_code 11 = .ok (.getfield 46, 3) := by decide +kernel
theorem d_T_restore_14 : decode prog_8_method_3_code 14 = .ok (.if_icmp .le 7, 3) := by decide +kernel
theorem d_T_restore_17 : decode prog_8_method_3_code 17 = .ok (.iconst 1, 1) := by decide +kernel
theorem d_T_restore_18 : decode prog_8_method_3_code 18 = .ok (.goto 4, 3) := by decide +kernel
theorem d_T_restore_21 : decode prog_8_method_3_code 21 = .ok (.iconst 0, 1) := by decide +kernel
theorem d_T_restore_22 : decode prog_8_method_3_code 22 = .ok (.istore_n 2, 1) := by decide +kernel
theorem d_T_restore_23 : decode prog_8_method_3_code 23 = .ok (.aload_n 0, 1) := by decide +kernel
theorem d_T_restore_24 : decode prog_8_method_3_code 24 = .ok (.getfield 36, 3) := by decide +kernel
theorem d_T_restore_27 : decode prog_8_method_3_code 27 = .ok (.ifCond .le 18, 3) := by decide +kernel
theorem d_T_restore_30 : decode prog_8_method_3_code 30 = .ok (.aload_n 1, 1) := by decide +kernel
theorem d_T_restore_31 : decode prog_8_method_3_code 31 = .ok (.getfield 65, 3) := by decide +kernel
theorem d_T_restore_34 : decode prog_8_method_3_code 34 = .ok (.aload_n 0, 1) := by decide +kernel
theorem d_T_restore_35 : decode prog_8_method_3_code 35 = .ok (.getfield 36, 3) := by decide +kernel
theorem d_T_restore_38 : decode prog_8_method_3_code 38 = .ok (.if_icmp .lt 7, 3) := by decide +kernel
theorem d_T_restore_41 : decode prog_8_method_3_code 41 = .ok (.iconst 1, 1) := by decide +kernel
theorem d_T_restore_42 : decode prog_8_method_3_code 42 = .ok (.goto 4, 3) := by decide +kernel
theorem d_T_restore_45 : decode prog_8_method_3_code 45 = .ok (.iconst 0, 1) := by decide +kernel
theorem d_T_restore_46 : decode prog_8_method_3_code 46 = .ok (.istore_n 3, 1) := by decide +kernel
theorem d_T_restore_47 : decode prog_8_method_3_code 47 = .ok (.iload_n 3, 1) := by decide +kernel
theorem d_T_restore_48 : decode prog_8_method_3_code 48 = .ok (.ifCond .eq 8, 3) := by decide +kernel
theorem d_T_restore_51 : decode prog_8_method_3_code 51 = .ok (.aload_n 0, 1) := by decide +kernel
theorem d_T_restore_52 : decode prog_8_method_3_code 52 = .ok (.iconst 0, 1) := by decide +kernel
theorem d_T_restore_53 : decode prog_8_method_3_code 53 = .ok (.putfield 36, 3) := by decide +kernel
theorem d_T_restore_56 : decode prog_8_method_3_code 56 = .ok (.iload_n 2, 1) := by decide +kernel
theorem d_T_restore_57 : decode prog_8_method_3_code 57 = .ok (.ifCond .eq 22, 3) := by decide +kernel
theorem d_T_restore_60 : decode prog_8_method_3_code 60 = .ok (.aload_n 0, 1) := by decide +kernel
theorem d_T_restore_61 : decode prog_8_method_3_code 61 = .ok (.getfield 12, 3) := by decide +kernel
theorem d_T_restore_64 : decode prog_8_method_3_code 64 = .ok (.aload_n 1, 1) := by decide +kernel
theorem d_T_restore_65 : decode prog_8_method_3_code 65 = .ok (.getfield 62, 3) := by decide +kernel
theorem d_T_restore_68 : decode prog_8_method_3_code 68 = .ok (.invokevirtual 68, 3) := by decide +kernel
theorem d_T_restore_71 : decode prog_8_method_3_code 71 = .ok (.aload_n 0, 1) := by decide +kernel
theorem d_T_restore_72 : decode prog_8_method_3_code 72 = .ok (.invokevirtual 72, 3) := by decide +kernel
theorem d_T_restore_75 : decode prog_8_method_3_code 75 = .ok (.aload_n 0, 1) := by decide +kernel
theorem d_T_restore_76 : decode prog_8_method_3_code 76 = .ok (.invokevirtual 56, 3) := by decide +kernel
theorem d_T_restore_79 : decode prog_8_method_3_code 79 = .ok (.iload_n 2, 1) := by decide +kernel
theorem d_T_restore_80 : decode prog_8_method_3_code 80 = .ok (.ifCond .eq 7, 3) := by decide +kernel
theorem d_T_restore_83 : decode prog_8_method_3_code 83 = .ok (.iconst 1, 1) := by decide +kernel
theorem d_T_restore_84 : decode prog_8_method_3_code 84 = .ok (.goto 12, 3) := by decide +kernel
theorem d_T_restore_87 : decode prog_8_method_3_code 87 = .ok (.iload_n 3, 1) := by decide +kernel
theorem d_T_restore_88 : decode prog_8_method_3_code 88 = .ok (.ifCond .eq 7, 3) := by decide +kernel
theorem d_T_restore_91 : decode prog_8_method_3_code 91 = .ok (.iconst 2, 1) := by decide +kernel
theorem d_T_restore_92 : decode prog_8_method_3_code 92 = .ok (.goto 4, 3) := by decide +kernel
theorem d_T_restore_95 : decode prog_8_method_3_code 95 = .ok (.iconst 0, 1) := by decide +kernel
theorem d_T_restore_96 : decode prog_8_method_3_code 96 = .ok (.ireturn, 1) := by decide +kernel
theorem d_T_forgetOldHeld_0 : decode prog_8_method_7_code 0 = .ok (.iconst 0, 1) := by decide +kernel
theorem d_T_forgetOldHeld_1 : decode prog_8_method_7_code 1 = .ok (.istore_n 1, 1) := by decide +kernel
theorem d_T_forgetOldHeld_2 : decode prog_8_method_7_code 2 = .ok (.iconst 0, 1) := by decide +kernel
theorem d_T_forgetOldHeld_3 : decode prog_8_method_7_code 3 = .ok (.istore_n 2, 1) := by decide +kernel
theorem d_T_forgetOldHeld_4 : decode prog_8_method_7_code 4 = .ok (.iload_n 2, 1) := by decide +kernel
theorem d_T_forgetOldHeld_5 : decode prog_8_method_7_code 5 = .ok (.aload_n 0, 1) := by decide +kernel
theorem d_T_forgetOldHeld_6 : decode prog_8_method_7_code 6 = .ok (.getfield 32, 3) := by decide +kernel
theorem d_T_forgetOldHeld_9 : decode prog_8_method_7_code 9 = .ok (.if_icmp .ge 44, 3) := by decide +kernel
theorem d_T_forgetOldHeld_12 : decode prog_8_method_7_code 12 = .ok (.aload_n 0, 1) := by decide +kernel
theorem d_T_forgetOldHeld_13 : decode prog_8_method_7_code 13 = .ok (.getfield 28, 3) := by decide +kernel
theorem d_T_forgetOldHeld_16 : decode prog_8_method_7_code 16 = .ok (.iload_n 2, 1) := by decide +kernel
theorem d_T_forgetOldHeld_17 : decode prog_8_method_7_code 17 = .ok (.aaload, 1) := by decide +kernel
theorem d_T_forgetOldHeld_18 : decode prog_8_method_7_code 18 = .ok (.astore_n 3, 1) := by decide +kernel
theorem d_T_forgetOldHeld_19 : decode prog_8_method_7_code 19 = .ok (.aload_n 3, 1) := by decide +kernel
theorem d_T_forgetOldHeld_20 : decode prog_8_method_7_code 20 = .ok (.ifnull 27, 3) := by decide +kernel
theorem d_T_forgetOldHeld_23 : decode prog_8_method_7_code 23 = .ok (.aload_n 3, 1) := by decide +kernel
theorem d_T_forgetOldHeld_24 : decode prog_8_method_7_code 24 = .ok (.getfield 49, 3) := by decide +kernel
theorem d_T_forgetOldHeld_27 : decode prog_8_method_7_code 27 = .ok (.aload_n 0, 1) := by decide +kernel
theorem d_T_forgetOldHeld_28 : decode prog_8_method_7_code 28 = .ok (.getfield 12, 3) := by decide +kernel
theorem d_T_forgetOldHeld_31 : decode prog_8_method_7_code 31 = .ok (.getfield 46, 3) := by decide +kernel
theorem d_T_forgetOldHeld_34 : decode prog_8_method_7_code 34 = .ok (.if_icmp .le 13, 3) := by decide +kernel
theorem d_T_forgetOldHeld_37 : decode prog_8_method_7_code 37 = .ok (.aload_n 0, 1) := by decide +kernel
theorem d_T_forgetOldHeld_38 : decode prog_8_method_7_code 38 = .ok (.getfield 28, 3) := by decide +kernel
theorem d_T_forgetOldHeld_41 : decode prog_8_method_7_code 41 = .ok (.iload_n 1, 1) := by decide +kernel
theorem d_T_forgetOldHeld_42 : decode prog_8_method_7_code 42 = .ok (.aload_n 3, 1) := by decide +kernel
theorem d_T_forgetOldHeld_43 : decode prog_8_method_7_code 43 = .ok (.aastore, 1) := by decide +kernel
theorem d_T_forgetOldHeld_44 : decode prog_8_method_7_code 44 = .ok (.iinc 1 1, 3) := by decide +kernel
theorem d_T_forgetOldHeld_47 : decode prog_8_method_7_code 47 = .ok (.iinc 2 1, 3) := by decide +kernel
theorem d_T_forgetOldHeld_50 : decode prog_8_method_7_code 50 = .ok (.goto (-46), 3) := by decide +kernel
theorem d_T_forgetOldHeld_53 : decode prog_8_method_7_code 53 = .ok (.aload_n 0, 1) := by decide +kernel
theorem d_T_forgetOldHeld_54 : decode prog_8_method_7_code 54 = .ok (.iload_n 1, 1) := by decide +kernel
theorem d_T_forgetOldHeld_55 : decode prog_8_method_7_code 55 = .ok (.putfield 32, 3) := by decide +kernel
theorem d_T_forgetOldHeld_58 : decode prog_8_method_7_code 58 = .ok (.return_, 1) := by decide +kernel
theorem d_D_sound_0 : decode prog_1_method_15_code 0 = .ok (.iload_n 1, 1) := by decide +kernel
theorem d_D_sound_1 : decode prog_1_method_15_code 1 = .ok (.invokestatic 59, 3) := by decide +kernel
theorem d_D_sound_4 : decode prog_1_method_15_code 4 = .ok (.ifCond .eq 10, 3) := by decide +kernel
theorem d_D_sound_7 : decode prog_1_method_15_code 7 = .ok (.iload_n 2, 1) := by decide +kernel
theorem d_D_sound_8 : decode prog_1_method_15_code 8 = .ok (.invokestatic 32, 3) := by decide +kernel
theorem d_D_sound_11 : decode prog_1_method_15_code 11 = .ok (.ifCond .ne 6, 3) := by decide +kernel
theorem d_D_sound_14 : decode prog_1_method_15_code 14 = .ok (.bipush (-2), 2) := by decide +kernel
theorem d_D_sound_16 : decode prog_1_method_15_code 16 = .ok (.ireturn, 1) := by decide +kernel
theorem d_D_sound_17 : decode prog_1_method_15_code 17 = .ok (.aload_n 0, 1) := by decide +kernel
theorem d_D_sound_18 : decode prog_1_method_15_code 18 = .ok (.getfield 11, 3) := by decide +kernel
theorem d_D_sound_21 : decode prog_1_method_15_code 21 = .ok (.iload_n 1, 1) := by decide +kernel
theorem d_D_sound_22 : decode prog_1_method_15_code 22 = .ok (.aaload, 1) := by decide +kernel
theorem d_D_sound_23 : decode prog_1_method_15_code 23 = .ok (.iload_n 2, 1) := by decide +kernel
theorem d_D_sound_24 : decode prog_1_method_15_code 24 = .ok (.invokevirtual 101, 3) := by decide +kernel
theorem d_D_sound_27 : decode prog_1_method_15_code 27 = .ok (.ifCond .eq 7, 3) := by decide +kernel
theorem d_D_sound_30 : decode prog_1_method_15_code 30 = .ok (.iconst 1, 1) := by decide +kernel
theorem d_D_sound_31 : decode prog_1_method_15_code 31 = .ok (.goto 4, 3) := by decide +kernel
theorem d_D_sound_34 : decode prog_1_method_15_code 34 = .ok (.iconst 0, 1) := by decide +kernel
theorem d_D_sound_35 : decode prog_1_method_15_code 35 = .ok (.ireturn, 1) := by decide +kernel
theorem d_V_isSound_0 : decode prog_6_method_8_code 0 = .ok (.aload_n 0, 1) := by decide +kernel
theorem d_V_isSound_1 : decode prog_6_method_8_code 1 = .ok (.getfield 11, 3) := by decide +kernel
theorem d_V_isSound_4 : decode prog_6_method_8_code 4 = .ok (.iload_n 1, 1) := by decide +kernel
theorem d_V_isSound_5 : decode prog_6_method_8_code 5 = .ok (.aaload, 1) := by decide +kernel
theorem d_V_isSound_6 : decode prog_6_method_8_code 6 = .ok (.getfield 84, 3) := by decide +kernel
theorem d_V_isSound_9 : decode prog_6_method_8_code 9 = .ok (.ifCond .ne 18, 3) := by decide +kernel
theorem d_V_isSound_12 : decode prog_6_method_8_code 12 = .ok (.aload_n 0, 1) := by decide +kernel
theorem d_V_isSound_13 : decode prog_6_method_8_code 13 = .ok (.getfield 21, 3) := by decide +kernel
theorem d_V_isSound_16 : decode prog_6_method_8_code 16 = .ok (.aload_n 0, 1) := by decide +kernel
theorem d_V_isSound_17 : decode prog_6_method_8_code 17 = .ok (.getfield 17, 3) := by decide +kernel
theorem d_V_isSound_20 : decode prog_6_method_8_code 20 = .ok (.if_icmp .ge 7, 3) := by decide +kernel
theorem d_V_isSound_23 : decode prog_6_method_8_code 23 = .ok (.iconst 1, 1) := by decide +kernel
theorem d_V_isSound_24 : decode prog_6_method_8_code 24 = .ok (.goto 4, 3) := by decide +kernel
theorem d_V_isSound_27 : decode prog_6_method_8_code 27 = .ok (.iconst 0, 1) := by decide +kernel
theorem d_V_isSound_28 : decode prog_6_method_8_code 28 = .ok (.ireturn, 1) := by decide +kernel
theorem d_D_at_0 : decode prog_1_method_16_code 0 = .ok (.iload_n 1, 1) := by decide +kernel
theorem d_D_at_1 : decode prog_1_method_16_code 1 = .ok (.iload_n 2, 1) := by decide +kernel
theorem d_D_at_2 : decode prog_1_method_16_code 2 = .ok (.invokestatic 104, 3) := by decide +kernel
theorem d_D_at_5 : decode prog_1_method_16_code 5 = .ok (.ifCond .eq 15, 3) := by decide +kernel
theorem d_D_at_8 : decode prog_1_method_16_code 8 = .ok (.aload_n 0, 1) := by decide +kernel
theorem d_D_at_9 : decode prog_1_method_16_code 9 = .ok (.iload_n 1, 1) := by decide +kernel
theorem d_D_at_10 : decode prog_1_method_16_code 10 = .ok (.iload_n 2, 1) := by decide +kernel
theorem d_D_at_11 : decode prog_1_method_16_code 11 = .ok (.invokevirtual 108, 3) := by decide +kernel
theorem d_D_at_14 : decode prog_1_method_16_code 14 = .ok (.getfield 112, 3) := by decide +kernel
theorem d_D_at_17 : decode prog_1_method_16_code 17 = .ok (.goto 5, 3) := by decide +kernel
theorem d_D_at_20 : decode prog_1_method_16_code 20 = .ok (.bipush (-2), 2) := by decide +kernel
theorem d_D_at_22 : decode prog_1_method_16_code 22 = .ok (.ireturn, 1) := by decide +kernel
theorem d_D_hasBook_0 : decode prog_1_method_29_code 0 = .ok (.iload_n 0, 1) := by decide +kernel
theorem d_D_hasBook_1 : decode prog_1_method_29_code 1 = .ok (.iconst (-1), 1) := by decide +kernel
theorem d_D_hasBook_2 : decode prog_1_method_29_code 2 = .ok (.if_icmp .eq 10, 3) := by decide +kernel
theorem d_D_hasBook_5 : decode prog_1_method_29_code 5 = .ok (.iload_n 0, 1) := by decide +kernel
theorem d_D_hasBook_6 : decode prog_1_method_29_code 6 = .ok (.invokestatic 59, 3) := by decide +kernel
theorem d_D_hasBook_9 : decode prog_1_method_29_code 9 = .ok (.ifCond .eq 14, 3) := by decide +kernel
theorem d_D_hasBook_12 : decode prog_1_method_29_code 12 = .ok (.iload_n 1, 1) := by decide +kernel
theorem d_D_hasBook_13 : decode prog_1_method_29_code 13 = .ok (.invokestatic 32, 3) := by decide +kernel
theorem d_D_hasBook_16 : decode prog_1_method_29_code 16 = .ok (.ifCond .eq 7, 3) := by decide +kernel
theorem d_D_hasBook_19 : decode prog_1_method_29_code 19 = .ok (.iconst 1, 1) := by decide +kernel
theorem d_D_hasBook_20 : decode prog_1_method_29_code 20 = .ok (.goto 4, 3) := by decide +kernel
theorem d_D_hasBook_23 : decode prog_1_method_29_code 23 = .ok (.iconst 0, 1) := by decide +kernel
theorem d_D_hasBook_24 : decode prog_1_method_29_code 24 = .ok (.ireturn, 1) := by decide +kernel
theorem d_D_book_0 : decode prog_1_method_31_code 0 = .ok (.iload_n 1, 1) := by decide +kernel
theorem d_D_book_1 : decode prog_1_method_31_code 1 = .ok (.iconst (-1), 1) := by decide +kernel
theorem d_D_book_2 : decode prog_1_method_31_code 2 = .ok (.if_icmp .ne 15, 3) := by decide +kernel
theorem d_D_book_5 : decode prog_1_method_31_code 5 = .ok (.aload_n 0, 1) := by decide +kernel
theorem d_D_book_6 : decode prog_1_method_31_code 6 = .ok (.getfield 24, 3) := by decide +kernel
theorem d_D_book_9 : decode prog_1_method_31_code 9 = .ok (.getfield 164, 3) := by decide +kernel
theorem d_D_book_12 : decode prog_1_method_31_code 12 = .ok (.iload_n 2, 1) := by decide +kernel
theorem d_D_book_13 : decode prog_1_method_31_code 13 = .ok (.aaload, 1) := by decide +kernel
theorem d_D_book_14 : decode prog_1_method_31_code 14 = .ok (.goto 17, 3) := by decide +kernel
theorem d_D_book_17 : decode prog_1_method_31_code 17 = .ok (.aload_n 0, 1) := by decide +kernel
theorem d_D_book_18 : decode prog_1_method_31_code 18 = .ok (.getfield 11, 3) := by decide +kernel
theorem d_D_book_21 : decode prog_1_method_31_code 21 = .ok (.iload_n 1, 1) := by decide +kernel
theorem d_D_book_22 : decode prog_1_method_31_code 22 = .ok (.aaload, 1) := by decide +kernel
theorem d_D_book_23 : decode prog_1_method_31_code 23 = .ok (.getfield 87, 3) := by decide +kernel
theorem d_D_book_26 : decode prog_1_method_31_code 26 = .ok (.iload_n 2, 1) := by decide +kernel
theorem d_D_book_27 : decode prog_1_method_31_code 27 = .ok (.aaload, 1) := by decide +kernel
theorem d_D_book_28 : decode prog_1_method_31_code 28 = .ok (.getfield 168, 3) := by decide +kernel
theorem d_D_book_31 : decode prog_1_method_31_code 31 = .ok (.areturn, 1) := by decide +kernel
theorem d_D_receiver_0 : decode prog_1_method_17_code 0 = .ok (.iload_n 1, 1) := by decide +kernel
theorem d_D_receiver_1 : decode prog_1_method_17_code 1 = .ok (.invokestatic 59, 3) := by decide +kernel
theorem d_D_receiver_4 : decode prog_1_method_17_code 4 = .ok (.ifCond .ne 6, 3) := by decide +kernel
theorem d_D_receiver_7 : decode prog_1_method_17_code 7 = .ok (.bipush (-2), 2) := by decide +kernel
theorem d_D_receiver_9 : decode prog_1_method_17_code 9 = .ok (.ireturn, 1) := by decide +kernel
theorem d_D_receiver_10 : decode prog_1_method_17_code 10 = .ok (.iload_n 2, 1) := by decide +kernel
theorem d_D_receiver_11 : decode prog_1_method_17_code 11 = .ok (.tableswitch 69 0 3 #[29, 39, 49, 59], 29) := by decide +kernel
theorem d_D_receiver_40 : decode prog_1_method_17_code 40 = .ok (.aload_n 0, 1) := by decide +kernel
theorem d_D_receiver_41 : decode prog_1_method_17_code 41 = .ok (.getfield 11, 3) := by decide +kernel
theorem d_D_receiver_44 : decode prog_1_method_17_code 44 = .ok (.iload_n 1, 1) := by decide +kernel
theorem d_D_receiver_45 : decode prog_1_method_17_code 45 = .ok (.aaload, 1) := by decide +kernel
theorem d_D_receiver_46 : decode prog_1_method_17_code 46 = .ok (.getfield 117, 3) := by decide +kernel
theorem d_D_receiver_49 : decode prog_1_method_17_code 49 = .ok (.ireturn, 1) := by decide +kernel
theorem d_D_receiver_50 : decode prog_1_method_17_code 50 = .ok (.aload_n 0, 1) := by decide +kernel
theorem d_D_receiver_51 : decode prog_1_method_17_code 51 = .ok (.getfield 11, 3) := by decide +kernel
theorem d_D_receiver_54 : decode prog_1_method_17_code 54 = .ok (.iload_n 1, 1) := by decide +kernel
theorem d_D_receiver_55 : decode prog_1_method_17_code 55 = .ok (.aaload, 1) := by decide +kernel
theorem d_D_receiver_56 : decode prog_1_method_17_code 56 = .ok (.getfield 120, 3) := by decide +kernel
theorem d_D_receiver_59 : decode prog_1_method_17_code 59 = .ok (.ireturn, 1) := by decide +kernel
theorem d_D_receiver_60 : decode prog_1_method_17_code 60 = .ok (.aload_n 0, 1) := by decide +kernel
theorem d_D_receiver_61 : decode prog_1_method_17_code 61 = .ok (.getfield 11, 3) := by decide +kernel
theorem d_D_receiver_64 : decode prog_1_method_17_code 64 = .ok (.iload_n 1, 1) := by decide +kernel
theorem d_D_receiver_65 : decode prog_1_method_17_code 65 = .ok (.aaload, 1) := by decide +kernel
theorem d_D_receiver_66 : decode prog_1_method_17_code 66 = .ok (.invokevirtual 123, 3) := by decide +kernel
theorem d_D_receiver_69 : decode prog_1_method_17_code 69 = .ok (.ireturn, 1) := by decide +kernel
theorem d_D_receiver_70 : decode prog_1_method_17_code 70 = .ok (.aload_n 0, 1) := by decide +kernel
theorem d_D_receiver_71 : decode prog_1_method_17_code 71 = .ok (.getfield 11, 3) := by decide +kernel
theorem d_D_receiver_74 : decode prog_1_method_17_code 74 = .ok (.iload_n 1, 1) := by decide +kernel
theorem d_D_receiver_75 : decode prog_1_method_17_code 75 = .ok (.aaload, 1) := by decide +kernel
theorem d_D_receiver_76 : decode prog_1_method_17_code 76 = .ok (.invokevirtual 126, 3) := by decide +kernel
theorem d_D_receiver_79 : decode prog_1_method_17_code 79 = .ok (.ireturn, 1) := by decide +kernel
theorem d_D_receiver_80 : decode prog_1_method_17_code 80 = .ok (.bipush (-2), 2) := by decide +kernel
theorem d_D_receiver_82 : decode prog_1_method_17_code 82 = .ok (.ireturn, 1) := by decide +kernel
theorem d_V_countKept_0 : decode prog_6_method_9_code 0 = .ok (.iconst 0, 1) := by decide +kernel
theorem d_V_countKept_1 : decode prog_6_method_9_code 1 = .ok (.istore_n 1, 1) := by decide +kernel
theorem d_V_countKept_2 : decode prog_6_method_9_code 2 = .ok (.iconst 0, 1) := by decide +kernel
theorem d_V_countKept_3 : decode prog_6_method_9_code 3 = .ok (.istore_n 2, 1) := by decide +kernel
theorem d_V_countKept_4 : decode prog_6_method_9_code 4 = .ok (.iload_n 2, 1) := by decide +kernel
theorem d_V_countKept_5 : decode prog_6_method_9_code 5 = .ok (.bipush 7, 2) := by decide +kernel
theorem d_V_countKept_7 : decode prog_6_method_9_code 7 = .ok (.if_icmp .gt 26, 3) := by decide +kernel
theorem d_V_countKept_10 : decode prog_6_method_9_code 10 = .ok (.iload_n 1, 1) := by decide +kernel
theorem d_V_countKept_11 : decode prog_6_method_9_code 11 = .ok (.aload_n 0, 1) := by decide +kernel
theorem d_V_countKept_12 : decode prog_6_method_9_code 12 = .ok (.getfield 24, 3) := by decide +kernel
theorem d_V_countKept_15 : decode prog_6_method_9_code 15 = .ok (.iload_n 2, 1) := by decide +kernel
theorem d_V_countKept_16 : decode prog_6_method_9_code 16 = .ok (.baload, 1) := by decide +kernel
theorem d_V_countKept_17 : decode prog_6_method_9_code 17 = .ok (.ifCond .eq 7, 3) := by decide +kernel
theorem d_V_countKept_20 : decode prog_6_method_9_code 20 = .ok (.iconst 1, 1) := by decide +kernel
theorem d_V_countKept_21 : decode prog_6_method_9_code 21 = .ok (.goto 4, 3) := by decide +kernel
theorem d_V_countKept_24 : decode prog_6_method_9_code 24 = .ok (.iconst 0, 1) := by decide +kernel
theorem d_V_countKept_25 : decode prog_6_method_9_code 25 = .ok (.iadd, 1) := by decide +kernel
theorem d_V_countKept_26 : decode prog_6_method_9_code 26 = .ok (.istore_n 1, 1) := by decide +kernel
theorem d_V_countKept_27 : decode prog_6_method_9_code 27 = .ok (.iinc 2 1, 3) := by decide +kernel
theorem d_V_countKept_30 : decode prog_6_method_9_code 30 = .ok (.goto (-26), 3) := by decide +kernel
theorem d_V_countKept_33 : decode prog_6_method_9_code 33 = .ok (.iload_n 1, 1) := by decide +kernel
theorem d_V_countKept_34 : decode prog_6_method_9_code 34 = .ok (.ireturn, 1) := by decide +kernel
theorem d_V_countHeld_0 : decode prog_6_method_10_code 0 = .ok (.iconst 0, 1) := by decide +kernel
theorem d_V_countHeld_1 : decode prog_6_method_10_code 1 = .ok (.istore_n 1, 1) := by decide +kernel
theorem d_V_countHeld_2 : decode prog_6_method_10_code 2 = .ok (.iconst 0, 1) := by decide +kernel
theorem d_V_countHeld_3 : decode prog_6_method_10_code 3 = .ok (.istore_n 2, 1) := by decide +kernel
theorem d_V_countHeld_4 : decode prog_6_method_10_code 4 = .ok (.iload_n 2, 1) := by decide +kernel
theorem d_V_countHeld_5 : decode prog_6_method_10_code 5 = .ok (.iconst 4, 1) := by decide +kernel
theorem d_V_countHeld_6 : decode prog_6_method_10_code 6 = .ok (.if_icmp .ge 21, 3) := by decide +kernel
theorem d_V_countHeld_9 : decode prog_6_method_10_code 9 = .ok (.iload_n 1, 1) := by decide +kernel
theorem d_V_countHeld_10 : decode prog_6_method_10_code 10 = .ok (.aload_n 0, 1) := by decide +kernel
theorem d_V_countHeld_11 : decode prog_6_method_10_code 11 = .ok (.getfield 11, 3) := by decide +kernel
theorem d_V_countHeld_14 : decode prog_6_method_10_code 14 = .ok (.iload_n 2, 1) := by decide +kernel
theorem d_V_countHeld_15 : decode prog_6_method_10_code 15 = .ok (.aaload, 1) := by decide +kernel
theorem d_V_countHeld_16 : decode prog_6_method_10_code 16 = .ok (.getfield 87, 3) := by decide +kernel
theorem d_V_countHeld_19 : decode prog_6_method_10_code 19 = .ok (.iadd, 1) := by decide +kernel
theorem d_V_countHeld_20 : decode prog_6_method_10_code 20 = .ok (.istore_n 1, 1) := by decide +kernel
theorem d_V_countHeld_21 : decode prog_6_method_10_code 21 = .ok (.iinc 2 1, 3) := by decide +kernel
theorem d_V_countHeld_24 : decode prog_6_method_10_code 24 = .ok (.goto (-20), 3) := by decide +kernel
theorem d_V_countHeld_27 : decode prog_6_method_10_code 27 = .ok (.iload_n 1, 1) := by decide +kernel
theorem d_V_countHeld_28 : decode prog_6_method_10_code 28 = .ok (.ireturn, 1) := by decide +kernel
theorem d_D_best_0 : decode prog_1_method_18_code 0 = .ok (.iload_n 1, 1) := by decide +kernel
theorem d_D_best_1 : decode prog_1_method_18_code 1 = .ok (.iload_n 2, 1) := by decide +kernel
theorem d_D_best_2 : decode prog_1_method_18_code 2 = .ok (.invokestatic 104, 3) := by decide +kernel
theorem d_D_best_5 : decode prog_1_method_18_code 5 = .ok (.ifCond .eq 23, 3) := by decide +kernel
theorem d_D_best_8 : decode prog_1_method_18_code 8 = .ok (.iload_n 3, 1) := by decide +kernel
theorem d_D_best_9 : decode prog_1_method_18_code 9 = .ok (.invokestatic 39, 3) := by decide +kernel
theorem d_D_best_12 : decode prog_1_method_18_code 12 = .ok (.ifCond .eq 16, 3) := by decide +kernel
theorem d_D_best_15 : decode prog_1_method_18_code 15 = .ok (.iload 4, 2) := by decide +kernel
theorem d_D_best_17 : decode prog_1_method_18_code 17 = .ok (.ifCond .lt 11, 3) := by decide +kernel
theorem d_D_best_20 : decode prog_1_method_18_code 20 = .ok (.iload 5, 2) := by decide +kernel
theorem d_D_best_22 : decode prog_1_method_18_code 22 = .ok (.invokestatic 129, 3) := by decide +kernel
theorem d_D_best_25 : decode prog_1_method_18_code 25 = .ok (.ifCond .ne 6, 3) := by decide +kernel
theorem d_D_best_28 : decode prog_1_method_18_code 28 = .ok (.ldc 132, 2) := by decide +kernel
theorem d_D_best_30 : decode prog_1_method_18_code 30 = .ok (.ireturn, 1) := by decide +kernel
theorem d_D_best_31 : decode prog_1_method_18_code 31 = .ok (.aload_n 0, 1) := by decide +kernel
theorem d_D_best_32 : decode prog_1_method_18_code 32 = .ok (.iload_n 1, 1) := by decide +kernel
theorem d_D_best_33 : decode prog_1_method_18_code 33 = .ok (.iload_n 2, 1) := by decide +kernel
theorem d_D_best_34 : decode prog_1_method_18_code 34 = .ok (.invokevirtual 108, 3) := by decide +kernel
theorem d_D_best_37 : decode prog_1_method_18_code 37 = .ok (.iload_n 3, 1) := by decide +kernel
theorem d_D_best_38 : decode prog_1_method_18_code 38 = .ok (.iload 4, 2) := by decide +kernel
theorem d_D_best_40 : decode prog_1_method_18_code 40 = .ok (.iload 5, 2) := by decide +kernel
theorem d_D_best_42 : decode prog_1_method_18_code 42 = .ok (.invokevirtual 133, 3) := by decide +kernel
theorem d_D_best_45 : decode prog_1_method_18_code 45 = .ok (.ireturn, 1) := by decide +kernel
theorem d_D_isLevelValue_0 : decode prog_1_method_28_code 0 = .ok (.iload_n 0, 1) := by decide +kernel
theorem d_D_isLevelValue_1 : decode prog_1_method_28_code 1 = .ok (.ifCond .lt 12, 3) := by decide +kernel
theorem d_D_isLevelValue_4 : decode prog_1_method_28_code 4 = .ok (.iload_n 0, 1) := by decide +kernel
theorem d_D_isLevelValue_5 : decode prog_1_method_28_code 5 = .ok (.iconst 3, 1) := by decide +kernel
theorem d_D_isLevelValue_6 : decode prog_1_method_28_code 6 = .ok (.if_icmp .ge 7, 3) := by decide +kernel
theorem d_D_isLevelValue_9 : decode prog_1_method_28_code 9 = .ok (.iconst 1, 1) := by decide +kernel
theorem d_D_isLevelValue_10 : decode prog_1_method_28_code 10 = .ok (.goto 4, 3) := by decide +kernel
theorem d_D_isLevelValue_13 : decode prog_1_method_28_code 13 = .ok (.iconst 0, 1) := by decide +kernel
theorem d_D_isLevelValue_14 : decode prog_1_method_28_code 14 = .ok (.ireturn, 1) := by decide +kernel
theorem d_D_order_0 : decode prog_1_method_19_code 0 = .ok (.iload_n 1, 1) := by decide +kernel
theorem d_D_order_1 : decode prog_1_method_19_code 1 = .ok (.iload_n 2, 1) := by decide +kernel
theorem d_D_order_2 : decode prog_1_method_19_code 2 = .ok (.invokestatic 104, 3) := by decide +kernel
theorem d_D_order_5 : decode prog_1_method_19_code 5 = .ok (.ifCond .eq 22, 3) := by decide +kernel
theorem d_D_order_8 : decode prog_1_method_19_code 8 = .ok (.iload_n 3, 1) := by decide +kernel
theorem d_D_order_9 : decode prog_1_method_19_code 9 = .ok (.invokestatic 39, 3) := by decide +kernel
theorem d_D_order_12 : decode prog_1_method_19_code 12 = .ok (.ifCond .eq 15, 3) := by decide +kernel
theorem d_D_order_15 : decode prog_1_method_19_code 15 = .ok (.iload 4, 2) := by decide +kernel
theorem d_D_order_17 : decode prog_1_method_19_code 17 = .ok (.ifCond .lt 10, 3) := by decide +kernel
theorem d_D_order_20 : decode prog_1_method_19_code 20 = .ok (.iload 4, 2) := by decide +kernel
theorem d_D_order_22 : decode prog_1_method_19_code 22 = .ok (.bipush 24, 2) := by decide +kernel
theorem d_D_order_24 : decode prog_1_method_19_code 24 = .ok (.if_icmp .lt 6, 3) := by decide +kernel
theorem d_D_order_27 : decode prog_1_method_19_code 27 = .ok (.bipush (-2), 2) := by decide +kernel
theorem d_D_order_29 : decode prog_1_method_19_code 29 = .ok (.ireturn, 1) := by decide +kernel
theorem d_D_order_30 : decode prog_1_method_19_code 30 = .ok (.aload_n 0, 1) := by decide +kernel
theorem d_D_order_31 : decode prog_1_method_19_code 31 = .ok (.iload_n 1, 1) := by decide +kernel
theorem d_D_order_32 : decode prog_1_method_19_code 32 = .ok (.iload_n 2, 1) := by decide +kernel
theorem d_D_order_33 : decode prog_1_method_19_code 33 = .ok (.invokevirtual 108, 3) := by decide +kernel
theorem d_D_order_36 : decode prog_1_method_19_code 36 = .ok (.iload_n 3, 1) := by decide +kernel
theorem d_D_order_37 : decode prog_1_method_19_code 37 = .ok (.iload 4, 2) := by decide +kernel
theorem d_D_order_39 : decode prog_1_method_19_code 39 = .ok (.invokevirtual 137, 3) := by decide +kernel
theorem d_D_order_42 : decode prog_1_method_19_code 42 = .ok (.ireturn, 1) := by decide +kernel
theorem d_B_idAt_0 : decode prog_2_method_12_code 0 = .ok (.aload_n 0, 1) := by decide +kernel
theorem d_B_idAt_1 : decode prog_2_method_12_code 1 = .ok (.iload_n 1, 1) := by decide +kernel
theorem d_B_idAt_2 : decode prog_2_method_12_code 2 = .ok (.invokevirtual 65, 3) := by decide +kernel
theorem d_B_idAt_5 : decode prog_2_method_12_code 5 = .ok (.iload_n 2, 1) := by decide +kernel
theorem d_B_idAt_6 : decode prog_2_method_12_code 6 = .ok (.iadd, 1) := by decide +kernel
theorem d_B_idAt_7 : decode prog_2_method_12_code 7 = .ok (.istore_n 3, 1) := by decide +kernel
theorem d_B_idAt_8 : decode prog_2_method_12_code 8 = .ok (.iload_n 3, 1) := by decide +kernel
theorem d_B_idAt_9 : decode prog_2_method_12_code 9 = .ok (.aload_n 0, 1) := by decide +kernel
theorem d_B_idAt_10 : decode prog_2_method_12_code 10 = .ok (.iload_n 1, 1) := by decide +kernel
theorem d_B_idAt_11 : decode prog_2_method_12_code 11 = .ok (.invokevirtual 68, 3) := by decide +kernel
theorem d_B_idAt_14 : decode prog_2_method_12_code 14 = .ok (.if_icmp .ge 12, 3) := by decide +kernel
theorem d_B_idAt_17 : decode prog_2_method_12_code 17 = .ok (.aload_n 0, 1) := by decide +kernel
theorem d_B_idAt_18 : decode prog_2_method_12_code 18 = .ok (.getfield 9, 3) := by decide +kernel
theorem d_B_idAt_21 : decode prog_2_method_12_code 21 = .ok (.iload_n 3, 1) := by decide +kernel
theorem d_B_idAt_22 : decode prog_2_method_12_code 22 = .ok (.iaload, 1) := by decide +kernel
theorem d_B_idAt_23 : decode prog_2_method_12_code 23 = .ok (.goto 4, 3) := by decide +kernel
theorem d_B_idAt_26 : decode prog_2_method_12_code 26 = .ok (.iconst (-1), 1) := by decide +kernel
theorem d_B_idAt_27 : decode prog_2_method_12_code 27 = .ok (.ireturn, 1) := by decide +kernel
theorem d_D_halted_0 : decode prog_1_method_20_code 0 = .ok (.iload_n 1, 1) := by decide +kernel
theorem d_D_halted_1 : decode prog_1_method_20_code 1 = .ok (.iload_n 2, 1) := by decide +kernel
theorem d_D_halted_2 : decode prog_1_method_20_code 2 = .ok (.invokestatic 104, 3) := by decide +kernel
theorem d_D_halted_5 : decode prog_1_method_20_code 5 = .ok (.ifCond .eq 15, 3) := by decide +kernel
theorem d_D_halted_8 : decode prog_1_method_20_code 8 = .ok (.aload_n 0, 1) := by decide +kernel
theorem d_D_halted_9 : decode prog_1_method_20_code 9 = .ok (.iload_n 1, 1) := by decide +kernel
theorem d_D_halted_10 : decode prog_1_method_20_code 10 = .ok (.iload_n 2, 1) := by decide +kernel
theorem d_D_halted_11 : decode prog_1_method_20_code 11 = .ok (.invokevirtual 108, 3) := by decide +kernel
theorem d_D_halted_14 : decode prog_1_method_20_code 14 = .ok (.invokevirtual 140, 3) := by decide +kernel
theorem d_D_halted_17 : decode prog_1_method_20_code 17 = .ok (.goto 5, 3) := by decide +kernel
theorem d_D_halted_20 : decode prog_1_method_20_code 20 = .ok (.bipush (-2), 2) := by decide +kernel
theorem d_D_halted_22 : decode prog_1_method_20_code 22 = .ok (.ireturn, 1) := by decide +kernel
theorem d_D_dirty_0 : decode prog_1_method_21_code 0 = .ok (.iload_n 1, 1) := by decide +kernel
theorem d_D_dirty_1 : decode prog_1_method_21_code 1 = .ok (.invokestatic 59, 3) := by decide +kernel
theorem d_D_dirty_4 : decode prog_1_method_21_code 4 = .ok (.ifCond .eq 15, 3) := by decide +kernel
theorem d_D_dirty_7 : decode prog_1_method_21_code 7 = .ok (.aload_n 0, 1) := by decide +kernel
theorem d_D_dirty_8 : decode prog_1_method_21_code 8 = .ok (.getfield 17, 3) := by decide +kernel
theorem d_D_dirty_11 : decode prog_1_method_21_code 11 = .ok (.iload_n 1, 1) := by decide +kernel
theorem d_D_dirty_12 : decode prog_1_method_21_code 12 = .ok (.aaload, 1) := by decide +kernel
theorem d_D_dirty_13 : decode prog_1_method_21_code 13 = .ok (.getfield 143, 3) := by decide +kernel
theorem d_D_dirty_16 : decode prog_1_method_21_code 16 = .ok (.goto 5, 3) := by decide +kernel
theorem d_D_dirty_19 : decode prog_1_method_21_code 19 = .ok (.bipush (-2), 2) := by decide +kernel
theorem d_D_dirty_21 : decode prog_1_method_21_code 21 = .ok (.ireturn, 1) := by decide +kernel
theorem d_D_read_0 : decode prog_1_method_22_code 0 = .ok (.iload_n 1, 1) := by decide +kernel
theorem d_D_read_1 : decode prog_1_method_22_code 1 = .ok (.invokestatic 59, 3) := by decide +kernel
theorem d_D_read_4 : decode prog_1_method_22_code 4 = .ok (.ifCond .ne 6, 3) := by decide +kernel
theorem d_D_read_7 : decode prog_1_method_22_code 7 = .ok (.bipush (-2), 2) := by decide +kernel
theorem d_D_read_9 : decode prog_1_method_22_code 9 = .ok (.ireturn, 1) := by decide +kernel
theorem d_D_read_10 : decode prog_1_method_22_code 10 = .ok (.aload_n 0, 1) := by decide +kernel
theorem d_D_read_11 : decode prog_1_method_22_code 11 = .ok (.getfield 17, 3) := by decide +kernel
theorem d_D_read_14 : decode prog_1_method_22_code 14 = .ok (.iload_n 1, 1) := by decide +kernel
theorem d_D_read_15 : decode prog_1_method_22_code 15 = .ok (.aaload, 1) := by decide +kernel
theorem d_D_read_16 : decode prog_1_method_22_code 16 = .ok (.invokevirtual 146, 3) := by decide +kernel
theorem d_D_read_19 : decode prog_1_method_22_code 19 = .ok (.istore_n 2, 1) := by decide +kernel
theorem d_D_read_20 : decode prog_1_method_22_code 20 = .ok (.iload_n 2, 1) := by decide +kernel
theorem d_D_read_21 : decode prog_1_method_22_code 21 = .ok (.iconst (-1), 1) := by decide +kernel
theorem d_D_read_22 : decode prog_1_method_22_code 22 = .ok (.if_icmp .eq 22, 3) := by decide +kernel
theorem d_D_read_25 : decode prog_1_method_22_code 25 = .ok (.aload_n 0, 1) := by decide +kernel
theorem d_D_read_26 : decode prog_1_method_22_code 26 = .ok (.iload_n 1, 1) := by decide +kernel
theorem d_D_read_27 : decode prog_1_method_22_code 27 = .ok (.iload_n 2, 1) := by decide +kernel
theorem d_D_read_28 : decode prog_1_method_22_code 28 = .ok (.invokevirtual 108, 3) := by decide +kernel
theorem d_D_read_31 : decode prog_1_method_22_code 31 = .ok (.aload_n 0, 1) := by decide +kernel
theorem d_D_read_32 : decode prog_1_method_22_code 32 = .ok (.getfield 17, 3) := by decide +kernel
theorem d_D_read_35 : decode prog_1_method_22_code 35 = .ok (.iload_n 1, 1) := by decide +kernel
theorem d_D_read_36 : decode prog_1_method_22_code 36 = .ok (.aaload, 1) := by decide +kernel
theorem d_D_read_37 : decode prog_1_method_22_code 37 = .ok (.getfield 149, 3) := by decide +kernel
theorem d_D_read_40 : decode prog_1_method_22_code 40 = .ok (.invokevirtual 153, 3) := by decide +kernel
theorem d_D_read_43 : decode prog_1_method_22_code 43 = .ok (.pop, 1) := by decide +kernel
theorem d_D_read_44 : decode prog_1_method_22_code 44 = .ok (.iload_n 2, 1) := by decide +kernel
theorem d_D_read_45 : decode prog_1_method_22_code 45 = .ok (.ireturn, 1) := by decide +kernel
theorem d_W_takeFirst_0 : decode prog_5_method_3_code 0 = .ok (.aload_n 0, 1) := by decide +kernel
theorem d_W_takeFirst_1 : decode prog_5_method_3_code 1 = .ok (.getfield 15, 3) := by decide +kernel
theorem d_W_takeFirst_4 : decode prog_5_method_3_code 4 = .ok (.ifCond .ne 5, 3) := by decide +kernel
theorem d_W_takeFirst_7 : decode prog_5_method_3_code 7 = .ok (.iconst (-1), 1) := by decide +kernel
theorem d_W_takeFirst_8 : decode prog_5_method_3_code 8 = .ok (.ireturn, 1) := by decide +kernel
theorem d_W_takeFirst_9 : decode prog_5_method_3_code 9 = .ok (.aload_n 0, 1) := by decide +kernel
theorem d_W_takeFirst_10 : decode prog_5_method_3_code 10 = .ok (.getfield 9, 3) := by decide +kernel
theorem d_W_takeFirst_13 : decode prog_5_method_3_code 13 = .ok (.iconst 0, 1) := by decide +kernel
theorem d_W_takeFirst_14 : decode prog_5_method_3_code 14 = .ok (.iaload, 1) := by decide +kernel
theorem d_W_takeFirst_15 : decode prog_5_method_3_code 15 = .ok (.istore_n 1, 1) := by decide +kernel
theorem d_W_takeFirst_16 : decode prog_5_method_3_code 16 = .ok (.aload_n 0, 1) := by decide +kernel
theorem d_W_takeFirst_17 : decode prog_5_method_3_code 17 = .ok (.dup, 1) := by decide +kernel
theorem d_W_takeFirst_18 : decode prog_5_method_3_code 18 = .ok (.getfield 15, 3) := by decide +kernel
theorem d_W_takeFirst_21 : decode prog_5_method_3_code 21 = .ok (.iconst 1, 1) := by decide +kernel
theorem d_W_takeFirst_22 : decode prog_5_method_3_code 22 = .ok (.isub, 1) := by decide +kernel
theorem d_W_takeFirst_23 : decode prog_5_method_3_code 23 = .ok (.putfield 15, 3) := by decide +kernel
theorem d_W_takeFirst_26 : decode prog_5_method_3_code 26 = .ok (.aload_n 0, 1) := by decide +kernel
theorem d_W_takeFirst_27 : decode prog_5_method_3_code 27 = .ok (.getfield 9, 3) := by decide +kernel
theorem d_W_takeFirst_30 : decode prog_5_method_3_code 30 = .ok (.iconst 1, 1) := by decide +kernel
theorem d_W_takeFirst_31 : decode prog_5_method_3_code 31 = .ok (.aload_n 0, 1) := by decide +kernel
theorem d_W_takeFirst_32 : decode prog_5_method_3_code 32 = .ok (.getfield 9, 3) := by decide +kernel
theorem d_W_takeFirst_35 : decode prog_5_method_3_code 35 = .ok (.iconst 0, 1) := by decide +kernel
theorem d_W_takeFirst_36 : decode prog_5_method_3_code 36 = .ok (.aload_n 0, 1) := by decide +kernel
theorem d_W_takeFirst_37 : decode prog_5_method_3_code 37 = .ok (.getfield 15, 3) := by decide +kernel
theorem d_W_takeFirst_40 : decode prog_5_method_3_code 40 = .ok (.invokestatic 26, 3) := by decide +kernel
theorem d_W_takeFirst_43 : decode prog_5_method_3_code 43 = .ok (.iload_n 1, 1) := by decide +kernel
theorem d_W_takeFirst_44 : decode prog_5_method_3_code 44 = .ok (.ireturn, 1) := by decide +kernel
theorem d_D_view_0 : decode prog_1_method_23_code 0 = .ok (.iload_n 2, 1) := by decide +kernel
theorem d_D_view_1 : decode prog_1_method_23_code 1 = .ok (.iconst 2, 1) := by decide +kernel
theorem d_D_view_2 : decode prog_1_method_23_code 2 = .ok (.if_icmp .ne 16, 3) := by decide +kernel
theorem d_D_view_5 : decode prog_1_method_23_code 5 = .ok (.iload_n 3, 1) := by decide +kernel
theorem d_D_view_6 : decode prog_1_method_23_code 6 = .ok (.ifCond .ne 12, 3) := by decide +kernel
theorem d_D_view_9 : decode prog_1_method_23_code 9 = .ok (.iload 4, 2) := by decide +kernel
theorem d_D_view_11 : decode prog_1_method_23_code 11 = .ok (.ifCond .ne 7, 3) := by decide +kernel
theorem d_D_view_14 : decode prog_1_method_23_code 14 = .ok (.iconst 1, 1) := by decide +kernel
theorem d_D_view_15 : decode prog_1_method_23_code 15 = .ok (.goto 4, 3) := by decide +kernel
theorem d_D_view_18 : decode prog_1_method_23_code 18 = .ok (.iconst 0, 1) := by decide +kernel
theorem d_D_view_19 : decode prog_1_method_23_code 19 = .ok (.istore 5, 2) := by decide +kernel
theorem d_D_view_21 : decode prog_1_method_23_code 21 = .ok (.iload_n 2, 1) := by decide +kernel
theorem d_D_view_22 : decode prog_1_method_23_code 22 = .ok (.invokestatic 39, 3) := by decide +kernel
theorem d_D_view_25 : decode prog_1_method_23_code 25 = .ok (.ifCond .eq 24, 3) := by decide +kernel
theorem d_D_view_28 : decode prog_1_method_23_code 28 = .ok (.iload_n 3, 1) := by decide +kernel
theorem d_D_view_29 : decode prog_1_method_23_code 29 = .ok (.ifCond .lt 20, 3) := by decide +kernel
theorem d_D_view_32 : decode prog_1_method_23_code 32 = .ok (.iload_n 3, 1) := by decide +kernel
theorem d_D_view_33 : decode prog_1_method_23_code 33 = .ok (.iconst 3, 1) := by decide +kernel
theorem d_D_view_34 : decode prog_1_method_23_code 34 = .ok (.if_icmp .ge 15, 3) := by decide +kernel
theorem d_D_view_37 : decode prog_1_method_23_code 37 = .ok (.iload 4, 2) := by decide +kernel
theorem d_D_view_39 : decode prog_1_method_23_code 39 = .ok (.invokestatic 129, 3) := by decide +kernel
theorem d_D_view_42 : decode prog_1_method_23_code 42 = .ok (.ifCond .eq 7, 3) := by decide +kernel
theorem d_D_view_45 : decode prog_1_method_23_code 45 = .ok (.iconst 1, 1) := by decide +kernel
theorem d_D_view_46 : decode prog_1_method_23_code 46 = .ok (.goto 4, 3) := by decide +kernel
theorem d_D_view_49 : decode prog_1_method_23_code 49 = .ok (.iconst 0, 1) := by decide +kernel
theorem d_D_view_50 : decode prog_1_method_23_code 50 = .ok (.istore 6, 2) := by decide +kernel
theorem d_D_view_52 : decode prog_1_method_23_code 52 = .ok (.iload_n 1, 1) := by decide +kernel
theorem d_D_view_53 : decode prog_1_method_23_code 53 = .ok (.invokestatic 59, 3) := by decide +kernel
theorem d_D_view_56 : decode prog_1_method_23_code 56 = .ok (.ifCond .eq 13, 3) := by decide +kernel
theorem d_D_view_59 : decode prog_1_method_23_code 59 = .ok (.iload 5, 2) := by decide +kernel
theorem d_D_view_61 : decode prog_1_method_23_code 61 = .ok (.ifCond .ne 11, 3) := by decide +kernel
theorem d_D_view_64 : decode prog_1_method_23_code 64 = .ok (.iload 6, 2) := by decide +kernel
theorem d_D_view_66 : decode prog_1_method_23_code 66 = .ok (.ifCond .ne 6, 3) := by decide +kernel
theorem d_D_view_69 : decode prog_1_method_23_code 69 = .ok (.ldc 132, 2) := by decide +kernel
theorem d_D_view_71 : decode prog_1_method_23_code 71 = .ok (.ireturn, 1) := by decide +kernel
theorem d_D_view_72 : decode prog_1_method_23_code 72 = .ok (.aload_n 0, 1) := by decide +kernel
theorem d_D_view_73 : decode prog_1_method_23_code 73 = .ok (.getfield 17, 3) := by decide +kernel
theorem d_D_view_76 : decode prog_1_method_23_code 76 = .ok (.iload_n 1, 1) := by decide +kernel
theorem d_D_view_77 : decode prog_1_method_23_code 77 = .ok (.aaload, 1) := by decide +kernel
theorem d_D_view_78 : decode prog_1_method_23_code 78 = .ok (.getfield 149, 3) := by decide +kernel
theorem d_D_view_81 : decode prog_1_method_23_code 81 = .ok (.iload_n 2, 1) := by decide +kernel
theorem d_D_view_82 : decode prog_1_method_23_code 82 = .ok (.bipush 9, 2) := by decide +kernel
theorem d_D_view_84 : decode prog_1_method_23_code 84 = .ok (.imul, 1) := by decide +kernel
theorem d_D_view_85 : decode prog_1_method_23_code 85 = .ok (.iload_n 3, 1) := by decide +kernel
theorem d_D_view_86 : decode prog_1_method_23_code 86 = .ok (.iconst 3, 1) := by decide +kernel
theorem d_D_view_87 : decode prog_1_method_23_code 87 = .ok (.imul, 1) := by decide +kernel
theorem d_D_view_88 : decode prog_1_method_23_code 88 = .ok (.iadd, 1) := by decide +kernel
theorem d_D_view_89 : decode prog_1_method_23_code 89 = .ok (.iload 4, 2) := by decide +kernel
theorem d_D_view_91 : decode prog_1_method_23_code 91 = .ok (.iadd, 1) := by decide +kernel
theorem d_D_view_92 : decode prog_1_method_23_code 92 = .ok (.iaload, 1) := by decide +kernel
theorem d_D_view_93 : decode prog_1_method_23_code 93 = .ok (.ireturn, 1) := by decide +kernel
theorem d_M_init_0 : decode prog_10_method_1_code 0 = .ok (.aload_n 0, 1) := by decide +kernel
theorem d_M_init_1 : decode prog_10_method_1_code 1 = .ok (.invokespecial 1, 3) := by decide +kernel
theorem d_M_init_4 : decode prog_10_method_1_code 4 = .ok (.aload_n 0, 1) := by decide +kernel
theorem d_M_init_5 : decode prog_10_method_1_code 5 = .ok (.sipush 400, 3) := by decide +kernel
theorem d_M_init_8 : decode prog_10_method_1_code 8 = .ok (.newarray .int, 2) := by decide +kernel
theorem d_M_init_10 : decode prog_10_method_1_code 10 = .ok (.putfield 7, 3) := by decide +kernel
theorem d_M_init_13 : decode prog_10_method_1_code 13 = .ok (.aload_n 0, 1) := by decide +kernel
theorem d_M_init_14 : decode prog_10_method_1_code 14 = .ok (.sipush 400, 3) := by decide +kernel
theorem d_M_init_17 : decode prog_10_method_1_code 17 = .ok (.newarray .int, 2) := by decide +kernel
theorem d_M_init_19 : decode prog_10_method_1_code 19 = .ok (.putfield 13, 3) := by decide +kernel
theorem d_M_init_22 : decode prog_10_method_1_code 22 = .ok (.aload_n 0, 1) := by decide +kernel
theorem d_M_init_23 : decode prog_10_method_1_code 23 = .ok (.sipush 400, 3) := by decide +kernel
theorem d_M_init_26 : decode prog_10_method_1_code 26 = .ok (.newarray .int, 2) := by decide +kernel
theorem d_M_init_28 : decode prog_10_method_1_code 28 = .ok (.putfield 16, 3) := by decide +kernel
theorem d_M_init_31 : decode prog_10_method_1_code 31 = .ok (.aload_n 0, 1) := by decide +kernel
theorem d_M_init_32 : decode prog_10_method_1_code 32 = .ok (.sipush 400, 3) := by decide +kernel
theorem d_M_init_35 : decode prog_10_method_1_code 35 = .ok (.newarray .int, 2) := by decide +kernel
theorem d_M_init_37 : decode prog_10_method_1_code 37 = .ok (.putfield 19, 3) := by decide +kernel
theorem d_M_init_40 : decode prog_10_method_1_code 40 = .ok (.aload_n 0, 1) := by decide +kernel
theorem d_M_init_41 : decode prog_10_method_1_code 41 = .ok (.sipush 400, 3) := by decide +kernel
theorem d_M_init_44 : decode prog_10_method_1_code 44 = .ok (.newarray .int, 2) := by decide +kernel
theorem d_M_init_46 : decode prog_10_method_1_code 46 = .ok (.putfield 22, 3) := by decide +kernel
theorem d_M_init_49 : decode prog_10_method_1_code 49 = .ok (.aload_n 0, 1) := by decide +kernel
theorem d_M_init_50 : decode prog_10_method_1_code 50 = .ok (.sipush 400, 3) := by decide +kernel
theorem d_M_init_53 : decode prog_10_method_1_code 53 = .ok (.newarray .int, 2) := by decide +kernel
theorem d_M_init_55 : decode prog_10_method_1_code 55 = .ok (.putfield 25, 3) := by decide +kernel
theorem d_M_init_58 : decode prog_10_method_1_code 58 = .ok (.aload_n 0, 1) := by decide +kernel
theorem d_M_init_59 : decode prog_10_method_1_code 59 = .ok (.sipush 400, 3) := by decide +kernel
theorem d_M_init_62 : decode prog_10_method_1_code 62 = .ok (.newarray .int, 2) := by decide +kernel
theorem d_M_init_64 : decode prog_10_method_1_code 64 = .ok (.putfield 28, 3) := by decide +kernel
theorem d_M_init_67 : decode prog_10_method_1_code 67 = .ok (.aload_n 0, 1) := by decide +kernel
theorem d_M_init_68 : decode prog_10_method_1_code 68 = .ok (.iconst 4, 1) := by decide +kernel
theorem d_M_init_69 : decode prog_10_method_1_code 69 = .ok (.newarray .int, 2) := by decide +kernel
theorem d_M_init_71 : decode prog_10_method_1_code 71 = .ok (.putfield 31, 3) := by decide +kernel
theorem d_M_init_74 : decode prog_10_method_1_code 74 = .ok (.aload_n 0, 1) := by decide +kernel
theorem d_M_init_75 : decode prog_10_method_1_code 75 = .ok (.sipush 402, 3) := by decide +kernel
theorem d_M_init_78 : decode prog_10_method_1_code 78 = .ok (.newarray .int, 2) := by decide +kernel
theorem d_M_init_80 : decode prog_10_method_1_code 80 = .ok (.putfield 34, 3) := by decide +kernel
theorem d_M_init_83 : decode prog_10_method_1_code 83 = .ok (.aload_n 0, 1) := by decide +kernel
theorem d_M_init_84 : decode prog_10_method_1_code 84 = .ok (.bipush 24, 2) := by decide +kernel
theorem d_M_init_86 : decode prog_10_method_1_code 86 = .ok (.newarray .int, 2) := by decide +kernel
theorem d_M_init_88 : decode prog_10_method_1_code 88 = .ok (.putfield 37, 3) := by decide +kernel
theorem d_M_init_91 : decode prog_10_method_1_code 91 = .ok (.aload_n 0, 1) := by decide +kernel
theorem d_M_init_92 : decode prog_10_method_1_code 92 = .ok (.bipush 24, 2) := by decide +kernel
theorem d_M_init_94 : decode prog_10_method_1_code 94 = .ok (.newarray .int, 2) := by decide +kernel
theorem d_M_init_96 : decode prog_10_method_1_code 96 = .ok (.putfield 40, 3) := by decide +kernel
theorem d_M_init_99 : decode prog_10_method_1_code 99 = .ok (.aload_n 0, 1) := by decide +kernel
theorem d_M_init_100 : decode prog_10_method_1_code 100 = .ok (.bipush 24, 2) := by decide +kernel
theorem d_M_init_102 : decode prog_10_method_1_code 102 = .ok (.newarray .int, 2) := by decide +kernel
theorem d_M_init_104 : decode prog_10_method_1_code 104 = .ok (.putfield 43, 3) := by decide +kernel
theorem d_M_init_107 : decode prog_10_method_1_code 107 = .ok (.aload_n 0, 1) := by decide +kernel
theorem d_M_init_108 : decode prog_10_method_1_code 108 = .ok (.bipush 24, 2) := by decide +kernel
theorem d_M_init_110 : decode prog_10_method_1_code 110 = .ok (.newarray .int, 2) := by decide +kernel
theorem d_M_init_112 : decode prog_10_method_1_code 112 = .ok (.putfield 46, 3) := by decide +kernel
theorem d_M_init_115 : decode prog_10_method_1_code 115 = .ok (.aload_n 0, 1) := by decide +kernel
theorem d_M_init_116 : decode prog_10_method_1_code 116 = .ok (.bipush 19, 2) := by decide +kernel
theorem d_M_init_118 : decode prog_10_method_1_code 118 = .ok (.newarray .int, 2) := by decide +kernel
theorem d_M_init_120 : decode prog_10_method_1_code 120 = .ok (.putfield 49, 3) := by decide +kernel
theorem d_M_init_123 : decode prog_10_method_1_code 123 = .ok (.aload_n 0, 1) := by decide +kernel
theorem d_M_init_124 : decode prog_10_method_1_code 124 = .ok (.bipush 19, 2) := by decide +kernel
theorem d_M_init_126 : decode prog_10_method_1_code 126 = .ok (.newarray .int, 2) := by decide +kernel
theorem d_M_init_128 : decode prog_10_method_1_code 128 = .ok (.putfield 52, 3) := by decide +kernel
theorem d_M_init_131 : decode prog_10_method_1_code 131 = .ok (.aload_n 0, 1) := by decide +kernel
theorem d_M_init_132 : decode prog_10_method_1_code 132 = .ok (.bipush 8, 2) := by decide +kernel
theorem d_M_init_134 : decode prog_10_method_1_code 134 = .ok (.newarray .int, 2) := by decide +kernel
theorem d_M_init_136 : decode prog_10_method_1_code 136 = .ok (.putfield 55, 3) := by decide +kernel
theorem d_M_init_139 : decode prog_10_method_1_code 139 = .ok (.aload_n 0, 1) := by decide +kernel
theorem d_M_init_140 : decode prog_10_method_1_code 140 = .ok (.bipush 8, 2) := by decide +kernel
theorem d_M_init_142 : decode prog_10_method_1_code 142 = .ok (.newarray .int, 2) := by decide +kernel
theorem d_M_init_144 : decode prog_10_method_1_code 144 = .ok (.putfield 58, 3) := by decide +kernel
theorem d_M_init_147 : decode prog_10_method_1_code 147 = .ok (.aload_n 0, 1) := by decide +kernel
theorem d_M_init_148 : decode prog_10_method_1_code 148 = .ok (.sipush 3208, 3) := by decide +kernel
theorem d_M_init_151 : decode prog_10_method_1_code 151 = .ok (.newarray .boolean, 2) := by decide +kernel
theorem d_M_init_153 : decode prog_10_method_1_code 153 = .ok (.putfield 61, 3) := by decide +kernel
theorem d_M_init_156 : decode prog_10_method_1_code 156 = .ok (.aload_n 0, 1) := by decide +kernel
theorem d_M_init_157 : decode prog_10_method_1_code 157 = .ok (.bipush 8, 2) := by decide +kernel
theorem d_M_init_159 : decode prog_10_method_1_code 159 = .ok (.newarray .int, 2) := by decide +kernel
theorem d_M_init_161 : decode prog_10_method_1_code 161 = .ok (.putfield 65, 3) := by decide +kernel
theorem d_M_init_164 : decode prog_10_method_1_code 164 = .ok (.aload_n 0, 1) := by decide +kernel
theorem d_M_init_165 : decode prog_10_method_1_code 165 = .ok (.iconst 2, 1) := by decide +kernel
theorem d_M_init_166 : decode prog_10_method_1_code 166 = .ok (.newarray .int, 2) := by decide +kernel
theorem d_M_init_168 : decode prog_10_method_1_code 168 = .ok (.putfield 68, 3) := by decide +kernel
theorem d_M_init_171 : decode prog_10_method_1_code 171 = .ok (.aload_n 0, 1) := by decide +kernel
theorem d_M_init_172 : decode prog_10_method_1_code 172 = .ok (.iconst 2, 1) := by decide +kernel
theorem d_M_init_173 : decode prog_10_method_1_code 173 = .ok (.newarray .int, 2) := by decide +kernel
theorem d_M_init_175 : decode prog_10_method_1_code 175 = .ok (.putfield 71, 3) := by decide +kernel
theorem d_M_init_178 : decode prog_10_method_1_code 178 = .ok (.aload_n 0, 1) := by decide +kernel
theorem d_M_init_179 : decode prog_10_method_1_code 179 = .ok (.sipush 804, 3) := by decide +kernel
theorem d_M_init_182 : decode prog_10_method_1_code 182 = .ok (.newarray .boolean, 2) := by decide +kernel
theorem d_M_init_184 : decode prog_10_method_1_code 184 = .ok (.putfield 74, 3) := by decide +kernel
theorem d_M_init_187 : decode prog_10_method_1_code 187 = .ok (.aload_n 0, 1) := by decide +kernel
theorem d_M_init_188 : decode prog_10_method_1_code 188 = .ok (.iconst 2, 1) := by decide +kernel
theorem d_M_init_189 : decode prog_10_method_1_code 189 = .ok (.newarray .int, 2) := by decide +kernel
theorem d_M_init_191 : decode prog_10_method_1_code 191 = .ok (.putfield 77, 3) := by decide +kernel
theorem d_M_init_194 : decode prog_10_method_1_code 194 = .ok (.aload_n 0, 1) := by decide +kernel
theorem d_M_init_195 : decode prog_10_method_1_code 195 = .ok (.sipush 513, 3) := by decide +kernel
theorem d_M_init_198 : decode prog_10_method_1_code 198 = .ok (.newarray .int, 2) := by decide +kernel
theorem d_M_init_200 : decode prog_10_method_1_code 200 = .ok (.putfield 80, 3) := by decide +kernel
theorem d_M_init_203 : decode prog_10_method_1_code 203 = .ok (.aload_n 0, 1) := by decide +kernel
theorem d_M_init_204 : decode prog_10_method_1_code 204 = .ok (.sipush 513, 3) := by decide +kernel
theorem d_M_init_207 : decode prog_10_method_1_code 207 = .ok (.newarray .int, 2) := by decide +kernel
theorem d_M_init_209 : decode prog_10_method_1_code 209 = .ok (.putfield 83, 3) := by decide +kernel
theorem d_M_init_212 : decode prog_10_method_1_code 212 = .ok (.aload_n 0, 1) := by decide +kernel
theorem d_M_init_213 : decode prog_10_method_1_code 213 = .ok (.sipush 513, 3) := by decide +kernel
theorem d_M_init_216 : decode prog_10_method_1_code 216 = .ok (.newarray .int, 2) := by decide +kernel
theorem d_M_init_218 : decode prog_10_method_1_code 218 = .ok (.putfield 86, 3) := by decide +kernel
theorem d_M_init_221 : decode prog_10_method_1_code 221 = .ok (.aload_n 0, 1) := by decide +kernel
theorem d_M_init_222 : decode prog_10_method_1_code 222 = .ok (.bipush 8, 2) := by decide +kernel
theorem d_M_init_224 : decode prog_10_method_1_code 224 = .ok (.newarray .int, 2) := by decide +kernel
theorem d_M_init_226 : decode prog_10_method_1_code 226 = .ok (.putfield 89, 3) := by decide +kernel
theorem d_M_init_229 : decode prog_10_method_1_code 229 = .ok (.aload_n 0, 1) := by decide +kernel
theorem d_M_init_230 : decode prog_10_method_1_code 230 = .ok (.iconst 2, 1) := by decide +kernel
theorem d_M_init_231 : decode prog_10_method_1_code 231 = .ok (.newarray .int, 2) := by decide +kernel
theorem d_M_init_233 : decode prog_10_method_1_code 233 = .ok (.putfield 92, 3) := by decide +kernel
theorem d_M_init_236 : decode prog_10_method_1_code 236 = .ok (.aload_n 0, 1) := by decide +kernel
theorem d_M_init_237 : decode prog_10_method_1_code 237 = .ok (.bipush 38, 2) := by decide +kernel
theorem d_M_init_239 : decode prog_10_method_1_code 239 = .ok (.newarray .int, 2) := by decide +kernel
theorem d_M_init_241 : decode prog_10_method_1_code 241 = .ok (.putfield 95, 3) := by decide +kernel
theorem d_M_init_244 : decode prog_10_method_1_code 244 = .ok (.aload_n 0, 1) := by decide +kernel
theorem d_M_init_245 : decode prog_10_method_1_code 245 = .ok (.iconst 2, 1) := by decide +kernel
theorem d_M_init_246 : decode prog_10_method_1_code 246 = .ok (.newarray .boolean, 2) := by decide +kernel
theorem d_M_init_248 : decode prog_10_method_1_code 248 = .ok (.putfield 98, 3) := by decide +kernel
theorem d_M_init_251 : decode prog_10_method_1_code 251 = .ok (.aload_n 0, 1) := by decide +kernel
theorem d_M_init_252 : decode prog_10_method_1_code 252 = .ok (.getfield 68, 3) := by decide +kernel
theorem d_M_init_255 : decode prog_10_method_1_code 255 = .ok (.iconst 0, 1) := by decide +kernel
theorem d_M_init_256 : decode prog_10_method_1_code 256 = .ok (.iconst 1, 1) := by decide +kernel
theorem d_M_init_257 : decode prog_10_method_1_code 257 = .ok (.iastore, 1) := by decide +kernel
theorem d_M_init_258 : decode prog_10_method_1_code 258 = .ok (.aload_n 0, 1) := by decide +kernel
theorem d_M_init_259 : decode prog_10_method_1_code 259 = .ok (.getfield 68, 3) := by decide +kernel
theorem d_M_init_262 : decode prog_10_method_1_code 262 = .ok (.iconst 1, 1) := by decide +kernel
theorem d_M_init_263 : decode prog_10_method_1_code 263 = .ok (.iconst 1, 1) := by decide +kernel
theorem d_M_init_264 : decode prog_10_method_1_code 264 = .ok (.iastore, 1) := by decide +kernel
theorem d_M_init_265 : decode prog_10_method_1_code 265 = .ok (.return_, 1) := by decide +kernel
theorem d_M_add_0 : decode prog_10_method_16_code 0 = .ok (.iload_n 1, 1) := by decide +kernel
theorem d_M_add_1 : decode prog_10_method_16_code 1 = .ok (.invokestatic 151, 3) := by decide +kernel
theorem d_M_add_4 : decode prog_10_method_16_code 4 = .ok (.ifCond .eq 46, 3) := by decide +kernel
theorem d_M_add_7 : decode prog_10_method_16_code 7 = .ok (.iload_n 2, 1) := by decide +kernel
theorem d_M_add_8 : decode prog_10_method_16_code 8 = .ok (.invokestatic 155, 3) := by decide +kernel
theorem d_M_add_11 : decode prog_10_method_16_code 11 = .ok (.ifCond .eq 39, 3) := by decide +kernel
theorem d_M_add_14 : decode prog_10_method_16_code 14 = .ok (.iload_n 3, 1) := by decide +kernel
theorem d_M_add_15 : decode prog_10_method_16_code 15 = .ok (.iconst 0, 1) := by decide +kernel
theorem d_M_add_16 : decode prog_10_method_16_code 16 = .ok (.iconst 1, 1) := by decide +kernel
theorem d_M_add_17 : decode prog_10_method_16_code 17 = .ok (.invokestatic 101, 3) := by decide +kernel
theorem d_M_add_20 : decode prog_10_method_16_code 20 = .ok (.ifCond .eq 30, 3) := by decide +kernel
theorem d_M_add_23 : decode prog_10_method_16_code 23 = .ok (.iload 4, 2) := by decide +kernel
theorem d_M_add_25 : decode prog_10_method_16_code 25 = .ok (.ldc 158, 2) := by decide +kernel
theorem d_M_add_27 : decode prog_10_method_16_code 27 = .ok (.ldc 105, 2) := by decide +kernel
theorem d_M_add_29 : decode prog_10_method_16_code 29 = .ok (.invokestatic 101, 3) := by decide +kernel
theorem d_M_add_32 : decode prog_10_method_16_code 32 = .ok (.ifCond .eq 18, 3) := by decide +kernel
theorem d_M_add_35 : decode prog_10_method_16_code 35 = .ok (.iload 5, 2) := by decide +kernel
theorem d_M_add_37 : decode prog_10_method_16_code 37 = .ok (.iconst 1, 1) := by decide +kernel
theorem d_M_add_38 : decode prog_10_method_16_code 38 = .ok (.ldc 105, 2) := by decide +kernel
theorem d_M_add_40 : decode prog_10_method_16_code 40 = .ok (.invokestatic 101, 3) := by decide +kernel
theorem d_M_add_43 : decode prog_10_method_16_code 43 = .ok (.ifCond .eq 7, 3) := by decide +kernel
theorem d_M_add_46 : decode prog_10_method_16_code 46 = .ok (.iconst 1, 1) := by decide +kernel
theorem d_M_add_47 : decode prog_10_method_16_code 47 = .ok (.goto 4, 3) := by decide +kernel
theorem d_M_add_50 : decode prog_10_method_16_code 50 = .ok (.iconst 0, 1) := by decide +kernel
theorem d_M_add_51 : decode prog_10_method_16_code 51 = .ok (.istore 6, 2) := by decide +kernel
theorem d_M_add_53 : decode prog_10_method_16_code 53 = .ok (.iload 6, 2) := by decide +kernel
theorem d_M_add_55 : decode prog_10_method_16_code 55 = .ok (.ifCond .eq 18, 3) := by decide +kernel
theorem d_M_add_58 : decode prog_10_method_16_code 58 = .ok (.aload_n 0, 1) := by decide +kernel
theorem d_M_add_59 : decode prog_10_method_16_code 59 = .ok (.iconst 0, 1) := by decide +kernel
theorem d_M_add_60 : decode prog_10_method_16_code 60 = .ok (.iload_n 1, 1) := by decide +kernel
theorem d_M_add_61 : decode prog_10_method_16_code 61 = .ok (.iload_n 2, 1) := by decide +kernel
theorem d_M_add_62 : decode prog_10_method_16_code 62 = .ok (.iload_n 3, 1) := by decide +kernel
theorem d_M_add_63 : decode prog_10_method_16_code 63 = .ok (.iload 4, 2) := by decide +kernel
theorem d_M_add_65 : decode prog_10_method_16_code 65 = .ok (.iload 5, 2) := by decide +kernel
theorem d_M_add_67 : decode prog_10_method_16_code 67 = .ok (.invokevirtual 159, 3) := by decide +kernel
theorem d_M_add_70 : decode prog_10_method_16_code 70 = .ok (.goto 5, 3) := by decide +kernel
theorem d_M_add_73 : decode prog_10_method_16_code 73 = .ok (.bipush (-2), 2) := by decide +kernel
theorem d_M_add_75 : decode prog_10_method_16_code 75 = .ok (.ireturn, 1) := by decide +kernel
theorem d_M_isInstrument_0 : decode prog_10_method_3_code 0 = .ok (.iload_n 0, 1) := by decide +kernel
theorem d_M_isInstrument_1 : decode prog_10_method_3_code 1 = .ok (.iconst 0, 1) := by decide +kernel
theorem d_M_isInstrument_2 : decode prog_10_method_3_code 2 = .ok (.iconst 3, 1) := by decide +kernel
theorem d_M_isInstrument_3 : decode prog_10_method_3_code 3 = .ok (.invokestatic 101, 3) := by decide +kernel
theorem d_M_isInstrument_6 : decode prog_10_method_3_code 6 = .ok (.ireturn, 1) := by decide +kernel
theorem d_M_within_0 : decode prog_10_method_2_code 0 = .ok (.iload_n 0, 1) := by decide +kernel
theorem d_M_within_1 : decode prog_10_method_2_code 1 = .ok (.iload_n 1, 1) := by decide +kernel
theorem d_M_within_2 : decode prog_10_method_2_code 2 = .ok (.if_icmp .lt 12, 3) := by decide +kernel
theorem d_M_within_5 : decode prog_10_method_2_code 5 = .ok (.iload_n 0, 1) := by decide +kernel
theorem d_M_within_6 : decode prog_10_method_2_code 6 = .ok (.iload_n 2, 1) := by decide +kernel
theorem d_M_within_7 : decode prog_10_method_2_code 7 = .ok (.if_icmp .gt 7, 3) := by decide +kernel
theorem d_M_within_10 : decode prog_10_method_2_code 10 = .ok (.iconst 1, 1) := by decide +kernel
theorem d_M_within_11 : decode prog_10_method_2_code 11 = .ok (.goto 4, 3) := by decide +kernel
theorem d_M_within_14 : decode prog_10_method_2_code 14 = .ok (.iconst 0, 1) := by decide +kernel
theorem d_M_within_15 : decode prog_10_method_2_code 15 = .ok (.ireturn, 1) := by decide +kernel
theorem d_M_isId_0 : decode prog_10_method_4_code 0 = .ok (.iload_n 0, 1) := by decide +kernel
theorem d_M_isId_1 : decode prog_10_method_4_code 1 = .ok (.iconst 1, 1) := by decide +kernel
theorem d_M_isId_2 : decode prog_10_method_4_code 2 = .ok (.ldc 105, 2) := by decide +kernel
theorem d_M_isId_4 : decode prog_10_method_4_code 4 = .ok (.invokestatic 101, 3) := by decide +kernel
theorem d_M_isId_7 : decode prog_10_method_4_code 7 = .ok (.ireturn, 1) := by decide +kernel
theorem d_M_take_0 : decode prog_10_method_15_code 0 = .ok (.aload_n 0, 1) := by decide +kernel
theorem d_M_take_1 : decode prog_10_method_15_code 1 = .ok (.iload_n 2, 1) := by decide +kernel
theorem d_M_take_2 : decode prog_10_method_15_code 2 = .ok (.aload_n 0, 1) := by decide +kernel
theorem d_M_take_3 : decode prog_10_method_15_code 3 = .ok (.getfield 31, 3) := by decide +kernel
theorem d_M_take_6 : decode prog_10_method_15_code 6 = .ok (.iload_n 2, 1) := by decide +kernel
theorem d_M_take_7 : decode prog_10_method_15_code 7 = .ok (.iaload, 1) := by decide +kernel
theorem d_M_take_8 : decode prog_10_method_15_code 8 = .ok (.invokevirtual 144, 3) := by decide +kernel
theorem d_M_take_11 : decode prog_10_method_15_code 11 = .ok (.aload_n 0, 1) := by decide +kernel
theorem d_M_take_12 : decode prog_10_method_15_code 12 = .ok (.iload_n 3, 1) := by decide +kernel
theorem d_M_take_13 : decode prog_10_method_15_code 13 = .ok (.invokevirtual 110, 3) := by decide +kernel
theorem d_M_take_16 : decode prog_10_method_15_code 16 = .ok (.istore 7, 2) := by decide +kernel
theorem d_M_take_18 : decode prog_10_method_15_code 18 = .ok (.iload_n 1, 1) := by decide +kernel
theorem d_M_take_19 : decode prog_10_method_15_code 19 = .ok (.ifCond .ne 25, 3) := by decide +kernel
theorem d_M_take_22 : decode prog_10_method_15_code 22 = .ok (.iload 7, 2) := by decide +kernel
theorem d_M_take_24 : decode prog_10_method_15_code 24 = .ok (.ifCond .ge 16, 3) := by decide +kernel
theorem d_M_take_27 : decode prog_10_method_15_code 27 = .ok (.aload_n 0, 1) := by decide +kernel
theorem d_M_take_28 : decode prog_10_method_15_code 28 = .ok (.getfield 106, 3) := by decide +kernel
theorem d_M_take_31 : decode prog_10_method_15_code 31 = .ok (.bipush 24, 2) := by decide +kernel
theorem d_M_take_33 : decode prog_10_method_15_code 33 = .ok (.if_icmp .ge 7, 3) := by decide +kernel
theorem d_M_take_36 : decode prog_10_method_15_code 36 = .ok (.iconst 1, 1) := by decide +kernel
theorem d_M_take_37 : decode prog_10_method_15_code 37 = .ok (.goto 75, 3) := by decide +kernel
theorem d_M_take_40 : decode prog_10_method_15_code 40 = .ok (.iconst 0, 1) := by decide +kernel
theorem d_M_take_41 : decode prog_10_method_15_code 41 = .ok (.goto 71, 3) := by decide +kernel
theorem d_M_take_44 : decode prog_10_method_15_code 44 = .ok (.iload_n 1, 1) := by decide +kernel
theorem d_M_take_45 : decode prog_10_method_15_code 45 = .ok (.iconst 1, 1) := by decide +kernel
theorem d_M_take_46 : decode prog_10_method_15_code 46 = .ok (.if_icmp .ne 28, 3) := by decide +kernel
theorem d_M_take_49 : decode prog_10_method_15_code 49 = .ok (.iload 7, 2) := by decide +kernel
theorem d_M_take_51 : decode prog_10_method_15_code 51 = .ok (.ifCond .lt 19, 3) := by decide +kernel
theorem d_M_take_54 : decode prog_10_method_15_code 54 = .ok (.iload 6, 2) := by decide +kernel
theorem d_M_take_56 : decode prog_10_method_15_code 56 = .ok (.aload_n 0, 1) := by decide +kernel
theorem d_M_take_57 : decode prog_10_method_15_code 57 = .ok (.getfield 46, 3) := by decide +kernel
theorem d_M_take_60 : decode prog_10_method_15_code 60 = .ok (.iload 7, 2) := by decide +kernel
theorem d_M_take_62 : decode prog_10_method_15_code 62 = .ok (.iaload, 1) := by decide +kernel
theorem d_M_take_63 : decode prog_10_method_15_code 63 = .ok (.if_icmp .ge 7, 3) := by decide +kernel
theorem d_M_take_66 : decode prog_10_method_15_code 66 = .ok (.iconst 1, 1) := by decide +kernel
theorem d_M_take_67 : decode prog_10_method_15_code 67 = .ok (.goto 45, 3) := by decide +kernel
theorem d_M_take_70 : decode prog_10_method_15_code 70 = .ok (.iconst 0, 1) := by decide +kernel
theorem d_M_take_71 : decode prog_10_method_15_code 71 = .ok (.goto 41, 3) := by decide +kernel
theorem d_M_take_74 : decode prog_10_method_15_code 74 = .ok (.iload_n 1, 1) := by decide +kernel
theorem d_M_take_75 : decode prog_10_method_15_code 75 = .ok (.iconst 2, 1) := by decide +kernel
theorem d_M_take_76 : decode prog_10_method_15_code 76 = .ok (.if_icmp .ne 35, 3) := by decide +kernel
theorem d_M_take_79 : decode prog_10_method_15_code 79 = .ok (.iload 7, 2) := by decide +kernel
theorem d_M_take_81 : decode prog_10_method_15_code 81 = .ok (.ifCond .lt 26, 3) := by decide +kernel
theorem d_M_take_84 : decode prog_10_method_15_code 84 = .ok (.aload_n 0, 1) := by decide +kernel
theorem d_M_take_85 : decode prog_10_method_15_code 85 = .ok (.getfield 118, 3) := by decide +kernel
theorem d_M_take_88 : decode prog_10_method_15_code 88 = .ok (.ifCond .ne 19, 3) := by decide +kernel
theorem d_M_take_91 : decode prog_10_method_15_code 91 = .ok (.iload 6, 2) := by decide +kernel
theorem d_M_take_93 : decode prog_10_method_15_code 93 = .ok (.aload_n 0, 1) := by decide +kernel
theorem d_M_take_94 : decode prog_10_method_15_code 94 = .ok (.getfield 46, 3) := by decide +kernel
theorem d_M_take_97 : decode prog_10_method_15_code 97 = .ok (.iload 7, 2) := by decide +kernel
theorem d_M_take_99 : decode prog_10_method_15_code 99 = .ok (.iaload, 1) := by decide +kernel
theorem d_M_take_100 : decode prog_10_method_15_code 100 = .ok (.if_icmp .gt 7, 3) := by decide +kernel
theorem d_M_take_103 : decode prog_10_method_15_code 103 = .ok (.iconst 1, 1) := by decide +kernel
theorem d_M_take_104 : decode prog_10_method_15_code 104 = .ok (.goto 8, 3) := by decide +kernel
theorem d_M_take_107 : decode prog_10_method_15_code 107 = .ok (.iconst 0, 1) := by decide +kernel
theorem d_M_take_108 : decode prog_10_method_15_code 108 = .ok (.goto 4, 3) := by decide +kernel
theorem d_M_take_111 : decode prog_10_method_15_code 111 = .ok (.iconst 1, 1) := by decide +kernel
theorem d_M_take_112 : decode prog_10_method_15_code 112 = .ok (.istore 8, 2) := by decide +kernel
theorem d_M_take_114 : decode prog_10_method_15_code 114 = .ok (.iload_n 1, 1) := by decide +kernel
theorem d_M_take_115 : decode prog_10_method_15_code 115 = .ok (.iconst 3, 1) := by decide +kernel
theorem d_M_take_116 : decode prog_10_method_15_code 116 = .ok (.if_icmp .ne 8, 3) := by decide +kernel
theorem d_M_take_119 : decode prog_10_method_15_code 119 = .ok (.iload 7, 2) := by decide +kernel
theorem d_M_take_121 : decode prog_10_method_15_code 121 = .ok (.ifCond .lt 26, 3) := by decide +kernel
theorem d_M_take_124 : decode prog_10_method_15_code 124 = .ok (.iload_n 1, 1) := by decide +kernel
theorem d_M_take_125 : decode prog_10_method_15_code 125 = .ok (.iconst 4, 1) := by decide +kernel
theorem d_M_take_126 : decode prog_10_method_15_code 126 = .ok (.if_icmp .ne 24, 3) := by decide +kernel
theorem d_M_take_129 : decode prog_10_method_15_code 129 = .ok (.aload_n 0, 1) := by decide +kernel
theorem d_M_take_130 : decode prog_10_method_15_code 130 = .ok (.getfield 118, 3) := by decide +kernel
theorem d_M_take_133 : decode prog_10_method_15_code 133 = .ok (.iload 6, 2) := by decide +kernel
theorem d_M_take_135 : decode prog_10_method_15_code 135 = .ok (.iconst 1, 1) := by decide +kernel
theorem d_M_take_136 : decode prog_10_method_15_code 136 = .ok (.if_icmp .ne 7, 3) := by decide +kernel
theorem d_M_take_139 : decode prog_10_method_15_code 139 = .ok (.iconst 1, 1) := by decide +kernel
theorem d_M_take_140 : decode prog_10_method_15_code 140 = .ok (.goto 4, 3) := by decide +kernel
theorem d_M_take_143 : decode prog_10_method_15_code 143 = .ok (.iconst 0, 1) := by decide +kernel
theorem d_M_take_144 : decode prog_10_method_15_code 144 = .ok (.if_icmp .ne 6, 3) := by decide +kernel
theorem d_M_take_147 : decode prog_10_method_15_code 147 = .ok (.iconst 0, 1) := by decide +kernel
theorem d_M_take_148 : decode prog_10_method_15_code 148 = .ok (.istore 8, 2) := by decide +kernel
theorem d_M_take_150 : decode prog_10_method_15_code 150 = .ok (.iload 8, 2) := by decide +kernel
theorem d_M_take_152 : decode prog_10_method_15_code 152 = .ok (.ifCond .ne 6, 3) := by decide +kernel
theorem d_M_take_155 : decode prog_10_method_15_code 155 = .ok (.bipush (-3), 2) := by decide +kernel
theorem d_M_take_157 : decode prog_10_method_15_code 157 = .ok (.ireturn, 1) := by decide +kernel
theorem d_M_take_158 : decode prog_10_method_15_code 158 = .ok (.aload_n 0, 1) := by decide +kernel
theorem d_M_take_159 : decode prog_10_method_15_code 159 = .ok (.getfield 122, 3) := by decide +kernel
theorem d_M_take_162 : decode prog_10_method_15_code 162 = .ok (.sipush 400, 3) := by decide +kernel
theorem d_M_take_165 : decode prog_10_method_15_code 165 = .ok (.if_icmp .eq 23, 3) := by decide +kernel
theorem d_M_take_168 : decode prog_10_method_15_code 168 = .ok (.aload_n 0, 1) := by decide +kernel
theorem d_M_take_169 : decode prog_10_method_15_code 169 = .ok (.getfield 122, 3) := by decide +kernel
theorem d_M_take_172 : decode prog_10_method_15_code 172 = .ok (.aload_n 0, 1) := by decide +kernel
theorem d_M_take_173 : decode prog_10_method_15_code 173 = .ok (.getfield 34, 3) := by decide +kernel
theorem d_M_take_176 : decode prog_10_method_15_code 176 = .ok (.aload_n 0, 1) := by decide +kernel
theorem d_M_take_177 : decode prog_10_method_15_code 177 = .ok (.getfield 148, 3) := by decide +kernel
theorem d_M_take_180 : decode prog_10_method_15_code 180 = .ok (.iconst 1, 1) := by decide +kernel
theorem d_M_take_181 : decode prog_10_method_15_code 181 = .ok (.iadd, 1) := by decide +kernel
theorem d_M_take_182 : decode prog_10_method_15_code 182 = .ok (.iaload, 1) := by decide +kernel
theorem d_M_take_183 : decode prog_10_method_15_code 183 = .ok (.isub, 1) := by decide +kernel
theorem d_M_take_184 : decode prog_10_method_15_code 184 = .ok (.iconst 5, 1) := by decide +kernel
theorem d_M_take_185 : decode prog_10_method_15_code 185 = .ok (.if_icmp .ne 6, 3) := by decide +kernel
theorem d_M_take_188 : decode prog_10_method_15_code 188 = .ok (.bipush (-4), 2) := by decide +kernel
theorem d_M_take_190 : decode prog_10_method_15_code 190 = .ok (.ireturn, 1) := by decide +kernel
theorem d_M_take_191 : decode prog_10_method_15_code 191 = .ok (.aload_n 0, 1) := by decide +kernel
theorem d_M_take_192 : decode prog_10_method_15_code 192 = .ok (.getfield 7, 3) := by decide +kernel
theorem d_M_take_195 : decode prog_10_method_15_code 195 = .ok (.aload_n 0, 1) := by decide +kernel
theorem d_M_take_196 : decode prog_10_method_15_code 196 = .ok (.getfield 122, 3) := by decide +kernel
theorem d_M_take_199 : decode prog_10_method_15_code 199 = .ok (.iload_n 1, 1) := by decide +kernel
theorem d_M_take_200 : decode prog_10_method_15_code 200 = .ok (.iastore, 1) := by decide +kernel
theorem d_M_take_201 : decode prog_10_method_15_code 201 = .ok (.aload_n 0, 1) := by decide +kernel
theorem d_M_take_202 : decode prog_10_method_15_code 202 = .ok (.getfield 13, 3) := by decide +kernel
theorem d_M_take_205 : decode prog_10_method_15_code 205 = .ok (.aload_n 0, 1) := by decide +kernel
theorem d_M_take_206 : decode prog_10_method_15_code 206 = .ok (.getfield 122, 3) := by decide +kernel
theorem d_M_take_209 : decode prog_10_method_15_code 209 = .ok (.iload_n 2, 1) := by decide +kernel
theorem d_M_take_210 : decode prog_10_method_15_code 210 = .ok (.iastore, 1) := by decide +kernel
theorem d_M_take_211 : decode prog_10_method_15_code 211 = .ok (.aload_n 0, 1) := by decide +kernel
theorem d_M_take_212 : decode prog_10_method_15_code 212 = .ok (.getfield 31, 3) := by decide +kernel
theorem d_M_take_215 : decode prog_10_method_15_code 215 = .ok (.iload_n 2, 1) := by decide +kernel
theorem d_M_take_216 : decode prog_10_method_15_code 216 = .ok (.dup2, 1) := by decide +kernel
theorem d_M_take_217 : decode prog_10_method_15_code 217 = .ok (.iaload, 1) := by decide +kernel
theorem d_M_take_218 : decode prog_10_method_15_code 218 = .ok (.iconst 1, 1) := by decide +kernel
theorem d_M_take_219 : decode prog_10_method_15_code 219 = .ok (.iadd, 1) := by decide +kernel
theorem d_M_take_220 : decode prog_10_method_15_code 220 = .ok (.iastore, 1) := by decide +kernel
theorem d_M_take_221 : decode prog_10_method_15_code 221 = .ok (.aload_n 0, 1) := by decide +kernel
theorem d_M_take_222 : decode prog_10_method_15_code 222 = .ok (.getfield 16, 3) := by decide +kernel
theorem d_M_take_225 : decode prog_10_method_15_code 225 = .ok (.aload_n 0, 1) := by decide +kernel
theorem d_M_take_226 : decode prog_10_method_15_code 226 = .ok (.getfield 122, 3) := by decide +kernel
theorem d_M_take_229 : decode prog_10_method_15_code 229 = .ok (.aload_n 0, 1) := by decide +kernel
theorem d_M_take_230 : decode prog_10_method_15_code 230 = .ok (.getfield 31, 3) := by decide +kernel
theorem d_M_take_233 : decode prog_10_method_15_code 233 = .ok (.iload_n 2, 1) := by decide +kernel
theorem d_M_take_234 : decode prog_10_method_15_code 234 = .ok (.iaload, 1) := by decide +kernel
theorem d_M_take_235 : decode prog_10_method_15_code 235 = .ok (.iastore, 1) := by decide +kernel
theorem d_M_take_236 : decode prog_10_method_15_code 236 = .ok (.aload_n 0, 1) := by decide +kernel
theorem d_M_take_237 : decode prog_10_method_15_code 237 = .ok (.getfield 19, 3) := by decide +kernel
theorem d_M_take_240 : decode prog_10_method_15_code 240 = .ok (.aload_n 0, 1) := by decide +kernel
theorem d_M_take_241 : decode prog_10_method_15_code 241 = .ok (.getfield 122, 3) := by decide +kernel
theorem d_M_take_244 : decode prog_10_method_15_code 244 = .ok (.iload_n 3, 1) := by decide +kernel
theorem d_M_take_245 : decode prog_10_method_15_code 245 = .ok (.iastore, 1) := by decide +kernel
theorem d_M_take_246 : decode prog_10_method_15_code 246 = .ok (.aload_n 0, 1) := by decide +kernel
theorem d_M_take_247 : decode prog_10_method_15_code 247 = .ok (.getfield 22, 3) := by decide +kernel
theorem d_M_take_250 : decode prog_10_method_15_code 250 = .ok (.aload_n 0, 1) := by decide +kernel
theorem d_M_take_251 : decode prog_10_method_15_code 251 = .ok (.getfield 122, 3) := by decide +kernel
theorem d_M_take_254 : decode prog_10_method_15_code 254 = .ok (.iload 4, 2) := by decide +kernel
theorem d_M_take_256 : decode prog_10_method_15_code 256 = .ok (.iastore, 1) := by decide +kernel
theorem d_M_take_257 : decode prog_10_method_15_code 257 = .ok (.aload_n 0, 1) := by decide +kernel
theorem d_M_take_258 : decode prog_10_method_15_code 258 = .ok (.getfield 25, 3) := by decide +kernel
theorem d_M_take_261 : decode prog_10_method_15_code 261 = .ok (.aload_n 0, 1) := by decide +kernel
theorem d_M_take_262 : decode prog_10_method_15_code 262 = .ok (.getfield 122, 3) := by decide +kernel
theorem d_M_take_265 : decode prog_10_method_15_code 265 = .ok (.iload 5, 2) := by decide +kernel
theorem d_M_take_267 : decode prog_10_method_15_code 267 = .ok (.iastore, 1) := by decide +kernel
theorem d_M_take_268 : decode prog_10_method_15_code 268 = .ok (.aload_n 0, 1) := by decide +kernel
theorem d_M_take_269 : decode prog_10_method_15_code 269 = .ok (.getfield 28, 3) := by decide +kernel
theorem d_M_take_272 : decode prog_10_method_15_code 272 = .ok (.aload_n 0, 1) := by decide +kernel
theorem d_M_take_273 : decode prog_10_method_15_code 273 = .ok (.getfield 122, 3) := by decide +kernel
theorem d_M_take_276 : decode prog_10_method_15_code 276 = .ok (.iload 6, 2) := by decide +kernel
theorem d_M_take_278 : decode prog_10_method_15_code 278 = .ok (.iastore, 1) := by decide +kernel
theorem d_M_take_279 : decode prog_10_method_15_code 279 = .ok (.aload_n 0, 1) := by decide +kernel
theorem d_M_take_280 : decode prog_10_method_15_code 280 = .ok (.dup, 1) := by decide +kernel
theorem d_M_take_281 : decode prog_10_method_15_code 281 = .ok (.getfield 122, 3) := by decide +kernel
theorem d_M_take_284 : decode prog_10_method_15_code 284 = .ok (.iconst 1, 1) := by decide +kernel
theorem d_M_take_285 : decode prog_10_method_15_code 285 = .ok (.iadd, 1) := by decide +kernel
theorem d_M_take_286 : decode prog_10_method_15_code 286 = .ok (.putfield 122, 3) := by decide +kernel
theorem d_M_take_289 : decode prog_10_method_15_code 289 = .ok (.aload_n 0, 1) := by decide +kernel
theorem d_M_take_290 : decode prog_10_method_15_code 290 = .ok (.getfield 31, 3) := by decide +kernel
theorem d_M_take_293 : decode prog_10_method_15_code 293 = .ok (.iload_n 2, 1) := by decide +kernel
theorem d_M_take_294 : decode prog_10_method_15_code 294 = .ok (.iaload, 1) := by decide +kernel
theorem d_M_take_295 : decode prog_10_method_15_code 295 = .ok (.ireturn, 1) := by decide +kernel
theorem d_M_goOver_0 : decode prog_10_method_9_code 0 = .ok (.aload_n 0, 1) := by decide +kernel
theorem d_M_goOver_1 : decode prog_10_method_9_code 1 = .ok (.iconst 0, 1) := by decide +kernel
theorem d_M_goOver_2 : decode prog_10_method_9_code 2 = .ok (.putfield 106, 3) := by decide +kernel
theorem d_M_goOver_5 : decode prog_10_method_9_code 5 = .ok (.aload_n 0, 1) := by decide +kernel
theorem d_M_goOver_6 : decode prog_10_method_9_code 6 = .ok (.iconst 0, 1) := by decide +kernel
theorem d_M_goOver_7 : decode prog_10_method_9_code 7 = .ok (.putfield 118, 3) := by decide +kernel
theorem d_M_goOver_10 : decode prog_10_method_9_code 10 = .ok (.iconst 0, 1) := by decide +kernel
theorem d_M_goOver_11 : decode prog_10_method_9_code 11 = .ok (.istore_n 3, 1) := by decide +kernel
theorem d_M_goOver_12 : decode prog_10_method_9_code 12 = .ok (.iload_n 3, 1) := by decide +kernel
theorem d_M_goOver_13 : decode prog_10_method_9_code 13 = .ok (.aload_n 0, 1) := by decide +kernel
theorem d_M_goOver_14 : decode prog_10_method_9_code 14 = .ok (.getfield 122, 3) := by decide +kernel
theorem d_M_goOver_17 : decode prog_10_method_9_code 17 = .ok (.if_icmp .ge 34, 3) := by decide +kernel
theorem d_M_goOver_20 : decode prog_10_method_9_code 20 = .ok (.aload_n 0, 1) := by decide +kernel
theorem d_M_goOver_21 : decode prog_10_method_9_code 21 = .ok (.getfield 13, 3) := by decide +kernel
theorem d_M_goOver_24 : decode prog_10_method_9_code 24 = .ok (.iload_n 3, 1) := by decide +kernel
theorem d_M_goOver_25 : decode prog_10_method_9_code 25 = .ok (.iaload, 1) := by decide +kernel
theorem d_M_goOver_26 : decode prog_10_method_9_code 26 = .ok (.iload_n 1, 1) := by decide +kernel
theorem d_M_goOver_27 : decode prog_10_method_9_code 27 = .ok (.if_icmp .ne 18, 3) := by decide +kernel
theorem d_M_goOver_30 : decode prog_10_method_9_code 30 = .ok (.aload_n 0, 1) := by decide +kernel
theorem d_M_goOver_31 : decode prog_10_method_9_code 31 = .ok (.getfield 16, 3) := by decide +kernel
theorem d_M_goOver_34 : decode prog_10_method_9_code 34 = .ok (.iload_n 3, 1) := by decide +kernel
theorem d_M_goOver_35 : decode prog_10_method_9_code 35 = .ok (.iaload, 1) := by decide +kernel
theorem d_M_goOver_36 : decode prog_10_method_9_code 36 = .ok (.iload_n 2, 1) := by decide +kernel
theorem d_M_goOver_37 : decode prog_10_method_9_code 37 = .ok (.if_icmp .gt 8, 3) := by decide +kernel
theorem d_M_goOver_40 : decode prog_10_method_9_code 40 = .ok (.aload_n 0, 1) := by decide +kernel
theorem d_M_goOver_41 : decode prog_10_method_9_code 41 = .ok (.iload_n 3, 1) := by decide +kernel
theorem d_M_goOver_42 : decode prog_10_method_9_code 42 = .ok (.invokevirtual 125, 3) := by decide +kernel
theorem d_M_goOver_45 : decode prog_10_method_9_code 45 = .ok (.iinc 3 1, 3) := by decide +kernel
theorem d_M_goOver_48 : decode prog_10_method_9_code 48 = .ok (.goto (-36), 3) := by decide +kernel
theorem d_M_goOver_51 : decode prog_10_method_9_code 51 = .ok (.return_, 1) := by decide +kernel
end
section
/-! the instructions (by program, from the listing) -/
theorem d_M_perform_0 : decode prog_10_method_8_code 0 = .ok (.aload_n 0, 1) := by decide +kernel
theorem d_M_perform_1 : decode prog_10_method_8_code 1 = .ok (.aload_n 0, 1) := by decide +kernel
theorem d_M_perform_2 : decode prog_10_method_8_code 2 = .ok (.getfield 19, 3) := by decide +kernel
theorem d_M_perform_5 : decode prog_10_method_8_code 5 = .ok (.iload_n 1, 1) := by decide +kernel
theorem d_M_perform_6 : decode prog_10_method_8_code 6 = .ok (.iaload, 1) := by decide +kernel
theorem d_M_perform_7 : decode prog_10_method_8_code 7 = .ok (.invokevirtual 110, 3) := by decide +kernel
theorem d_M_perform_10 : decode prog_10_method_8_code 10 = .ok (.istore_n 2, 1) := by decide +kernel
theorem d_M_perform_11 : decode prog_10_method_8_code 11 = .ok (.aload_n 0, 1) := by decide +kernel
theorem d_M_perform_12 : decode prog_10_method_8_code 12 = .ok (.getfield 7, 3) := by decide +kernel
theorem d_M_perform_15 : decode prog_10_method_8_code 15 = .ok (.iload_n 1, 1) := by decide +kernel
theorem d_M_perform_16 : decode prog_10_method_8_code 16 = .ok (.iaload, 1) := by decide +kernel
theorem d_M_perform_17 : decode prog_10_method_8_code 17 = .ok (.ifCond .ne 73, 3) := by decide +kernel
theorem d_M_perform_20 : decode prog_10_method_8_code 20 = .ok (.aload_n 0, 1) := by decide +kernel
theorem d_M_perform_21 : decode prog_10_method_8_code 21 = .ok (.getfield 37, 3) := by decide +kernel
theorem d_M_perform_24 : decode prog_10_method_8_code 24 = .ok (.aload_n 0, 1) := by decide +kernel
theorem d_M_perform_25 : decode prog_10_method_8_code 25 = .ok (.getfield 106, 3) := by decide +kernel
theorem d_M_perform_28 : decode prog_10_method_8_code 28 = .ok (.aload_n 0, 1) := by decide +kernel
theorem d_M_perform_29 : decode prog_10_method_8_code 29 = .ok (.getfield 19, 3) := by decide +kernel
theorem d_M_perform_32 : decode prog_10_method_8_code 32 = .ok (.iload_n 1, 1) := by decide +kernel
theorem d_M_perform_33 : decode prog_10_method_8_code 33 = .ok (.iaload, 1) := by decide +kernel
theorem d_M_perform_34 : decode prog_10_method_8_code 34 = .ok (.iastore, 1) := by decide +kernel
theorem d_M_perform_35 : decode prog_10_method_8_code 35 = .ok (.aload_n 0, 1) := by decide +kernel
theorem d_M_perform_36 : decode prog_10_method_8_code 36 = .ok (.getfield 40, 3) := by decide +kernel
theorem d_M_perform_39 : decode prog_10_method_8_code 39 = .ok (.aload_n 0, 1) := by decide +kernel
theorem d_M_perform_40 : decode prog_10_method_8_code 40 = .ok (.getfield 106, 3) := by decide +kernel
theorem d_M_perform_43 : decode prog_10_method_8_code 43 = .ok (.aload_n 0, 1) := by decide +kernel
theorem d_M_perform_44 : decode prog_10_method_8_code 44 = .ok (.getfield 22, 3) := by decide +kernel
theorem d_M_perform_47 : decode prog_10_method_8_code 47 = .ok (.iload_n 1, 1) := by decide +kernel
theorem d_M_perform_48 : decode prog_10_method_8_code 48 = .ok (.iaload, 1) := by decide +kernel
theorem d_M_perform_49 : decode prog_10_method_8_code 49 = .ok (.iastore, 1) := by decide +kernel
theorem d_M_perform_50 : decode prog_10_method_8_code 50 = .ok (.aload_n 0, 1) := by decide +kernel
theorem d_M_perform_51 : decode prog_10_method_8_code 51 = .ok (.getfield 43, 3) := by decide +kernel
theorem d_M_perform_54 : decode prog_10_method_8_code 54 = .ok (.aload_n 0, 1) := by decide +kernel
theorem d_M_perform_55 : decode prog_10_method_8_code 55 = .ok (.getfield 106, 3) := by decide +kernel
theorem d_M_perform_58 : decode prog_10_method_8_code 58 = .ok (.aload_n 0, 1) := by decide +kernel
theorem d_M_perform_59 : decode prog_10_method_8_code 59 = .ok (.getfield 25, 3) := by decide +kernel
theorem d_M_perform_62 : decode prog_10_method_8_code 62 = .ok (.iload_n 1, 1) := by decide +kernel
theorem d_M_perform_63 : decode prog_10_method_8_code 63 = .ok (.iaload, 1) := by decide +kernel
theorem d_M_perform_64 : decode prog_10_method_8_code 64 = .ok (.iastore, 1) := by decide +kernel
theorem d_M_perform_65 : decode prog_10_method_8_code 65 = .ok (.aload_n 0, 1) := by decide +kernel
theorem d_M_perform_66 : decode prog_10_method_8_code 66 = .ok (.getfield 46, 3) := by decide +kernel
theorem d_M_perform_69 : decode prog_10_method_8_code 69 = .ok (.aload_n 0, 1) := by decide +kernel
theorem d_M_perform_70 : decode prog_10_method_8_code 70 = .ok (.getfield 106, 3) := by decide +kernel
theorem d_M_perform_73 : decode prog_10_method_8_code 73 = .ok (.aload_n 0, 1) := by decide +kernel
theorem d_M_perform_74 : decode prog_10_method_8_code 74 = .ok (.getfield 28, 3) := by decide +kernel
theorem d_M_perform_77 : decode prog_10_method_8_code 77 = .ok (.iload_n 1, 1) := by decide +kernel
theorem d_M_perform_78 : decode prog_10_method_8_code 78 = .ok (.iaload, 1) := by decide +kernel
theorem d_M_perform_79 : decode prog_10_method_8_code 79 = .ok (.iastore, 1) := by decide +kernel
theorem d_M_perform_80 : decode prog_10_method_8_code 80 = .ok (.aload_n 0, 1) := by decide +kernel
theorem d_M_perform_81 : decode prog_10_method_8_code 81 = .ok (.dup, 1) := by decide +kernel
theorem d_M_perform_82 : decode prog_10_method_8_code 82 = .ok (.getfield 106, 3) := by decide +kernel
theorem d_M_perform_85 : decode prog_10_method_8_code 85 = .ok (.iconst 1, 1) := by decide +kernel
theorem d_M_perform_86 : decode prog_10_method_8_code 86 = .ok (.iadd, 1) := by decide +kernel
theorem d_M_perform_87 : decode prog_10_method_8_code 87 = .ok (.putfield 106, 3) := by decide +kernel
theorem d_M_perform_90 : decode prog_10_method_8_code 90 = .ok (.aload_n 0, 1) := by decide +kernel
theorem d_M_perform_91 : decode prog_10_method_8_code 91 = .ok (.getfield 7, 3) := by decide +kernel
theorem d_M_perform_94 : decode prog_10_method_8_code 94 = .ok (.iload_n 1, 1) := by decide +kernel
theorem d_M_perform_95 : decode prog_10_method_8_code 95 = .ok (.iaload, 1) := by decide +kernel
theorem d_M_perform_96 : decode prog_10_method_8_code 96 = .ok (.iconst 1, 1) := by decide +kernel
theorem d_M_perform_97 : decode prog_10_method_8_code 97 = .ok (.if_icmp .ne 15, 3) := by decide +kernel
theorem d_M_perform_100 : decode prog_10_method_8_code 100 = .ok (.aload_n 0, 1) := by decide +kernel
theorem d_M_perform_101 : decode prog_10_method_8_code 101 = .ok (.getfield 46, 3) := by decide +kernel
theorem d_M_perform_104 : decode prog_10_method_8_code 104 = .ok (.iload_n 2, 1) := by decide +kernel
theorem d_M_perform_105 : decode prog_10_method_8_code 105 = .ok (.aload_n 0, 1) := by decide +kernel
theorem d_M_perform_106 : decode prog_10_method_8_code 106 = .ok (.getfield 28, 3) := by decide +kernel
theorem d_M_perform_109 : decode prog_10_method_8_code 109 = .ok (.iload_n 1, 1) := by decide +kernel
theorem d_M_perform_110 : decode prog_10_method_8_code 110 = .ok (.iaload, 1) := by decide +kernel
theorem d_M_perform_111 : decode prog_10_method_8_code 111 = .ok (.iastore, 1) := by decide +kernel
theorem d_M_perform_112 : decode prog_10_method_8_code 112 = .ok (.aload_n 0, 1) := by decide +kernel
theorem d_M_perform_113 : decode prog_10_method_8_code 113 = .ok (.getfield 7, 3) := by decide +kernel
theorem d_M_perform_116 : decode prog_10_method_8_code 116 = .ok (.iload_n 1, 1) := by decide +kernel
theorem d_M_perform_117 : decode prog_10_method_8_code 117 = .ok (.iaload, 1) := by decide +kernel
theorem d_M_perform_118 : decode prog_10_method_8_code 118 = .ok (.iconst 2, 1) := by decide +kernel
theorem d_M_perform_119 : decode prog_10_method_8_code 119 = .ok (.if_icmp .ne 32, 3) := by decide +kernel
theorem d_M_perform_122 : decode prog_10_method_8_code 122 = .ok (.aload_n 0, 1) := by decide +kernel
theorem d_M_perform_123 : decode prog_10_method_8_code 123 = .ok (.getfield 46, 3) := by decide +kernel
theorem d_M_perform_126 : decode prog_10_method_8_code 126 = .ok (.iload_n 2, 1) := by decide +kernel
theorem d_M_perform_127 : decode prog_10_method_8_code 127 = .ok (.dup2, 1) := by decide +kernel
theorem d_M_perform_128 : decode prog_10_method_8_code 128 = .ok (.iaload, 1) := by decide +kernel
theorem d_M_perform_129 : decode prog_10_method_8_code 129 = .ok (.aload_n 0, 1) := by decide +kernel
theorem d_M_perform_130 : decode prog_10_method_8_code 130 = .ok (.getfield 28, 3) := by decide +kernel
theorem d_M_perform_133 : decode prog_10_method_8_code 133 = .ok (.iload_n 1, 1) := by decide +kernel
theorem d_M_perform_134 : decode prog_10_method_8_code 134 = .ok (.iaload, 1) := by decide +kernel
theorem d_M_perform_135 : decode prog_10_method_8_code 135 = .ok (.isub, 1) := by decide +kernel
theorem d_M_perform_136 : decode prog_10_method_8_code 136 = .ok (.iastore, 1) := by decide +kernel
theorem d_M_perform_137 : decode prog_10_method_8_code 137 = .ok (.aload_n 0, 1) := by decide +kernel
theorem d_M_perform_138 : decode prog_10_method_8_code 138 = .ok (.getfield 46, 3) := by decide +kernel
theorem d_M_perform_141 : decode prog_10_method_8_code 141 = .ok (.iload_n 2, 1) := by decide +kernel
theorem d_M_perform_142 : decode prog_10_method_8_code 142 = .ok (.iaload, 1) := by decide +kernel
theorem d_M_perform_143 : decode prog_10_method_8_code 143 = .ok (.ifCond .ne 8, 3) := by decide +kernel
theorem d_M_perform_146 : decode prog_10_method_8_code 146 = .ok (.aload_n 0, 1) := by decide +kernel
theorem d_M_perform_147 : decode prog_10_method_8_code 147 = .ok (.iload_n 2, 1) := by decide +kernel
theorem d_M_perform_148 : decode prog_10_method_8_code 148 = .ok (.invokevirtual 114, 3) := by decide +kernel
theorem d_M_perform_151 : decode prog_10_method_8_code 151 = .ok (.aload_n 0, 1) := by decide +kernel
theorem d_M_perform_152 : decode prog_10_method_8_code 152 = .ok (.getfield 7, 3) := by decide +kernel
theorem d_M_perform_155 : decode prog_10_method_8_code 155 = .ok (.iload_n 1, 1) := by decide +kernel
theorem d_M_perform_156 : decode prog_10_method_8_code 156 = .ok (.iaload, 1) := by decide +kernel
theorem d_M_perform_157 : decode prog_10_method_8_code 157 = .ok (.iconst 3, 1) := by decide +kernel
theorem d_M_perform_158 : decode prog_10_method_8_code 158 = .ok (.if_icmp .ne 8, 3) := by decide +kernel
theorem d_M_perform_161 : decode prog_10_method_8_code 161 = .ok (.aload_n 0, 1) := by decide +kernel
theorem d_M_perform_162 : decode prog_10_method_8_code 162 = .ok (.iload_n 2, 1) := by decide +kernel
theorem d_M_perform_163 : decode prog_10_method_8_code 163 = .ok (.invokevirtual 114, 3) := by decide +kernel
theorem d_M_perform_166 : decode prog_10_method_8_code 166 = .ok (.aload_n 0, 1) := by decide +kernel
theorem d_M_perform_167 : decode prog_10_method_8_code 167 = .ok (.getfield 7, 3) := by decide +kernel
theorem d_M_perform_170 : decode prog_10_method_8_code 170 = .ok (.iload_n 1, 1) := by decide +kernel
theorem d_M_perform_171 : decode prog_10_method_8_code 171 = .ok (.iaload, 1) := by decide +kernel
theorem d_M_perform_172 : decode prog_10_method_8_code 172 = .ok (.iconst 4, 1) := by decide +kernel
theorem d_M_perform_173 : decode prog_10_method_8_code 173 = .ok (.if_icmp .ne 22, 3) := by decide +kernel
theorem d_M_perform_176 : decode prog_10_method_8_code 176 = .ok (.aload_n 0, 1) := by decide +kernel
theorem d_M_perform_177 : decode prog_10_method_8_code 177 = .ok (.aload_n 0, 1) := by decide +kernel
theorem d_M_perform_178 : decode prog_10_method_8_code 178 = .ok (.getfield 28, 3) := by decide +kernel
theorem d_M_perform_181 : decode prog_10_method_8_code 181 = .ok (.iload_n 1, 1) := by decide +kernel
theorem d_M_perform_182 : decode prog_10_method_8_code 182 = .ok (.iaload, 1) := by decide +kernel
theorem d_M_perform_183 : decode prog_10_method_8_code 183 = .ok (.iconst 1, 1) := by decide +kernel
theorem d_M_perform_184 : decode prog_10_method_8_code 184 = .ok (.if_icmp .ne 7, 3) := by decide +kernel
theorem d_M_perform_187 : decode prog_10_method_8_code 187 = .ok (.iconst 1, 1) := by decide +kernel
theorem d_M_perform_188 : decode prog_10_method_8_code 188 = .ok (.goto 4, 3) := by decide +kernel
theorem d_M_perform_191 : decode prog_10_method_8_code 191 = .ok (.iconst 0, 1) := by decide +kernel
theorem d_M_perform_192 : decode prog_10_method_8_code 192 = .ok (.putfield 118, 3) := by decide +kernel
theorem d_M_perform_195 : decode prog_10_method_8_code 195 = .ok (.aload_n 0, 1) := by decide +kernel
theorem d_M_perform_196 : decode prog_10_method_8_code 196 = .ok (.getfield 7, 3) := by decide +kernel
theorem d_M_perform_199 : decode prog_10_method_8_code 199 = .ok (.iload_n 1, 1) := by decide +kernel
theorem d_M_perform_200 : decode prog_10_method_8_code 200 = .ok (.iaload, 1) := by decide +kernel
theorem d_M_perform_201 : decode prog_10_method_8_code 201 = .ok (.iconst 5, 1) := by decide +kernel
theorem d_M_perform_202 : decode prog_10_method_8_code 202 = .ok (.if_icmp .ne 8, 3) := by decide +kernel
theorem d_M_perform_205 : decode prog_10_method_8_code 205 = .ok (.aload_n 0, 1) := by decide +kernel
theorem d_M_perform_206 : decode prog_10_method_8_code 206 = .ok (.iconst 0, 1) := by decide +kernel
theorem d_M_perform_207 : decode prog_10_method_8_code 207 = .ok (.putfield 106, 3) := by decide +kernel
theorem d_M_perform_210 : decode prog_10_method_8_code 210 = .ok (.return_, 1) := by decide +kernel
theorem d_M_find_0 : decode prog_10_method_6_code 0 = .ok (.iconst 0, 1) := by decide +kernel
theorem d_M_find_1 : decode prog_10_method_6_code 1 = .ok (.istore_n 2, 1) := by decide +kernel
theorem d_M_find_2 : decode prog_10_method_6_code 2 = .ok (.iload_n 2, 1) := by decide +kernel
theorem d_M_find_3 : decode prog_10_method_6_code 3 = .ok (.aload_n 0, 1) := by decide +kernel
theorem d_M_find_4 : decode prog_10_method_6_code 4 = .ok (.getfield 106, 3) := by decide +kernel
theorem d_M_find_7 : decode prog_10_method_6_code 7 = .ok (.if_icmp .ge 21, 3) := by decide +kernel
theorem d_M_find_10 : decode prog_10_method_6_code 10 = .ok (.aload_n 0, 1) := by decide +kernel
theorem d_M_find_11 : decode prog_10_method_6_code 11 = .ok (.getfield 37, 3) := by decide +kernel
theorem d_M_find_14 : decode prog_10_method_6_code 14 = .ok (.iload_n 2, 1) := by decide +kernel
theorem d_M_find_15 : decode prog_10_method_6_code 15 = .ok (.iaload, 1) := by decide +kernel
theorem d_M_find_16 : decode prog_10_method_6_code 16 = .ok (.iload_n 1, 1) := by decide +kernel
theorem d_M_find_17 : decode prog_10_method_6_code 17 = .ok (.if_icmp .ne 5, 3) := by decide +kernel
theorem d_M_find_20 : decode prog_10_method_6_code 20 = .ok (.iload_n 2, 1) := by decide +kernel
theorem d_M_find_21 : decode prog_10_method_6_code 21 = .ok (.ireturn, 1) := by decide +kernel
theorem d_M_find_22 : decode prog_10_method_6_code 22 = .ok (.iinc 2 1, 3) := by decide +kernel
theorem d_M_find_25 : decode prog_10_method_6_code 25 = .ok (.goto (-23), 3) := by decide +kernel
theorem d_M_find_28 : decode prog_10_method_6_code 28 = .ok (.iconst (-1), 1) := by decide +kernel
theorem d_M_find_29 : decode prog_10_method_6_code 29 = .ok (.ireturn, 1) := by decide +kernel
theorem d_M_drop_0 : decode prog_10_method_7_code 0 = .ok (.aload_n 0, 1) := by decide +kernel
theorem d_M_drop_1 : decode prog_10_method_7_code 1 = .ok (.dup, 1) := by decide +kernel
theorem d_M_drop_2 : decode prog_10_method_7_code 2 = .ok (.getfield 106, 3) := by decide +kernel
theorem d_M_drop_5 : decode prog_10_method_7_code 5 = .ok (.iconst 1, 1) := by decide +kernel
theorem d_M_drop_6 : decode prog_10_method_7_code 6 = .ok (.isub, 1) := by decide +kernel
theorem d_M_drop_7 : decode prog_10_method_7_code 7 = .ok (.putfield 106, 3) := by decide +kernel
theorem d_M_drop_10 : decode prog_10_method_7_code 10 = .ok (.iload_n 1, 1) := by decide +kernel
theorem d_M_drop_11 : decode prog_10_method_7_code 11 = .ok (.istore_n 2, 1) := by decide +kernel
theorem d_M_drop_12 : decode prog_10_method_7_code 12 = .ok (.iload_n 2, 1) := by decide +kernel
theorem d_M_drop_13 : decode prog_10_method_7_code 13 = .ok (.aload_n 0, 1) := by decide +kernel
theorem d_M_drop_14 : decode prog_10_method_7_code 14 = .ok (.getfield 106, 3) := by decide +kernel
theorem d_M_drop_17 : decode prog_10_method_7_code 17 = .ok (.if_icmp .ge 65, 3) := by decide +kernel
theorem d_M_drop_20 : decode prog_10_method_7_code 20 = .ok (.aload_n 0, 1) := by decide +kernel
theorem d_M_drop_21 : decode prog_10_method_7_code 21 = .ok (.getfield 37, 3) := by decide +kernel
theorem d_M_drop_24 : decode prog_10_method_7_code 24 = .ok (.iload_n 2, 1) := by decide +kernel
theorem d_M_drop_25 : decode prog_10_method_7_code 25 = .ok (.aload_n 0, 1) := by decide +kernel
theorem d_M_drop_26 : decode prog_10_method_7_code 26 = .ok (.getfield 37, 3) := by decide +kernel
theorem d_M_drop_29 : decode prog_10_method_7_code 29 = .ok (.iload_n 2, 1) := by decide +kernel
theorem d_M_drop_30 : decode prog_10_method_7_code 30 = .ok (.iconst 1, 1) := by decide +kernel
theorem d_M_drop_31 : decode prog_10_method_7_code 31 = .ok (.iadd, 1) := by decide +kernel
theorem d_M_drop_32 : decode prog_10_method_7_code 32 = .ok (.iaload, 1) := by decide +kernel
theorem d_M_drop_33 : decode prog_10_method_7_code 33 = .ok (.iastore, 1) := by decide +kernel
theorem d_M_drop_34 : decode prog_10_method_7_code 34 = .ok (.aload_n 0, 1) := by decide +kernel
theorem d_M_drop_35 : decode prog_10_method_7_code 35 = .ok (.getfield 40, 3) := by decide +kernel
theorem d_M_drop_38 : decode prog_10_method_7_code 38 = .ok (.iload_n 2, 1) := by decide +kernel
theorem d_M_drop_39 : decode prog_10_method_7_code 39 = .ok (.aload_n 0, 1) := by decide +kernel
theorem d_M_drop_40 : decode prog_10_method_7_code 40 = .ok (.getfield 40, 3) := by decide +kernel
theorem d_M_drop_43 : decode prog_10_method_7_code 43 = .ok (.iload_n 2, 1) := by decide +kernel
theorem d_M_drop_44 : decode prog_10_method_7_code 44 = .ok (.iconst 1, 1) := by decide +kernel
theorem d_M_drop_45 : decode prog_10_method_7_code 45 = .ok (.iadd, 1) := by decide +kernel
theorem d_M_drop_46 : decode prog_10_method_7_code 46 = .ok (.iaload, 1) := by decide +kernel
theorem d_M_drop_47 : decode prog_10_method_7_code 47 = .ok (.iastore, 1) := by decide +kernel
theorem d_M_drop_48 : decode prog_10_method_7_code 48 = .ok (.aload_n 0, 1) := by decide +kernel
theorem d_M_drop_49 : decode prog_10_method_7_code 49 = .ok (.getfield 43, 3) := by decide +kernel
theorem d_M_drop_52 : decode prog_10_method_7_code 52 = .ok (.iload_n 2, 1) := by decide +kernel
theorem d_M_drop_53 : decode prog_10_method_7_code 53 = .ok (.aload_n 0, 1) := by decide +kernel
theorem d_M_drop_54 : decode prog_10_method_7_code 54 = .ok (.getfield 43, 3) := by decide +kernel
theorem d_M_drop_57 : decode prog_10_method_7_code 57 = .ok (.iload_n 2, 1) := by decide +kernel
theorem d_M_drop_58 : decode prog_10_method_7_code 58 = .ok (.iconst 1, 1) := by decide +kernel
theorem d_M_drop_59 : decode prog_10_method_7_code 59 = .ok (.iadd, 1) := by decide +kernel
theorem d_M_drop_60 : decode prog_10_method_7_code 60 = .ok (.iaload, 1) := by decide +kernel
theorem d_M_drop_61 : decode prog_10_method_7_code 61 = .ok (.iastore, 1) := by decide +kernel
theorem d_M_drop_62 : decode prog_10_method_7_code 62 = .ok (.aload_n 0, 1) := by decide +kernel
theorem d_M_drop_63 : decode prog_10_method_7_code 63 = .ok (.getfield 46, 3) := by decide +kernel
theorem d_M_drop_66 : decode prog_10_method_7_code 66 = .ok (.iload_n 2, 1) := by decide +kernel
theorem d_M_drop_67 : decode prog_10_method_7_code 67 = .ok (.aload_n 0, 1) := by decide +kernel
theorem d_M_drop_68 : decode prog_10_method_7_code 68 = .ok (.getfield 46, 3) := by decide +kernel
theorem d_M_drop_71 : decode prog_10_method_7_code 71 = .ok (.iload_n 2, 1) := by decide +kernel
theorem d_M_drop_72 : decode prog_10_method_7_code 72 = .ok (.iconst 1, 1) := by decide +kernel
theorem d_M_drop_73 : decode prog_10_method_7_code 73 = .ok (.iadd, 1) := by decide +kernel
theorem d_M_drop_74 : decode prog_10_method_7_code 74 = .ok (.iaload, 1) := by decide +kernel
theorem d_M_drop_75 : decode prog_10_method_7_code 75 = .ok (.iastore, 1) := by decide +kernel
theorem d_M_drop_76 : decode prog_10_method_7_code 76 = .ok (.iinc 2 1, 3) := by decide +kernel
theorem d_M_drop_79 : decode prog_10_method_7_code 79 = .ok (.goto (-67), 3) := by decide +kernel
theorem d_M_drop_82 : decode prog_10_method_7_code 82 = .ok (.return_, 1) := by decide +kernel
theorem d_M_change_0 : decode prog_10_method_17_code 0 = .ok (.iload_n 1, 1) := by decide +kernel
theorem d_M_change_1 : decode prog_10_method_17_code 1 = .ok (.invokestatic 151, 3) := by decide +kernel
theorem d_M_change_4 : decode prog_10_method_17_code 4 = .ok (.ifCond .eq 33, 3) := by decide +kernel
theorem d_M_change_7 : decode prog_10_method_17_code 7 = .ok (.iload_n 2, 1) := by decide +kernel
theorem d_M_change_8 : decode prog_10_method_17_code 8 = .ok (.invokestatic 155, 3) := by decide +kernel
theorem d_M_change_11 : decode prog_10_method_17_code 11 = .ok (.ifCond .eq 26, 3) := by decide +kernel
theorem d_M_change_14 : decode prog_10_method_17_code 14 = .ok (.iload_n 3, 1) := by decide +kernel
theorem d_M_change_15 : decode prog_10_method_17_code 15 = .ok (.iconst 1, 1) := by decide +kernel
theorem d_M_change_16 : decode prog_10_method_17_code 16 = .ok (.ldc 105, 2) := by decide +kernel
theorem d_M_change_18 : decode prog_10_method_17_code 18 = .ok (.invokestatic 101, 3) := by decide +kernel
theorem d_M_change_21 : decode prog_10_method_17_code 21 = .ok (.ifCond .eq 16, 3) := by decide +kernel
theorem d_M_change_24 : decode prog_10_method_17_code 24 = .ok (.aload_n 0, 1) := by decide +kernel
theorem d_M_change_25 : decode prog_10_method_17_code 25 = .ok (.iconst 1, 1) := by decide +kernel
theorem d_M_change_26 : decode prog_10_method_17_code 26 = .ok (.iload_n 1, 1) := by decide +kernel
theorem d_M_change_27 : decode prog_10_method_17_code 27 = .ok (.iload_n 2, 1) := by decide +kernel
theorem d_M_change_28 : decode prog_10_method_17_code 28 = .ok (.iconst 0, 1) := by decide +kernel
theorem d_M_change_29 : decode prog_10_method_17_code 29 = .ok (.iconst 0, 1) := by decide +kernel
theorem d_M_change_30 : decode prog_10_method_17_code 30 = .ok (.iload_n 3, 1) := by decide +kernel
theorem d_M_change_31 : decode prog_10_method_17_code 31 = .ok (.invokevirtual 159, 3) := by decide +kernel
theorem d_M_change_34 : decode prog_10_method_17_code 34 = .ok (.goto 5, 3) := by decide +kernel
theorem d_M_change_37 : decode prog_10_method_17_code 37 = .ok (.bipush (-2), 2) := by decide +kernel
theorem d_M_change_39 : decode prog_10_method_17_code 39 = .ok (.ireturn, 1) := by decide +kernel
theorem d_M_execute_0 : decode prog_10_method_18_code 0 = .ok (.iload_n 1, 1) := by decide +kernel
theorem d_M_execute_1 : decode prog_10_method_18_code 1 = .ok (.invokestatic 151, 3) := by decide +kernel
theorem d_M_execute_4 : decode prog_10_method_18_code 4 = .ok (.ifCond .eq 33, 3) := by decide +kernel
theorem d_M_execute_7 : decode prog_10_method_18_code 7 = .ok (.iload_n 2, 1) := by decide +kernel
theorem d_M_execute_8 : decode prog_10_method_18_code 8 = .ok (.invokestatic 155, 3) := by decide +kernel
theorem d_M_execute_11 : decode prog_10_method_18_code 11 = .ok (.ifCond .eq 26, 3) := by decide +kernel
theorem d_M_execute_14 : decode prog_10_method_18_code 14 = .ok (.iload_n 3, 1) := by decide +kernel
theorem d_M_execute_15 : decode prog_10_method_18_code 15 = .ok (.iconst 1, 1) := by decide +kernel
theorem d_M_execute_16 : decode prog_10_method_18_code 16 = .ok (.ldc 105, 2) := by decide +kernel
theorem d_M_execute_18 : decode prog_10_method_18_code 18 = .ok (.invokestatic 101, 3) := by decide +kernel
theorem d_M_execute_21 : decode prog_10_method_18_code 21 = .ok (.ifCond .eq 16, 3) := by decide +kernel
theorem d_M_execute_24 : decode prog_10_method_18_code 24 = .ok (.aload_n 0, 1) := by decide +kernel
theorem d_M_execute_25 : decode prog_10_method_18_code 25 = .ok (.iconst 2, 1) := by decide +kernel
theorem d_M_execute_26 : decode prog_10_method_18_code 26 = .ok (.iload_n 1, 1) := by decide +kernel
theorem d_M_execute_27 : decode prog_10_method_18_code 27 = .ok (.iload_n 2, 1) := by decide +kernel
theorem d_M_execute_28 : decode prog_10_method_18_code 28 = .ok (.iconst 0, 1) := by decide +kernel
theorem d_M_execute_29 : decode prog_10_method_18_code 29 = .ok (.iconst 0, 1) := by decide +kernel
theorem d_M_execute_30 : decode prog_10_method_18_code 30 = .ok (.iload_n 3, 1) := by decide +kernel
theorem d_M_execute_31 : decode prog_10_method_18_code 31 = .ok (.invokevirtual 159, 3) := by decide +kernel
theorem d_M_execute_34 : decode prog_10_method_18_code 34 = .ok (.goto 5, 3) := by decide +kernel
theorem d_M_execute_37 : decode prog_10_method_18_code 37 = .ok (.bipush (-2), 2) := by decide +kernel
theorem d_M_execute_39 : decode prog_10_method_18_code 39 = .ok (.ireturn, 1) := by decide +kernel
theorem d_M_cancel_0 : decode prog_10_method_19_code 0 = .ok (.iload_n 1, 1) := by decide +kernel
theorem d_M_cancel_1 : decode prog_10_method_19_code 1 = .ok (.invokestatic 151, 3) := by decide +kernel
theorem d_M_cancel_4 : decode prog_10_method_19_code 4 = .ok (.ifCond .eq 23, 3) := by decide +kernel
theorem d_M_cancel_7 : decode prog_10_method_19_code 7 = .ok (.iload_n 2, 1) := by decide +kernel
theorem d_M_cancel_8 : decode prog_10_method_19_code 8 = .ok (.invokestatic 155, 3) := by decide +kernel
theorem d_M_cancel_11 : decode prog_10_method_19_code 11 = .ok (.ifCond .eq 16, 3) := by decide +kernel
theorem d_M_cancel_14 : decode prog_10_method_19_code 14 = .ok (.aload_n 0, 1) := by decide +kernel
theorem d_M_cancel_15 : decode prog_10_method_19_code 15 = .ok (.iconst 3, 1) := by decide +kernel
theorem d_M_cancel_16 : decode prog_10_method_19_code 16 = .ok (.iload_n 1, 1) := by decide +kernel
theorem d_M_cancel_17 : decode prog_10_method_19_code 17 = .ok (.iload_n 2, 1) := by decide +kernel
theorem d_M_cancel_18 : decode prog_10_method_19_code 18 = .ok (.iconst 0, 1) := by decide +kernel
theorem d_M_cancel_19 : decode prog_10_method_19_code 19 = .ok (.iconst 0, 1) := by decide +kernel
theorem d_M_cancel_20 : decode prog_10_method_19_code 20 = .ok (.iconst 0, 1) := by decide +kernel
theorem d_M_cancel_21 : decode prog_10_method_19_code 21 = .ok (.invokevirtual 159, 3) := by decide +kernel
theorem d_M_cancel_24 : decode prog_10_method_19_code 24 = .ok (.goto 5, 3) := by decide +kernel
theorem d_M_cancel_27 : decode prog_10_method_19_code 27 = .ok (.bipush (-2), 2) := by decide +kernel
theorem d_M_cancel_29 : decode prog_10_method_19_code 29 = .ok (.ireturn, 1) := by decide +kernel
theorem d_M_halt_0 : decode prog_10_method_20_code 0 = .ok (.iload_n 1, 1) := by decide +kernel
theorem d_M_halt_1 : decode prog_10_method_20_code 1 = .ok (.invokestatic 151, 3) := by decide +kernel
theorem d_M_halt_4 : decode prog_10_method_20_code 4 = .ok (.ifCond .eq 24, 3) := by decide +kernel
theorem d_M_halt_7 : decode prog_10_method_20_code 7 = .ok (.aload_n 0, 1) := by decide +kernel
theorem d_M_halt_8 : decode prog_10_method_20_code 8 = .ok (.iconst 4, 1) := by decide +kernel
theorem d_M_halt_9 : decode prog_10_method_20_code 9 = .ok (.iload_n 1, 1) := by decide +kernel
theorem d_M_halt_10 : decode prog_10_method_20_code 10 = .ok (.iconst 0, 1) := by decide +kernel
theorem d_M_halt_11 : decode prog_10_method_20_code 11 = .ok (.iconst 0, 1) := by decide +kernel
theorem d_M_halt_12 : decode prog_10_method_20_code 12 = .ok (.iconst 0, 1) := by decide +kernel
theorem d_M_halt_13 : decode prog_10_method_20_code 13 = .ok (.iload_n 2, 1) := by decide +kernel
theorem d_M_halt_14 : decode prog_10_method_20_code 14 = .ok (.ifCond .eq 7, 3) := by decide +kernel
theorem d_M_halt_17 : decode prog_10_method_20_code 17 = .ok (.iconst 1, 1) := by decide +kernel
theorem d_M_halt_18 : decode prog_10_method_20_code 18 = .ok (.goto 4, 3) := by decide +kernel
theorem d_M_halt_21 : decode prog_10_method_20_code 21 = .ok (.iconst 0, 1) := by decide +kernel
theorem d_M_halt_22 : decode prog_10_method_20_code 22 = .ok (.invokevirtual 159, 3) := by decide +kernel
theorem d_M_halt_25 : decode prog_10_method_20_code 25 = .ok (.goto 5, 3) := by decide +kernel
theorem d_M_halt_28 : decode prog_10_method_20_code 28 = .ok (.bipush (-2), 2) := by decide +kernel
theorem d_M_halt_30 : decode prog_10_method_20_code 30 = .ok (.ireturn, 1) := by decide +kernel
theorem d_M_clear_0 : decode prog_10_method_21_code 0 = .ok (.iload_n 1, 1) := by decide +kernel
theorem d_M_clear_1 : decode prog_10_method_21_code 1 = .ok (.invokestatic 151, 3) := by decide +kernel
theorem d_M_clear_4 : decode prog_10_method_21_code 4 = .ok (.ifCond .eq 16, 3) := by decide +kernel
theorem d_M_clear_7 : decode prog_10_method_21_code 7 = .ok (.aload_n 0, 1) := by decide +kernel
theorem d_M_clear_8 : decode prog_10_method_21_code 8 = .ok (.iconst 5, 1) := by decide +kernel
theorem d_M_clear_9 : decode prog_10_method_21_code 9 = .ok (.iload_n 1, 1) := by decide +kernel
theorem d_M_clear_10 : decode prog_10_method_21_code 10 = .ok (.iconst 0, 1) := by decide +kernel
theorem d_M_clear_11 : decode prog_10_method_21_code 11 = .ok (.iconst 0, 1) := by decide +kernel
theorem d_M_clear_12 : decode prog_10_method_21_code 12 = .ok (.iconst 0, 1) := by decide +kernel
theorem d_M_clear_13 : decode prog_10_method_21_code 13 = .ok (.iconst 0, 1) := by decide +kernel
theorem d_M_clear_14 : decode prog_10_method_21_code 14 = .ok (.invokevirtual 159, 3) := by decide +kernel
theorem d_M_clear_17 : decode prog_10_method_21_code 17 = .ok (.goto 5, 3) := by decide +kernel
theorem d_M_clear_20 : decode prog_10_method_21_code 20 = .ok (.bipush (-2), 2) := by decide +kernel
theorem d_M_clear_22 : decode prog_10_method_21_code 22 = .ok (.ireturn, 1) := by decide +kernel
theorem d_M_publish_0 : decode prog_10_method_22_code 0 = .ok (.aload_n 0, 1) := by decide +kernel
theorem d_M_publish_1 : decode prog_10_method_22_code 1 = .ok (.getfield 122, 3) := by decide +kernel
theorem d_M_publish_4 : decode prog_10_method_22_code 4 = .ok (.aload_n 0, 1) := by decide +kernel
theorem d_M_publish_5 : decode prog_10_method_22_code 5 = .ok (.getfield 34, 3) := by decide +kernel
theorem d_M_publish_8 : decode prog_10_method_22_code 8 = .ok (.aload_n 0, 1) := by decide +kernel
theorem d_M_publish_9 : decode prog_10_method_22_code 9 = .ok (.getfield 148, 3) := by decide +kernel
theorem d_M_publish_12 : decode prog_10_method_22_code 12 = .ok (.iconst 1, 1) := by decide +kernel
theorem d_M_publish_13 : decode prog_10_method_22_code 13 = .ok (.iadd, 1) := by decide +kernel
theorem d_M_publish_14 : decode prog_10_method_22_code 14 = .ok (.iaload, 1) := by decide +kernel
theorem d_M_publish_15 : decode prog_10_method_22_code 15 = .ok (.if_icmp .ne 5, 3) := by decide +kernel
theorem d_M_publish_18 : decode prog_10_method_22_code 18 = .ok (.iconst 0, 1) := by decide +kernel
theorem d_M_publish_19 : decode prog_10_method_22_code 19 = .ok (.ireturn, 1) := by decide +kernel
theorem d_M_publish_20 : decode prog_10_method_22_code 20 = .ok (.aload_n 0, 1) := by decide +kernel
theorem d_M_publish_21 : decode prog_10_method_22_code 21 = .ok (.dup, 1) := by decide +kernel
theorem d_M_publish_22 : decode prog_10_method_22_code 22 = .ok (.getfield 148, 3) := by decide +kernel
theorem d_M_publish_25 : decode prog_10_method_22_code 25 = .ok (.iconst 1, 1) := by decide +kernel
theorem d_M_publish_26 : decode prog_10_method_22_code 26 = .ok (.iadd, 1) := by decide +kernel
theorem d_M_publish_27 : decode prog_10_method_22_code 27 = .ok (.putfield 148, 3) := by decide +kernel
theorem d_M_publish_30 : decode prog_10_method_22_code 30 = .ok (.aload_n 0, 1) := by decide +kernel
theorem d_M_publish_31 : decode prog_10_method_22_code 31 = .ok (.getfield 34, 3) := by decide +kernel
theorem d_M_publish_34 : decode prog_10_method_22_code 34 = .ok (.aload_n 0, 1) := by decide +kernel
theorem d_M_publish_35 : decode prog_10_method_22_code 35 = .ok (.getfield 148, 3) := by decide +kernel
theorem d_M_publish_38 : decode prog_10_method_22_code 38 = .ok (.iconst 1, 1) := by decide +kernel
theorem d_M_publish_39 : decode prog_10_method_22_code 39 = .ok (.iadd, 1) := by decide +kernel
theorem d_M_publish_40 : decode prog_10_method_22_code 40 = .ok (.aload_n 0, 1) := by decide +kernel
theorem d_M_publish_41 : decode prog_10_method_22_code 41 = .ok (.getfield 122, 3) := by decide +kernel
theorem d_M_publish_44 : decode prog_10_method_22_code 44 = .ok (.iastore, 1) := by decide +kernel
theorem d_M_publish_45 : decode prog_10_method_22_code 45 = .ok (.aload_n 0, 1) := by decide +kernel
theorem d_M_publish_46 : decode prog_10_method_22_code 46 = .ok (.getfield 148, 3) := by decide +kernel
theorem d_M_publish_49 : decode prog_10_method_22_code 49 = .ok (.ireturn, 1) := by decide +kernel
theorem d_M_packetByte_0 : decode prog_10_method_25_code 0 = .ok (.iload_n 1, 1) := by decide +kernel
theorem d_M_packetByte_1 : decode prog_10_method_25_code 1 = .ok (.iconst 1, 1) := by decide +kernel
theorem d_M_packetByte_2 : decode prog_10_method_25_code 2 = .ok (.aload_n 0, 1) := by decide +kernel
theorem d_M_packetByte_3 : decode prog_10_method_25_code 3 = .ok (.getfield 148, 3) := by decide +kernel
theorem d_M_packetByte_6 : decode prog_10_method_25_code 6 = .ok (.invokestatic 101, 3) := by decide +kernel
theorem d_M_packetByte_9 : decode prog_10_method_25_code 9 = .ok (.ifCond .ne 5, 3) := by decide +kernel
theorem d_M_packetByte_12 : decode prog_10_method_25_code 12 = .ok (.iconst (-1), 1) := by decide +kernel
theorem d_M_packetByte_13 : decode prog_10_method_25_code 13 = .ok (.ireturn, 1) := by decide +kernel
theorem d_M_packetByte_14 : decode prog_10_method_25_code 14 = .ok (.aload_n 0, 1) := by decide +kernel
theorem d_M_packetByte_15 : decode prog_10_method_25_code 15 = .ok (.getfield 34, 3) := by decide +kernel
theorem d_M_packetByte_18 : decode prog_10_method_25_code 18 = .ok (.iload_n 1, 1) := by decide +kernel
theorem d_M_packetByte_19 : decode prog_10_method_25_code 19 = .ok (.iconst 1, 1) := by decide +kernel
theorem d_M_packetByte_20 : decode prog_10_method_25_code 20 = .ok (.iadd, 1) := by decide +kernel
theorem d_M_packetByte_21 : decode prog_10_method_25_code 21 = .ok (.iaload, 1) := by decide +kernel
theorem d_M_packetByte_22 : decode prog_10_method_25_code 22 = .ok (.aload_n 0, 1) := by decide +kernel
theorem d_M_packetByte_23 : decode prog_10_method_25_code 23 = .ok (.getfield 34, 3) := by decide +kernel
theorem d_M_packetByte_26 : decode prog_10_method_25_code 26 = .ok (.iload_n 1, 1) := by decide +kernel
theorem d_M_packetByte_27 : decode prog_10_method_25_code 27 = .ok (.iaload, 1) := by decide +kernel
theorem d_M_packetByte_28 : decode prog_10_method_25_code 28 = .ok (.isub, 1) := by decide +kernel
theorem d_M_packetByte_29 : decode prog_10_method_25_code 29 = .ok (.istore_n 3, 1) := by decide +kernel
theorem d_M_packetByte_30 : decode prog_10_method_25_code 30 = .ok (.iload_n 2, 1) := by decide +kernel
theorem d_M_packetByte_31 : decode prog_10_method_25_code 31 = .ok (.ifCond .lt 13, 3) := by decide +kernel
theorem d_M_packetByte_34 : decode prog_10_method_25_code 34 = .ok (.iload_n 2, 1) := by decide +kernel
theorem d_M_packetByte_35 : decode prog_10_method_25_code 35 = .ok (.iconst 5, 1) := by decide +kernel
theorem d_M_packetByte_36 : decode prog_10_method_25_code 36 = .ok (.bipush 19, 2) := by decide +kernel
theorem d_M_packetByte_38 : decode prog_10_method_25_code 38 = .ok (.iload_n 3, 1) := by decide +kernel
theorem d_M_packetByte_39 : decode prog_10_method_25_code 39 = .ok (.imul, 1) := by decide +kernel
theorem d_M_packetByte_40 : decode prog_10_method_25_code 40 = .ok (.iadd, 1) := by decide +kernel
theorem d_M_packetByte_41 : decode prog_10_method_25_code 41 = .ok (.if_icmp .lt 5, 3) := by decide +kernel
theorem d_M_packetByte_44 : decode prog_10_method_25_code 44 = .ok (.iconst (-1), 1) := by decide +kernel
theorem d_M_packetByte_45 : decode prog_10_method_25_code 45 = .ok (.ireturn, 1) := by decide +kernel
theorem d_M_packetByte_46 : decode prog_10_method_25_code 46 = .ok (.iload_n 2, 1) := by decide +kernel
theorem d_M_packetByte_47 : decode prog_10_method_25_code 47 = .ok (.iconst 4, 1) := by decide +kernel
theorem d_M_packetByte_48 : decode prog_10_method_25_code 48 = .ok (.if_icmp .ge 9, 3) := by decide +kernel
theorem d_M_packetByte_51 : decode prog_10_method_25_code 51 = .ok (.iload_n 1, 1) := by decide +kernel
theorem d_M_packetByte_52 : decode prog_10_method_25_code 52 = .ok (.iload_n 2, 1) := by decide +kernel
theorem d_M_packetByte_53 : decode prog_10_method_25_code 53 = .ok (.invokestatic 163, 3) := by decide +kernel
theorem d_M_packetByte_56 : decode prog_10_method_25_code 56 = .ok (.ireturn, 1) := by decide +kernel
theorem d_M_packetByte_57 : decode prog_10_method_25_code 57 = .ok (.iload_n 2, 1) := by decide +kernel
theorem d_M_packetByte_58 : decode prog_10_method_25_code 58 = .ok (.iconst 4, 1) := by decide +kernel
theorem d_M_packetByte_59 : decode prog_10_method_25_code 59 = .ok (.if_icmp .ne 7, 3) := by decide +kernel
theorem d_M_packetByte_62 : decode prog_10_method_25_code 62 = .ok (.iload_n 3, 1) := by decide +kernel
theorem d_M_packetByte_63 : decode prog_10_method_25_code 63 = .ok (.goto 26, 3) := by decide +kernel
theorem d_M_packetByte_66 : decode prog_10_method_25_code 66 = .ok (.aload_n 0, 1) := by decide +kernel
theorem d_M_packetByte_67 : decode prog_10_method_25_code 67 = .ok (.aload_n 0, 1) := by decide +kernel
theorem d_M_packetByte_68 : decode prog_10_method_25_code 68 = .ok (.getfield 34, 3) := by decide +kernel
theorem d_M_packetByte_71 : decode prog_10_method_25_code 71 = .ok (.iload_n 1, 1) := by decide +kernel
theorem d_M_packetByte_72 : decode prog_10_method_25_code 72 = .ok (.iaload, 1) := by decide +kernel
theorem d_M_packetByte_73 : decode prog_10_method_25_code 73 = .ok (.iload_n 2, 1) := by decide +kernel
theorem d_M_packetByte_74 : decode prog_10_method_25_code 74 = .ok (.iconst 5, 1) := by decide +kernel
theorem d_M_packetByte_75 : decode prog_10_method_25_code 75 = .ok (.isub, 1) := by decide +kernel
theorem d_M_packetByte_76 : decode prog_10_method_25_code 76 = .ok (.bipush 19, 2) := by decide +kernel
theorem d_M_packetByte_78 : decode prog_10_method_25_code 78 = .ok (.idiv, 1) := by decide +kernel
theorem d_M_packetByte_79 : decode prog_10_method_25_code 79 = .ok (.iadd, 1) := by decide +kernel
theorem d_M_packetByte_80 : decode prog_10_method_25_code 80 = .ok (.iload_n 2, 1) := by decide +kernel
theorem d_M_packetByte_81 : decode prog_10_method_25_code 81 = .ok (.iconst 5, 1) := by decide +kernel
theorem d_M_packetByte_82 : decode prog_10_method_25_code 82 = .ok (.isub, 1) := by decide +kernel
theorem d_M_packetByte_83 : decode prog_10_method_25_code 83 = .ok (.bipush 19, 2) := by decide +kernel
theorem d_M_packetByte_85 : decode prog_10_method_25_code 85 = .ok (.irem, 1) := by decide +kernel
theorem d_M_packetByte_86 : decode prog_10_method_25_code 86 = .ok (.invokevirtual 166, 3) := by decide +kernel
theorem d_M_packetByte_89 : decode prog_10_method_25_code 89 = .ok (.ireturn, 1) := by decide +kernel
theorem d_M_byteOf_0 : decode prog_10_method_23_code 0 = .ok (.iload_n 0, 1) := by decide +kernel
theorem d_M_byteOf_1 : decode prog_10_method_23_code 1 = .ok (.bipush 24, 2) := by decide +kernel
theorem d_M_byteOf_3 : decode prog_10_method_23_code 3 = .ok (.bipush 8, 2) := by decide +kernel
theorem d_M_byteOf_5 : decode prog_10_method_23_code 5 = .ok (.iload_n 1, 1) := by decide +kernel
theorem d_M_byteOf_6 : decode prog_10_method_23_code 6 = .ok (.imul, 1) := by decide +kernel
theorem d_M_byteOf_7 : decode prog_10_method_23_code 7 = .ok (.isub, 1) := by decide +kernel
theorem d_M_byteOf_8 : decode prog_10_method_23_code 8 = .ok (.iushr, 1) := by decide +kernel
theorem d_M_byteOf_9 : decode prog_10_method_23_code 9 = .ok (.sipush 255, 3) := by decide +kernel
theorem d_M_byteOf_12 : decode prog_10_method_23_code 12 = .ok (.iand, 1) := by decide +kernel
theorem d_M_byteOf_13 : decode prog_10_method_23_code 13 = .ok (.ireturn, 1) := by decide +kernel
theorem d_M_eventByte_0 : decode prog_10_method_24_code 0 = .ok (.iload_n 2, 1) := by decide +kernel
theorem d_M_eventByte_1 : decode prog_10_method_24_code 1 = .ok (.ifCond .ne 10, 3) := by decide +kernel
theorem d_M_eventByte_4 : decode prog_10_method_24_code 4 = .ok (.aload_n 0, 1) := by decide +kernel
theorem d_M_eventByte_5 : decode prog_10_method_24_code 5 = .ok (.getfield 7, 3) := by decide +kernel
theorem d_M_eventByte_8 : decode prog_10_method_24_code 8 = .ok (.iload_n 1, 1) := by decide +kernel
theorem d_M_eventByte_9 : decode prog_10_method_24_code 9 = .ok (.iaload, 1) := by decide +kernel
theorem d_M_eventByte_10 : decode prog_10_method_24_code 10 = .ok (.ireturn, 1) := by decide +kernel
theorem d_M_eventByte_11 : decode prog_10_method_24_code 11 = .ok (.iload_n 2, 1) := by decide +kernel
theorem d_M_eventByte_12 : decode prog_10_method_24_code 12 = .ok (.iconst 1, 1) := by decide +kernel
theorem d_M_eventByte_13 : decode prog_10_method_24_code 13 = .ok (.if_icmp .ne 10, 3) := by decide +kernel
theorem d_M_eventByte_16 : decode prog_10_method_24_code 16 = .ok (.aload_n 0, 1) := by decide +kernel
theorem d_M_eventByte_17 : decode prog_10_method_24_code 17 = .ok (.getfield 13, 3) := by decide +kernel
theorem d_M_eventByte_20 : decode prog_10_method_24_code 20 = .ok (.iload_n 1, 1) := by decide +kernel
theorem d_M_eventByte_21 : decode prog_10_method_24_code 21 = .ok (.iaload, 1) := by decide +kernel
theorem d_M_eventByte_22 : decode prog_10_method_24_code 22 = .ok (.ireturn, 1) := by decide +kernel
theorem d_M_eventByte_23 : decode prog_10_method_24_code 23 = .ok (.iload_n 2, 1) := by decide +kernel
theorem d_M_eventByte_24 : decode prog_10_method_24_code 24 = .ok (.bipush 6, 2) := by decide +kernel
theorem d_M_eventByte_26 : decode prog_10_method_24_code 26 = .ok (.if_icmp .ge 16, 3) := by decide +kernel
theorem d_M_eventByte_29 : decode prog_10_method_24_code 29 = .ok (.aload_n 0, 1) := by decide +kernel
theorem d_M_eventByte_30 : decode prog_10_method_24_code 30 = .ok (.getfield 16, 3) := by decide +kernel
theorem d_M_eventByte_33 : decode prog_10_method_24_code 33 = .ok (.iload_n 1, 1) := by decide +kernel
theorem d_M_eventByte_34 : decode prog_10_method_24_code 34 = .ok (.iaload, 1) := by decide +kernel
theorem d_M_eventByte_35 : decode prog_10_method_24_code 35 = .ok (.iload_n 2, 1) := by decide +kernel
theorem d_M_eventByte_36 : decode prog_10_method_24_code 36 = .ok (.iconst 2, 1) := by decide +kernel
theorem d_M_eventByte_37 : decode prog_10_method_24_code 37 = .ok (.isub, 1) := by decide +kernel
theorem d_M_eventByte_38 : decode prog_10_method_24_code 38 = .ok (.invokestatic 163, 3) := by decide +kernel
theorem d_M_eventByte_41 : decode prog_10_method_24_code 41 = .ok (.ireturn, 1) := by decide +kernel
theorem d_M_eventByte_42 : decode prog_10_method_24_code 42 = .ok (.iload_n 2, 1) := by decide +kernel
theorem d_M_eventByte_43 : decode prog_10_method_24_code 43 = .ok (.bipush 10, 2) := by decide +kernel
theorem d_M_eventByte_45 : decode prog_10_method_24_code 45 = .ok (.if_icmp .ge 17, 3) := by decide +kernel
theorem d_M_eventByte_48 : decode prog_10_method_24_code 48 = .ok (.aload_n 0, 1) := by decide +kernel
theorem d_M_eventByte_49 : decode prog_10_method_24_code 49 = .ok (.getfield 19, 3) := by decide +kernel
theorem d_M_eventByte_52 : decode prog_10_method_24_code 52 = .ok (.iload_n 1, 1) := by decide +kernel
theorem d_M_eventByte_53 : decode prog_10_method_24_code 53 = .ok (.iaload, 1) := by decide +kernel
theorem d_M_eventByte_54 : decode prog_10_method_24_code 54 = .ok (.iload_n 2, 1) := by decide +kernel
theorem d_M_eventByte_55 : decode prog_10_method_24_code 55 = .ok (.bipush 6, 2) := by decide +kernel
theorem d_M_eventByte_57 : decode prog_10_method_24_code 57 = .ok (.isub, 1) := by decide +kernel
theorem d_M_eventByte_58 : decode prog_10_method_24_code 58 = .ok (.invokestatic 163, 3) := by decide +kernel
theorem d_M_eventByte_61 : decode prog_10_method_24_code 61 = .ok (.ireturn, 1) := by decide +kernel
theorem d_M_eventByte_62 : decode prog_10_method_24_code 62 = .ok (.iload_n 2, 1) := by decide +kernel
theorem d_M_eventByte_63 : decode prog_10_method_24_code 63 = .ok (.bipush 10, 2) := by decide +kernel
theorem d_M_eventByte_65 : decode prog_10_method_24_code 65 = .ok (.if_icmp .ne 10, 3) := by decide +kernel
theorem d_M_eventByte_68 : decode prog_10_method_24_code 68 = .ok (.aload_n 0, 1) := by decide +kernel
theorem d_M_eventByte_69 : decode prog_10_method_24_code 69 = .ok (.getfield 22, 3) := by decide +kernel
theorem d_M_eventByte_72 : decode prog_10_method_24_code 72 = .ok (.iload_n 1, 1) := by decide +kernel
theorem d_M_eventByte_73 : decode prog_10_method_24_code 73 = .ok (.iaload, 1) := by decide +kernel
theorem d_M_eventByte_74 : decode prog_10_method_24_code 74 = .ok (.ireturn, 1) := by decide +kernel
theorem d_M_eventByte_75 : decode prog_10_method_24_code 75 = .ok (.iload_n 2, 1) := by decide +kernel
theorem d_M_eventByte_76 : decode prog_10_method_24_code 76 = .ok (.bipush 15, 2) := by decide +kernel
theorem d_M_eventByte_78 : decode prog_10_method_24_code 78 = .ok (.if_icmp .ge 19, 3) := by decide +kernel
theorem d_M_eventByte_81 : decode prog_10_method_24_code 81 = .ok (.aload_n 0, 1) := by decide +kernel
theorem d_M_eventByte_82 : decode prog_10_method_24_code 82 = .ok (.getfield 25, 3) := by decide +kernel
theorem d_M_eventByte_85 : decode prog_10_method_24_code 85 = .ok (.iload_n 1, 1) := by decide +kernel
theorem d_M_eventByte_86 : decode prog_10_method_24_code 86 = .ok (.iaload, 1) := by decide +kernel
theorem d_M_eventByte_87 : decode prog_10_method_24_code 87 = .ok (.iload_n 2, 1) := by decide +kernel
theorem d_M_eventByte_88 : decode prog_10_method_24_code 88 = .ok (.bipush 11, 2) := by decide +kernel
theorem d_M_eventByte_90 : decode prog_10_method_24_code 90 = .ok (.isub, 1) := by decide +kernel
theorem d_M_eventByte_91 : decode prog_10_method_24_code 91 = .ok (.invokestatic 163, 3) := by decide +kernel
theorem d_M_eventByte_94 : decode prog_10_method_24_code 94 = .ok (.goto 16, 3) := by decide +kernel
theorem d_M_eventByte_97 : decode prog_10_method_24_code 97 = .ok (.aload_n 0, 1) := by decide +kernel
theorem d_M_eventByte_98 : decode prog_10_method_24_code 98 = .ok (.getfield 28, 3) := by decide +kernel
theorem d_M_eventByte_101 : decode prog_10_method_24_code 101 = .ok (.iload_n 1, 1) := by decide +kernel
theorem d_M_eventByte_102 : decode prog_10_method_24_code 102 = .ok (.iaload, 1) := by decide +kernel
theorem d_M_eventByte_103 : decode prog_10_method_24_code 103 = .ok (.iload_n 2, 1) := by decide +kernel
theorem d_M_eventByte_104 : decode prog_10_method_24_code 104 = .ok (.bipush 15, 2) := by decide +kernel
theorem d_M_eventByte_106 : decode prog_10_method_24_code 106 = .ok (.isub, 1) := by decide +kernel
theorem d_M_eventByte_107 : decode prog_10_method_24_code 107 = .ok (.invokestatic 163, 3) := by decide +kernel
theorem d_M_eventByte_110 : decode prog_10_method_24_code 110 = .ok (.ireturn, 1) := by decide +kernel
theorem d_M_line_0 : decode prog_10_method_33_code 0 = .ok (.iload_n 1, 1) := by decide +kernel
theorem d_M_line_1 : decode prog_10_method_33_code 1 = .ok (.iconst 0, 1) := by decide +kernel
theorem d_M_line_2 : decode prog_10_method_33_code 2 = .ok (.iconst 1, 1) := by decide +kernel
theorem d_M_line_3 : decode prog_10_method_33_code 3 = .ok (.invokestatic 101, 3) := by decide +kernel
theorem d_M_line_6 : decode prog_10_method_33_code 6 = .ok (.ifCond .eq 31, 3) := by decide +kernel
theorem d_M_line_9 : decode prog_10_method_33_code 9 = .ok (.iload_n 2, 1) := by decide +kernel
theorem d_M_line_10 : decode prog_10_method_33_code 10 = .ok (.iconst 1, 1) := by decide +kernel
theorem d_M_line_11 : decode prog_10_method_33_code 11 = .ok (.aload_n 0, 1) := by decide +kernel
theorem d_M_line_12 : decode prog_10_method_33_code 12 = .ok (.getfield 148, 3) := by decide +kernel
theorem d_M_line_15 : decode prog_10_method_33_code 15 = .ok (.invokestatic 101, 3) := by decide +kernel
theorem d_M_line_18 : decode prog_10_method_33_code 18 = .ok (.ifCond .eq 19, 3) := by decide +kernel
theorem d_M_line_21 : decode prog_10_method_33_code 21 = .ok (.iload_n 3, 1) := by decide +kernel
theorem d_M_line_22 : decode prog_10_method_33_code 22 = .ok (.invokestatic 192, 3) := by decide +kernel
theorem d_M_line_25 : decode prog_10_method_33_code 25 = .ok (.ifCond .eq 12, 3) := by decide +kernel
theorem d_M_line_28 : decode prog_10_method_33_code 28 = .ok (.aload_n 0, 1) := by decide +kernel
theorem d_M_line_29 : decode prog_10_method_33_code 29 = .ok (.iload_n 3, 1) := by decide +kernel
theorem d_M_line_30 : decode prog_10_method_33_code 30 = .ok (.iload_n 2, 1) := by decide +kernel
theorem d_M_line_31 : decode prog_10_method_33_code 31 = .ok (.invokevirtual 195, 3) := by decide +kernel
theorem d_M_line_34 : decode prog_10_method_33_code 34 = .ok (.goto 5, 3) := by decide +kernel
theorem d_M_line_37 : decode prog_10_method_33_code 37 = .ok (.bipush (-2), 2) := by decide +kernel
theorem d_M_line_39 : decode prog_10_method_33_code 39 = .ok (.ireturn, 1) := by decide +kernel
theorem d_M_isReceiver_0 : decode prog_10_method_5_code 0 = .ok (.iload_n 0, 1) := by decide +kernel
theorem d_M_isReceiver_1 : decode prog_10_method_5_code 1 = .ok (.iconst 0, 1) := by decide +kernel
theorem d_M_isReceiver_2 : decode prog_10_method_5_code 2 = .ok (.iconst 1, 1) := by decide +kernel
theorem d_M_isReceiver_3 : decode prog_10_method_5_code 3 = .ok (.invokestatic 101, 3) := by decide +kernel
theorem d_M_isReceiver_6 : decode prog_10_method_5_code 6 = .ok (.ireturn, 1) := by decide +kernel
theorem d_M_hear_0 : decode prog_10_method_32_code 0 = .ok (.iload_n 2, 1) := by decide +kernel
theorem d_M_hear_1 : decode prog_10_method_32_code 1 = .ok (.aload_n 0, 1) := by decide +kernel
theorem d_M_hear_2 : decode prog_10_method_32_code 2 = .ok (.getfield 71, 3) := by decide +kernel
theorem d_M_hear_5 : decode prog_10_method_32_code 5 = .ok (.iload_n 1, 1) := by decide +kernel
theorem d_M_hear_6 : decode prog_10_method_32_code 6 = .ok (.iaload, 1) := by decide +kernel
theorem d_M_hear_7 : decode prog_10_method_32_code 7 = .ok (.if_icmp .le 10, 3) := by decide +kernel
theorem d_M_hear_10 : decode prog_10_method_32_code 10 = .ok (.aload_n 0, 1) := by decide +kernel
theorem d_M_hear_11 : decode prog_10_method_32_code 11 = .ok (.getfield 71, 3) := by decide +kernel
theorem d_M_hear_14 : decode prog_10_method_32_code 14 = .ok (.iload_n 1, 1) := by decide +kernel
theorem d_M_hear_15 : decode prog_10_method_32_code 15 = .ok (.iload_n 2, 1) := by decide +kernel
theorem d_M_hear_16 : decode prog_10_method_32_code 16 = .ok (.iastore, 1) := by decide +kernel
theorem d_M_hear_17 : decode prog_10_method_32_code 17 = .ok (.iload_n 2, 1) := by decide +kernel
theorem d_M_hear_18 : decode prog_10_method_32_code 18 = .ok (.aload_n 0, 1) := by decide +kernel
theorem d_M_hear_19 : decode prog_10_method_32_code 19 = .ok (.getfield 68, 3) := by decide +kernel
theorem d_M_hear_22 : decode prog_10_method_32_code 22 = .ok (.iload_n 1, 1) := by decide +kernel
theorem d_M_hear_23 : decode prog_10_method_32_code 23 = .ok (.iaload, 1) := by decide +kernel
theorem d_M_hear_24 : decode prog_10_method_32_code 24 = .ok (.if_icmp .ge 5, 3) := by decide +kernel
theorem d_M_hear_27 : decode prog_10_method_32_code 27 = .ok (.iconst 0, 1) := by decide +kernel
theorem d_M_hear_28 : decode prog_10_method_32_code 28 = .ok (.ireturn, 1) := by decide +kernel
theorem d_M_hear_29 : decode prog_10_method_32_code 29 = .ok (.iload_n 2, 1) := by decide +kernel
theorem d_M_hear_30 : decode prog_10_method_32_code 30 = .ok (.aload_n 0, 1) := by decide +kernel
theorem d_M_hear_31 : decode prog_10_method_32_code 31 = .ok (.getfield 68, 3) := by decide +kernel
theorem d_M_hear_34 : decode prog_10_method_32_code 34 = .ok (.iload_n 1, 1) := by decide +kernel
theorem d_M_hear_35 : decode prog_10_method_32_code 35 = .ok (.iaload, 1) := by decide +kernel
theorem d_M_hear_36 : decode prog_10_method_32_code 36 = .ok (.bipush 6, 2) := by decide +kernel
theorem d_M_hear_38 : decode prog_10_method_32_code 38 = .ok (.iadd, 1) := by decide +kernel
theorem d_M_hear_39 : decode prog_10_method_32_code 39 = .ok (.if_icmp .le 5, 3) := by decide +kernel
theorem d_M_hear_42 : decode prog_10_method_32_code 42 = .ok (.iconst 3, 1) := by decide +kernel
theorem d_M_hear_43 : decode prog_10_method_32_code 43 = .ok (.ireturn, 1) := by decide +kernel
theorem d_M_hear_44 : decode prog_10_method_32_code 44 = .ok (.iload_n 2, 1) := by decide +kernel
theorem d_M_hear_45 : decode prog_10_method_32_code 45 = .ok (.aload_n 0, 1) := by decide +kernel
theorem d_M_hear_46 : decode prog_10_method_32_code 46 = .ok (.getfield 68, 3) := by decide +kernel
theorem d_M_hear_49 : decode prog_10_method_32_code 49 = .ok (.iload_n 1, 1) := by decide +kernel
theorem d_M_hear_50 : decode prog_10_method_32_code 50 = .ok (.iaload, 1) := by decide +kernel
theorem d_M_hear_51 : decode prog_10_method_32_code 51 = .ok (.if_icmp .le 18, 3) := by decide +kernel
theorem d_M_hear_54 : decode prog_10_method_32_code 54 = .ok (.aload_n 0, 1) := by decide +kernel
theorem d_M_hear_55 : decode prog_10_method_32_code 55 = .ok (.getfield 74, 3) := by decide +kernel
theorem d_M_hear_58 : decode prog_10_method_32_code 58 = .ok (.sipush 402, 3) := by decide +kernel
theorem d_M_hear_61 : decode prog_10_method_32_code 61 = .ok (.iload_n 1, 1) := by decide +kernel
theorem d_M_hear_62 : decode prog_10_method_32_code 62 = .ok (.imul, 1) := by decide +kernel
theorem d_M_hear_63 : decode prog_10_method_32_code 63 = .ok (.iload_n 2, 1) := by decide +kernel
theorem d_M_hear_64 : decode prog_10_method_32_code 64 = .ok (.iadd, 1) := by decide +kernel
theorem d_M_hear_65 : decode prog_10_method_32_code 65 = .ok (.iconst 1, 1) := by decide +kernel
theorem d_M_hear_66 : decode prog_10_method_32_code 66 = .ok (.bastore, 1) := by decide +kernel
theorem d_M_hear_67 : decode prog_10_method_32_code 67 = .ok (.iconst 2, 1) := by decide +kernel
theorem d_M_hear_68 : decode prog_10_method_32_code 68 = .ok (.ireturn, 1) := by decide +kernel
theorem d_M_hear_69 : decode prog_10_method_32_code 69 = .ok (.aload_n 0, 1) := by decide +kernel
theorem d_M_hear_70 : decode prog_10_method_32_code 70 = .ok (.iload_n 1, 1) := by decide +kernel
theorem d_M_hear_71 : decode prog_10_method_32_code 71 = .ok (.invokevirtual 186, 3) := by decide +kernel
theorem d_M_hear_74 : decode prog_10_method_32_code 74 = .ok (.aload_n 0, 1) := by decide +kernel
theorem d_M_hear_75 : decode prog_10_method_32_code 75 = .ok (.iload_n 1, 1) := by decide +kernel
theorem d_M_hear_76 : decode prog_10_method_32_code 76 = .ok (.invokevirtual 189, 3) := by decide +kernel
theorem d_M_hear_79 : decode prog_10_method_32_code 79 = .ok (.iconst 1, 1) := by decide +kernel
theorem d_M_hear_80 : decode prog_10_method_32_code 80 = .ok (.ireturn, 1) := by decide +kernel
theorem d_M_pass_0 : decode prog_10_method_30_code 0 = .ok (.aload_n 0, 1) := by decide +kernel
theorem d_M_pass_1 : decode prog_10_method_30_code 1 = .ok (.getfield 68, 3) := by decide +kernel
theorem d_M_pass_4 : decode prog_10_method_30_code 4 = .ok (.iload_n 1, 1) := by decide +kernel
theorem d_M_pass_5 : decode prog_10_method_30_code 5 = .ok (.iaload, 1) := by decide +kernel
theorem d_M_pass_6 : decode prog_10_method_30_code 6 = .ok (.istore_n 2, 1) := by decide +kernel
theorem d_M_pass_7 : decode prog_10_method_30_code 7 = .ok (.aload_n 0, 1) := by decide +kernel
theorem d_M_pass_8 : decode prog_10_method_30_code 8 = .ok (.getfield 74, 3) := by decide +kernel
theorem d_M_pass_11 : decode prog_10_method_30_code 11 = .ok (.sipush 402, 3) := by decide +kernel
theorem d_M_pass_14 : decode prog_10_method_30_code 14 = .ok (.iload_n 1, 1) := by decide +kernel
theorem d_M_pass_15 : decode prog_10_method_30_code 15 = .ok (.imul, 1) := by decide +kernel
theorem d_M_pass_16 : decode prog_10_method_30_code 16 = .ok (.iload_n 2, 1) := by decide +kernel
theorem d_M_pass_17 : decode prog_10_method_30_code 17 = .ok (.iadd, 1) := by decide +kernel
theorem d_M_pass_18 : decode prog_10_method_30_code 18 = .ok (.iconst 0, 1) := by decide +kernel
theorem d_M_pass_19 : decode prog_10_method_30_code 19 = .ok (.bastore, 1) := by decide +kernel
theorem d_M_pass_20 : decode prog_10_method_30_code 20 = .ok (.aload_n 0, 1) := by decide +kernel
theorem d_M_pass_21 : decode prog_10_method_30_code 21 = .ok (.getfield 34, 3) := by decide +kernel
theorem d_M_pass_24 : decode prog_10_method_30_code 24 = .ok (.iload_n 2, 1) := by decide +kernel
theorem d_M_pass_25 : decode prog_10_method_30_code 25 = .ok (.iaload, 1) := by decide +kernel
theorem d_M_pass_26 : decode prog_10_method_30_code 26 = .ok (.istore_n 3, 1) := by decide +kernel
theorem d_M_pass_27 : decode prog_10_method_30_code 27 = .ok (.iload_n 3, 1) := by decide +kernel
theorem d_M_pass_28 : decode prog_10_method_30_code 28 = .ok (.aload_n 0, 1) := by decide +kernel
theorem d_M_pass_29 : decode prog_10_method_30_code 29 = .ok (.getfield 34, 3) := by decide +kernel
theorem d_M_pass_32 : decode prog_10_method_30_code 32 = .ok (.iload_n 2, 1) := by decide +kernel
theorem d_M_pass_33 : decode prog_10_method_30_code 33 = .ok (.iconst 1, 1) := by decide +kernel
theorem d_M_pass_34 : decode prog_10_method_30_code 34 = .ok (.iadd, 1) := by decide +kernel
theorem d_M_pass_35 : decode prog_10_method_30_code 35 = .ok (.iaload, 1) := by decide +kernel
theorem d_M_pass_36 : decode prog_10_method_30_code 36 = .ok (.if_icmp .ge 15, 3) := by decide +kernel
theorem d_M_pass_39 : decode prog_10_method_30_code 39 = .ok (.aload_n 0, 1) := by decide +kernel
theorem d_M_pass_40 : decode prog_10_method_30_code 40 = .ok (.iload_n 1, 1) := by decide +kernel
theorem d_M_pass_41 : decode prog_10_method_30_code 41 = .ok (.iload_n 3, 1) := by decide +kernel
theorem d_M_pass_42 : decode prog_10_method_30_code 42 = .ok (.invokevirtual 183, 3) := by decide +kernel
theorem d_M_pass_45 : decode prog_10_method_30_code 45 = .ok (.iinc 3 1, 3) := by decide +kernel
theorem d_M_pass_48 : decode prog_10_method_30_code 48 = .ok (.goto (-21), 3) := by decide +kernel
theorem d_M_pass_51 : decode prog_10_method_30_code 51 = .ok (.aload_n 0, 1) := by decide +kernel
theorem d_M_pass_52 : decode prog_10_method_30_code 52 = .ok (.getfield 68, 3) := by decide +kernel
theorem d_M_pass_55 : decode prog_10_method_30_code 55 = .ok (.iload_n 1, 1) := by decide +kernel
theorem d_M_pass_56 : decode prog_10_method_30_code 56 = .ok (.dup2, 1) := by decide +kernel
theorem d_M_pass_57 : decode prog_10_method_30_code 57 = .ok (.iaload, 1) := by decide +kernel
theorem d_M_pass_58 : decode prog_10_method_30_code 58 = .ok (.iconst 1, 1) := by decide +kernel
theorem d_M_pass_59 : decode prog_10_method_30_code 59 = .ok (.iadd, 1) := by decide +kernel
theorem d_M_pass_60 : decode prog_10_method_30_code 60 = .ok (.iastore, 1) := by decide +kernel
theorem d_M_pass_61 : decode prog_10_method_30_code 61 = .ok (.return_, 1) := by decide +kernel
theorem d_M_event_0 : decode prog_10_method_29_code 0 = .ok (.aload_n 0, 1) := by decide +kernel
theorem d_M_event_1 : decode prog_10_method_29_code 1 = .ok (.getfield 13, 3) := by decide +kernel
theorem d_M_event_4 : decode prog_10_method_29_code 4 = .ok (.iload_n 2, 1) := by decide +kernel
theorem d_M_event_5 : decode prog_10_method_29_code 5 = .ok (.iaload, 1) := by decide +kernel
theorem d_M_event_6 : decode prog_10_method_29_code 6 = .ok (.istore_n 3, 1) := by decide +kernel
theorem d_M_event_7 : decode prog_10_method_29_code 7 = .ok (.iconst 4, 1) := by decide +kernel
theorem d_M_event_8 : decode prog_10_method_29_code 8 = .ok (.iload_n 1, 1) := by decide +kernel
theorem d_M_event_9 : decode prog_10_method_29_code 9 = .ok (.imul, 1) := by decide +kernel
theorem d_M_event_10 : decode prog_10_method_29_code 10 = .ok (.iload_n 3, 1) := by decide +kernel
theorem d_M_event_11 : decode prog_10_method_29_code 11 = .ok (.iadd, 1) := by decide +kernel
theorem d_M_event_12 : decode prog_10_method_29_code 12 = .ok (.istore 4, 2) := by decide +kernel
theorem d_M_event_14 : decode prog_10_method_29_code 14 = .ok (.aload_n 0, 1) := by decide +kernel
theorem d_M_event_15 : decode prog_10_method_29_code 15 = .ok (.getfield 16, 3) := by decide +kernel
theorem d_M_event_18 : decode prog_10_method_29_code 18 = .ok (.iload_n 2, 1) := by decide +kernel
theorem d_M_event_19 : decode prog_10_method_29_code 19 = .ok (.iaload, 1) := by decide +kernel
theorem d_M_event_20 : decode prog_10_method_29_code 20 = .ok (.istore 5, 2) := by decide +kernel
theorem d_M_event_22 : decode prog_10_method_29_code 22 = .ok (.iload 5, 2) := by decide +kernel
theorem d_M_event_24 : decode prog_10_method_29_code 24 = .ok (.aload_n 0, 1) := by decide +kernel
theorem d_M_event_25 : decode prog_10_method_29_code 25 = .ok (.getfield 55, 3) := by decide +kernel
theorem d_M_event_28 : decode prog_10_method_29_code 28 = .ok (.iload 4, 2) := by decide +kernel
theorem d_M_event_30 : decode prog_10_method_29_code 30 = .ok (.iaload, 1) := by decide +kernel
theorem d_M_event_31 : decode prog_10_method_29_code 31 = .ok (.iconst 1, 1) := by decide +kernel
theorem d_M_event_32 : decode prog_10_method_29_code 32 = .ok (.iadd, 1) := by decide +kernel
theorem d_M_event_33 : decode prog_10_method_29_code 33 = .ok (.if_icmp .ne 20, 3) := by decide +kernel
theorem d_M_event_36 : decode prog_10_method_29_code 36 = .ok (.aload_n 0, 1) := by decide +kernel
theorem d_M_event_37 : decode prog_10_method_29_code 37 = .ok (.iload_n 1, 1) := by decide +kernel
theorem d_M_event_38 : decode prog_10_method_29_code 38 = .ok (.iload_n 3, 1) := by decide +kernel
theorem d_M_event_39 : decode prog_10_method_29_code 39 = .ok (.iload 5, 2) := by decide +kernel
theorem d_M_event_41 : decode prog_10_method_29_code 41 = .ok (.invokevirtual 176, 3) := by decide +kernel
theorem d_M_event_44 : decode prog_10_method_29_code 44 = .ok (.aload_n 0, 1) := by decide +kernel
theorem d_M_event_45 : decode prog_10_method_29_code 45 = .ok (.iload_n 1, 1) := by decide +kernel
theorem d_M_event_46 : decode prog_10_method_29_code 46 = .ok (.iload_n 3, 1) := by decide +kernel
theorem d_M_event_47 : decode prog_10_method_29_code 47 = .ok (.invokevirtual 180, 3) := by decide +kernel
theorem d_M_event_50 : decode prog_10_method_29_code 50 = .ok (.goto 70, 3) := by decide +kernel
theorem d_M_event_53 : decode prog_10_method_29_code 53 = .ok (.iload 5, 2) := by decide +kernel
theorem d_M_event_55 : decode prog_10_method_29_code 55 = .ok (.aload_n 0, 1) := by decide +kernel
theorem d_M_event_56 : decode prog_10_method_29_code 56 = .ok (.getfield 55, 3) := by decide +kernel
theorem d_M_event_59 : decode prog_10_method_29_code 59 = .ok (.iload 4, 2) := by decide +kernel
theorem d_M_event_61 : decode prog_10_method_29_code 61 = .ok (.iaload, 1) := by decide +kernel
theorem d_M_event_62 : decode prog_10_method_29_code 62 = .ok (.if_icmp .le 58, 3) := by decide +kernel
theorem d_M_event_65 : decode prog_10_method_29_code 65 = .ok (.aload_n 0, 1) := by decide +kernel
theorem d_M_event_66 : decode prog_10_method_29_code 66 = .ok (.getfield 61, 3) := by decide +kernel
theorem d_M_event_69 : decode prog_10_method_29_code 69 = .ok (.sipush 401, 3) := by decide +kernel
theorem d_M_event_72 : decode prog_10_method_29_code 72 = .ok (.iload 4, 2) := by decide +kernel
theorem d_M_event_74 : decode prog_10_method_29_code 74 = .ok (.imul, 1) := by decide +kernel
theorem d_M_event_75 : decode prog_10_method_29_code 75 = .ok (.iload 5, 2) := by decide +kernel
theorem d_M_event_77 : decode prog_10_method_29_code 77 = .ok (.iadd, 1) := by decide +kernel
theorem d_M_event_78 : decode prog_10_method_29_code 78 = .ok (.baload, 1) := by decide +kernel
theorem d_M_event_79 : decode prog_10_method_29_code 79 = .ok (.ifCond .ne 41, 3) := by decide +kernel
theorem d_M_event_82 : decode prog_10_method_29_code 82 = .ok (.aload_n 0, 1) := by decide +kernel
theorem d_M_event_83 : decode prog_10_method_29_code 83 = .ok (.getfield 65, 3) := by decide +kernel
theorem d_M_event_86 : decode prog_10_method_29_code 86 = .ok (.iload 4, 2) := by decide +kernel
theorem d_M_event_88 : decode prog_10_method_29_code 88 = .ok (.iaload, 1) := by decide +kernel
theorem d_M_event_89 : decode prog_10_method_29_code 89 = .ok (.bipush 30, 2) := by decide +kernel
theorem d_M_event_91 : decode prog_10_method_29_code 91 = .ok (.if_icmp .ge 29, 3) := by decide +kernel
theorem d_M_event_94 : decode prog_10_method_29_code 94 = .ok (.aload_n 0, 1) := by decide +kernel
theorem d_M_event_95 : decode prog_10_method_29_code 95 = .ok (.getfield 61, 3) := by decide +kernel
theorem d_M_event_98 : decode prog_10_method_29_code 98 = .ok (.sipush 401, 3) := by decide +kernel
theorem d_M_event_101 : decode prog_10_method_29_code 101 = .ok (.iload 4, 2) := by decide +kernel
theorem d_M_event_103 : decode prog_10_method_29_code 103 = .ok (.imul, 1) := by decide +kernel
theorem d_M_event_104 : decode prog_10_method_29_code 104 = .ok (.iload 5, 2) := by decide +kernel
theorem d_M_event_106 : decode prog_10_method_29_code 106 = .ok (.iadd, 1) := by decide +kernel
theorem d_M_event_107 : decode prog_10_method_29_code 107 = .ok (.iconst 1, 1) := by decide +kernel
theorem d_M_event_108 : decode prog_10_method_29_code 108 = .ok (.bastore, 1) := by decide +kernel
theorem d_M_event_109 : decode prog_10_method_29_code 109 = .ok (.aload_n 0, 1) := by decide +kernel
theorem d_M_event_110 : decode prog_10_method_29_code 110 = .ok (.getfield 65, 3) := by decide +kernel
theorem d_M_event_113 : decode prog_10_method_29_code 113 = .ok (.iload 4, 2) := by decide +kernel
theorem d_M_event_115 : decode prog_10_method_29_code 115 = .ok (.dup2, 1) := by decide +kernel
theorem d_M_event_116 : decode prog_10_method_29_code 116 = .ok (.iaload, 1) := by decide +kernel
theorem d_M_event_117 : decode prog_10_method_29_code 117 = .ok (.iconst 1, 1) := by decide +kernel
theorem d_M_event_118 : decode prog_10_method_29_code 118 = .ok (.iadd, 1) := by decide +kernel
theorem d_M_event_119 : decode prog_10_method_29_code 119 = .ok (.iastore, 1) := by decide +kernel
theorem d_M_event_120 : decode prog_10_method_29_code 120 = .ok (.return_, 1) := by decide +kernel
theorem d_M_become_0 : decode prog_10_method_26_code 0 = .ok (.aload_n 0, 1) := by decide +kernel
theorem d_M_become_1 : decode prog_10_method_26_code 1 = .ok (.iload_n 2, 1) := by decide +kernel
theorem d_M_become_2 : decode prog_10_method_26_code 2 = .ok (.aload_n 0, 1) := by decide +kernel
theorem d_M_become_3 : decode prog_10_method_26_code 3 = .ok (.getfield 55, 3) := by decide +kernel
theorem d_M_become_6 : decode prog_10_method_26_code 6 = .ok (.iconst 4, 1) := by decide +kernel
theorem d_M_become_7 : decode prog_10_method_26_code 7 = .ok (.iload_n 1, 1) := by decide +kernel
theorem d_M_become_8 : decode prog_10_method_26_code 8 = .ok (.imul, 1) := by decide +kernel
theorem d_M_become_9 : decode prog_10_method_26_code 9 = .ok (.iload_n 2, 1) := by decide +kernel
theorem d_M_become_10 : decode prog_10_method_26_code 10 = .ok (.iadd, 1) := by decide +kernel
theorem d_M_become_11 : decode prog_10_method_26_code 11 = .ok (.iaload, 1) := by decide +kernel
theorem d_M_become_12 : decode prog_10_method_26_code 12 = .ok (.invokevirtual 144, 3) := by decide +kernel
theorem d_M_become_15 : decode prog_10_method_26_code 15 = .ok (.aload_n 0, 1) := by decide +kernel
theorem d_M_become_16 : decode prog_10_method_26_code 16 = .ok (.aload_n 0, 1) := by decide +kernel
theorem d_M_become_17 : decode prog_10_method_26_code 17 = .ok (.getfield 49, 3) := by decide +kernel
theorem d_M_become_20 : decode prog_10_method_26_code 20 = .ok (.invokevirtual 169, 3) := by decide +kernel
theorem d_M_become_23 : decode prog_10_method_26_code 23 = .ok (.aload_n 0, 1) := by decide +kernel
theorem d_M_become_24 : decode prog_10_method_26_code 24 = .ok (.getfield 55, 3) := by decide +kernel
theorem d_M_become_27 : decode prog_10_method_26_code 27 = .ok (.iconst 4, 1) := by decide +kernel
theorem d_M_become_28 : decode prog_10_method_26_code 28 = .ok (.iload_n 1, 1) := by decide +kernel
theorem d_M_become_29 : decode prog_10_method_26_code 29 = .ok (.imul, 1) := by decide +kernel
theorem d_M_become_30 : decode prog_10_method_26_code 30 = .ok (.iload_n 2, 1) := by decide +kernel
theorem d_M_become_31 : decode prog_10_method_26_code 31 = .ok (.iadd, 1) := by decide +kernel
theorem d_M_become_32 : decode prog_10_method_26_code 32 = .ok (.iload_n 3, 1) := by decide +kernel
theorem d_M_become_33 : decode prog_10_method_26_code 33 = .ok (.iastore, 1) := by decide +kernel
theorem d_M_become_34 : decode prog_10_method_26_code 34 = .ok (.aload_n 0, 1) := by decide +kernel
theorem d_M_become_35 : decode prog_10_method_26_code 35 = .ok (.iload_n 2, 1) := by decide +kernel
theorem d_M_become_36 : decode prog_10_method_26_code 36 = .ok (.iload_n 3, 1) := by decide +kernel
theorem d_M_become_37 : decode prog_10_method_26_code 37 = .ok (.invokevirtual 144, 3) := by decide +kernel
theorem d_M_become_40 : decode prog_10_method_26_code 40 = .ok (.aload_n 0, 1) := by decide +kernel
theorem d_M_become_41 : decode prog_10_method_26_code 41 = .ok (.aload_n 0, 1) := by decide +kernel
theorem d_M_become_42 : decode prog_10_method_26_code 42 = .ok (.getfield 52, 3) := by decide +kernel
theorem d_M_become_45 : decode prog_10_method_26_code 45 = .ok (.invokevirtual 169, 3) := by decide +kernel
theorem d_M_become_48 : decode prog_10_method_26_code 48 = .ok (.iconst 1, 1) := by decide +kernel
theorem d_M_become_49 : decode prog_10_method_26_code 49 = .ok (.istore 4, 2) := by decide +kernel
theorem d_M_become_51 : decode prog_10_method_26_code 51 = .ok (.iconst 0, 1) := by decide +kernel
theorem d_M_become_52 : decode prog_10_method_26_code 52 = .ok (.istore 5, 2) := by decide +kernel
theorem d_M_become_54 : decode prog_10_method_26_code 54 = .ok (.iload 5, 2) := by decide +kernel
theorem d_M_become_56 : decode prog_10_method_26_code 56 = .ok (.bipush 19, 2) := by decide +kernel
theorem d_M_become_58 : decode prog_10_method_26_code 58 = .ok (.if_icmp .ge 29, 3) := by decide +kernel
theorem d_M_become_61 : decode prog_10_method_26_code 61 = .ok (.aload_n 0, 1) := by decide +kernel
theorem d_M_become_62 : decode prog_10_method_26_code 62 = .ok (.getfield 49, 3) := by decide +kernel
theorem d_M_become_65 : decode prog_10_method_26_code 65 = .ok (.iload 5, 2) := by decide +kernel
theorem d_M_become_67 : decode prog_10_method_26_code 67 = .ok (.iaload, 1) := by decide +kernel
theorem d_M_become_68 : decode prog_10_method_26_code 68 = .ok (.aload_n 0, 1) := by decide +kernel
theorem d_M_become_69 : decode prog_10_method_26_code 69 = .ok (.getfield 52, 3) := by decide +kernel
theorem d_M_become_72 : decode prog_10_method_26_code 72 = .ok (.iload 5, 2) := by decide +kernel
theorem d_M_become_74 : decode prog_10_method_26_code 74 = .ok (.iaload, 1) := by decide +kernel
theorem d_M_become_75 : decode prog_10_method_26_code 75 = .ok (.if_icmp .eq 6, 3) := by decide +kernel
theorem d_M_become_78 : decode prog_10_method_26_code 78 = .ok (.iconst 0, 1) := by decide +kernel
theorem d_M_become_79 : decode prog_10_method_26_code 79 = .ok (.istore 4, 2) := by decide +kernel
theorem d_M_become_81 : decode prog_10_method_26_code 81 = .ok (.iinc 5 1, 3) := by decide +kernel
theorem d_M_become_84 : decode prog_10_method_26_code 84 = .ok (.goto (-30), 3) := by decide +kernel
theorem d_M_become_87 : decode prog_10_method_26_code 87 = .ok (.iconst 0, 1) := by decide +kernel
theorem d_M_become_88 : decode prog_10_method_26_code 88 = .ok (.istore 5, 2) := by decide +kernel
theorem d_M_become_90 : decode prog_10_method_26_code 90 = .ok (.iload 5, 2) := by decide +kernel
theorem d_M_become_92 : decode prog_10_method_26_code 92 = .ok (.aload_n 0, 1) := by decide +kernel
theorem d_M_become_93 : decode prog_10_method_26_code 93 = .ok (.getfield 92, 3) := by decide +kernel
theorem d_M_become_96 : decode prog_10_method_26_code 96 = .ok (.iload_n 1, 1) := by decide +kernel
theorem d_M_become_97 : decode prog_10_method_26_code 97 = .ok (.iaload, 1) := by decide +kernel
theorem d_M_become_98 : decode prog_10_method_26_code 98 = .ok (.if_icmp .ge 27, 3) := by decide +kernel
theorem d_M_become_101 : decode prog_10_method_26_code 101 = .ok (.aload_n 0, 1) := by decide +kernel
theorem d_M_become_102 : decode prog_10_method_26_code 102 = .ok (.getfield 89, 3) := by decide +kernel
theorem d_M_become_105 : decode prog_10_method_26_code 105 = .ok (.iconst 4, 1) := by decide +kernel
theorem d_M_become_106 : decode prog_10_method_26_code 106 = .ok (.iload_n 1, 1) := by decide +kernel
theorem d_M_become_107 : decode prog_10_method_26_code 107 = .ok (.imul, 1) := by decide +kernel
theorem d_M_become_108 : decode prog_10_method_26_code 108 = .ok (.iload 5, 2) := by decide +kernel
theorem d_M_become_110 : decode prog_10_method_26_code 110 = .ok (.iadd, 1) := by decide +kernel
theorem d_M_become_111 : decode prog_10_method_26_code 111 = .ok (.iaload, 1) := by decide +kernel
theorem d_M_become_112 : decode prog_10_method_26_code 112 = .ok (.iload_n 2, 1) := by decide +kernel
theorem d_M_become_113 : decode prog_10_method_26_code 113 = .ok (.if_icmp .ne 6, 3) := by decide +kernel
theorem d_M_become_116 : decode prog_10_method_26_code 116 = .ok (.iconst 1, 1) := by decide +kernel
theorem d_M_become_117 : decode prog_10_method_26_code 117 = .ok (.istore 4, 2) := by decide +kernel
theorem d_M_become_119 : decode prog_10_method_26_code 119 = .ok (.iinc 5 1, 3) := by decide +kernel
theorem d_M_become_122 : decode prog_10_method_26_code 122 = .ok (.goto (-32), 3) := by decide +kernel
theorem d_M_become_125 : decode prog_10_method_26_code 125 = .ok (.iload 4, 2) := by decide +kernel
theorem d_M_become_127 : decode prog_10_method_26_code 127 = .ok (.ifCond .eq 4, 3) := by decide +kernel
theorem d_M_become_130 : decode prog_10_method_26_code 130 = .ok (.return_, 1) := by decide +kernel
theorem d_M_become_131 : decode prog_10_method_26_code 131 = .ok (.aload_n 0, 1) := by decide +kernel
theorem d_M_become_132 : decode prog_10_method_26_code 132 = .ok (.getfield 89, 3) := by decide +kernel
theorem d_M_become_135 : decode prog_10_method_26_code 135 = .ok (.iconst 4, 1) := by decide +kernel
theorem d_M_become_136 : decode prog_10_method_26_code 136 = .ok (.iload_n 1, 1) := by decide +kernel
theorem d_M_become_137 : decode prog_10_method_26_code 137 = .ok (.imul, 1) := by decide +kernel
theorem d_M_become_138 : decode prog_10_method_26_code 138 = .ok (.aload_n 0, 1) := by decide +kernel
theorem d_M_become_139 : decode prog_10_method_26_code 139 = .ok (.getfield 92, 3) := by decide +kernel
theorem d_M_become_142 : decode prog_10_method_26_code 142 = .ok (.iload_n 1, 1) := by decide +kernel
theorem d_M_become_143 : decode prog_10_method_26_code 143 = .ok (.iaload, 1) := by decide +kernel
theorem d_M_become_144 : decode prog_10_method_26_code 144 = .ok (.iadd, 1) := by decide +kernel
theorem d_M_become_145 : decode prog_10_method_26_code 145 = .ok (.iload_n 2, 1) := by decide +kernel
theorem d_M_become_146 : decode prog_10_method_26_code 146 = .ok (.iastore, 1) := by decide +kernel
theorem d_M_become_147 : decode prog_10_method_26_code 147 = .ok (.aload_n 0, 1) := by decide +kernel
theorem d_M_become_148 : decode prog_10_method_26_code 148 = .ok (.getfield 92, 3) := by decide +kernel
theorem d_M_become_151 : decode prog_10_method_26_code 151 = .ok (.iload_n 1, 1) := by decide +kernel
theorem d_M_become_152 : decode prog_10_method_26_code 152 = .ok (.dup2, 1) := by decide +kernel
theorem d_M_become_153 : decode prog_10_method_26_code 153 = .ok (.iaload, 1) := by decide +kernel
theorem d_M_become_154 : decode prog_10_method_26_code 154 = .ok (.iconst 1, 1) := by decide +kernel
theorem d_M_become_155 : decode prog_10_method_26_code 155 = .ok (.iadd, 1) := by decide +kernel
theorem d_M_become_156 : decode prog_10_method_26_code 156 = .ok (.iastore, 1) := by decide +kernel
theorem d_M_become_157 : decode prog_10_method_26_code 157 = .ok (.return_, 1) := by decide +kernel
theorem d_M_look_0 : decode prog_10_method_14_code 0 = .ok (.iconst 0, 1) := by decide +kernel
theorem d_M_look_1 : decode prog_10_method_14_code 1 = .ok (.istore_n 2, 1) := by decide +kernel
theorem d_M_look_2 : decode prog_10_method_14_code 2 = .ok (.iload_n 2, 1) := by decide +kernel
theorem d_M_look_3 : decode prog_10_method_14_code 3 = .ok (.iconst 2, 1) := by decide +kernel
theorem d_M_look_4 : decode prog_10_method_14_code 4 = .ok (.if_icmp .ge 58, 3) := by decide +kernel
theorem d_M_look_7 : decode prog_10_method_14_code 7 = .ok (.iconst 0, 1) := by decide +kernel
theorem d_M_look_8 : decode prog_10_method_14_code 8 = .ok (.istore_n 3, 1) := by decide +kernel
theorem d_M_look_9 : decode prog_10_method_14_code 9 = .ok (.iload_n 3, 1) := by decide +kernel
theorem d_M_look_10 : decode prog_10_method_14_code 10 = .ok (.iconst 3, 1) := by decide +kernel
theorem d_M_look_11 : decode prog_10_method_14_code 11 = .ok (.if_icmp .ge 45, 3) := by decide +kernel
theorem d_M_look_14 : decode prog_10_method_14_code 14 = .ok (.iconst 0, 1) := by decide +kernel
theorem d_M_look_15 : decode prog_10_method_14_code 15 = .ok (.istore 4, 2) := by decide +kernel
theorem d_M_look_17 : decode prog_10_method_14_code 17 = .ok (.iload 4, 2) := by decide +kernel
theorem d_M_look_19 : decode prog_10_method_14_code 19 = .ok (.iconst 3, 1) := by decide +kernel
theorem d_M_look_20 : decode prog_10_method_14_code 20 = .ok (.if_icmp .ge 30, 3) := by decide +kernel
theorem d_M_look_23 : decode prog_10_method_14_code 23 = .ok (.aload_n 1, 1) := by decide +kernel
theorem d_M_look_24 : decode prog_10_method_14_code 24 = .ok (.bipush 9, 2) := by decide +kernel
theorem d_M_look_26 : decode prog_10_method_14_code 26 = .ok (.iload_n 2, 1) := by decide +kernel
theorem d_M_look_27 : decode prog_10_method_14_code 27 = .ok (.imul, 1) := by decide +kernel
theorem d_M_look_28 : decode prog_10_method_14_code 28 = .ok (.iconst 3, 1) := by decide +kernel
theorem d_M_look_29 : decode prog_10_method_14_code 29 = .ok (.iload_n 3, 1) := by decide +kernel
theorem d_M_look_30 : decode prog_10_method_14_code 30 = .ok (.imul, 1) := by decide +kernel
theorem d_M_look_31 : decode prog_10_method_14_code 31 = .ok (.iadd, 1) := by decide +kernel
theorem d_M_look_32 : decode prog_10_method_14_code 32 = .ok (.iload 4, 2) := by decide +kernel
theorem d_M_look_34 : decode prog_10_method_14_code 34 = .ok (.iadd, 1) := by decide +kernel
theorem d_M_look_35 : decode prog_10_method_14_code 35 = .ok (.aload_n 0, 1) := by decide +kernel
theorem d_M_look_36 : decode prog_10_method_14_code 36 = .ok (.iload_n 2, 1) := by decide +kernel
theorem d_M_look_37 : decode prog_10_method_14_code 37 = .ok (.iload_n 3, 1) := by decide +kernel
theorem d_M_look_38 : decode prog_10_method_14_code 38 = .ok (.iload 4, 2) := by decide +kernel
theorem d_M_look_40 : decode prog_10_method_14_code 40 = .ok (.invokevirtual 140, 3) := by decide +kernel
theorem d_M_look_43 : decode prog_10_method_14_code 43 = .ok (.iastore, 1) := by decide +kernel
theorem d_M_look_44 : decode prog_10_method_14_code 44 = .ok (.iinc 4 1, 3) := by decide +kernel
theorem d_M_look_47 : decode prog_10_method_14_code 47 = .ok (.goto (-30), 3) := by decide +kernel
theorem d_M_look_50 : decode prog_10_method_14_code 50 = .ok (.iinc 3 1, 3) := by decide +kernel
theorem d_M_look_53 : decode prog_10_method_14_code 53 = .ok (.goto (-44), 3) := by decide +kernel
theorem d_M_look_56 : decode prog_10_method_14_code 56 = .ok (.iinc 2 1, 3) := by decide +kernel
theorem d_M_look_59 : decode prog_10_method_14_code 59 = .ok (.goto (-57), 3) := by decide +kernel
theorem d_M_look_62 : decode prog_10_method_14_code 62 = .ok (.aload_n 1, 1) := by decide +kernel
theorem d_M_look_63 : decode prog_10_method_14_code 63 = .ok (.bipush 18, 2) := by decide +kernel
theorem d_M_look_65 : decode prog_10_method_14_code 65 = .ok (.aload_n 0, 1) := by decide +kernel
theorem d_M_look_66 : decode prog_10_method_14_code 66 = .ok (.getfield 118, 3) := by decide +kernel
theorem d_M_look_69 : decode prog_10_method_14_code 69 = .ok (.ifCond .eq 7, 3) := by decide +kernel
theorem d_M_look_72 : decode prog_10_method_14_code 72 = .ok (.iconst 1, 1) := by decide +kernel
theorem d_M_look_73 : decode prog_10_method_14_code 73 = .ok (.goto 4, 3) := by decide +kernel
theorem d_M_look_76 : decode prog_10_method_14_code 76 = .ok (.iconst 0, 1) := by decide +kernel
theorem d_M_look_77 : decode prog_10_method_14_code 77 = .ok (.iastore, 1) := by decide +kernel
theorem d_M_look_78 : decode prog_10_method_14_code 78 = .ok (.return_, 1) := by decide +kernel
theorem d_M_ofLevel_0 : decode prog_10_method_13_code 0 = .ok (.aload_n 0, 1) := by decide +kernel
theorem d_M_ofLevel_1 : decode prog_10_method_13_code 1 = .ok (.iload_n 1, 1) := by decide +kernel
theorem d_M_ofLevel_2 : decode prog_10_method_13_code 2 = .ok (.iload_n 2, 1) := by decide +kernel
theorem d_M_ofLevel_3 : decode prog_10_method_13_code 3 = .ok (.invokevirtual 136, 3) := by decide +kernel
theorem d_M_ofLevel_6 : decode prog_10_method_13_code 6 = .ok (.istore 4, 2) := by decide +kernel
theorem d_M_ofLevel_8 : decode prog_10_method_13_code 8 = .ok (.iload 4, 2) := by decide +kernel
theorem d_M_ofLevel_10 : decode prog_10_method_13_code 10 = .ok (.ifCond .ge 6, 3) := by decide +kernel
theorem d_M_ofLevel_13 : decode prog_10_method_13_code 13 = .ok (.ldc 139, 2) := by decide +kernel
theorem d_M_ofLevel_15 : decode prog_10_method_13_code 15 = .ok (.ireturn, 1) := by decide +kernel
theorem d_M_ofLevel_16 : decode prog_10_method_13_code 16 = .ok (.iload_n 3, 1) := by decide +kernel
theorem d_M_ofLevel_17 : decode prog_10_method_13_code 17 = .ok (.ifCond .ne 11, 3) := by decide +kernel
theorem d_M_ofLevel_20 : decode prog_10_method_13_code 20 = .ok (.aload_n 0, 1) := by decide +kernel
theorem d_M_ofLevel_21 : decode prog_10_method_13_code 21 = .ok (.getfield 43, 3) := by decide +kernel
theorem d_M_ofLevel_24 : decode prog_10_method_13_code 24 = .ok (.iload 4, 2) := by decide +kernel
theorem d_M_ofLevel_26 : decode prog_10_method_13_code 26 = .ok (.iaload, 1) := by decide +kernel
theorem d_M_ofLevel_27 : decode prog_10_method_13_code 27 = .ok (.ireturn, 1) := by decide +kernel
theorem d_M_ofLevel_28 : decode prog_10_method_13_code 28 = .ok (.iconst 0, 1) := by decide +kernel
theorem d_M_ofLevel_29 : decode prog_10_method_13_code 29 = .ok (.istore 5, 2) := by decide +kernel
theorem d_M_ofLevel_31 : decode prog_10_method_13_code 31 = .ok (.iconst 0, 1) := by decide +kernel
theorem d_M_ofLevel_32 : decode prog_10_method_13_code 32 = .ok (.istore 6, 2) := by decide +kernel
theorem d_M_ofLevel_34 : decode prog_10_method_13_code 34 = .ok (.iconst 0, 1) := by decide +kernel
theorem d_M_ofLevel_35 : decode prog_10_method_13_code 35 = .ok (.istore 7, 2) := by decide +kernel
theorem d_M_ofLevel_37 : decode prog_10_method_13_code 37 = .ok (.iload 7, 2) := by decide +kernel
theorem d_M_ofLevel_39 : decode prog_10_method_13_code 39 = .ok (.aload_n 0, 1) := by decide +kernel
theorem d_M_ofLevel_40 : decode prog_10_method_13_code 40 = .ok (.getfield 106, 3) := by decide +kernel
theorem d_M_ofLevel_43 : decode prog_10_method_13_code 43 = .ok (.if_icmp .ge 52, 3) := by decide +kernel
theorem d_M_ofLevel_46 : decode prog_10_method_13_code 46 = .ok (.aload_n 0, 1) := by decide +kernel
theorem d_M_ofLevel_47 : decode prog_10_method_13_code 47 = .ok (.getfield 40, 3) := by decide +kernel
theorem d_M_ofLevel_50 : decode prog_10_method_13_code 50 = .ok (.iload 7, 2) := by decide +kernel
theorem d_M_ofLevel_52 : decode prog_10_method_13_code 52 = .ok (.iaload, 1) := by decide +kernel
theorem d_M_ofLevel_53 : decode prog_10_method_13_code 53 = .ok (.iload_n 1, 1) := by decide +kernel
theorem d_M_ofLevel_54 : decode prog_10_method_13_code 54 = .ok (.if_icmp .ne 35, 3) := by decide +kernel
theorem d_M_ofLevel_57 : decode prog_10_method_13_code 57 = .ok (.aload_n 0, 1) := by decide +kernel
theorem d_M_ofLevel_58 : decode prog_10_method_13_code 58 = .ok (.getfield 43, 3) := by decide +kernel
theorem d_M_ofLevel_61 : decode prog_10_method_13_code 61 = .ok (.iload 7, 2) := by decide +kernel
theorem d_M_ofLevel_63 : decode prog_10_method_13_code 63 = .ok (.iaload, 1) := by decide +kernel
theorem d_M_ofLevel_64 : decode prog_10_method_13_code 64 = .ok (.aload_n 0, 1) := by decide +kernel
theorem d_M_ofLevel_65 : decode prog_10_method_13_code 65 = .ok (.getfield 43, 3) := by decide +kernel
theorem d_M_ofLevel_68 : decode prog_10_method_13_code 68 = .ok (.iload 4, 2) := by decide +kernel
theorem d_M_ofLevel_70 : decode prog_10_method_13_code 70 = .ok (.iaload, 1) := by decide +kernel
theorem d_M_ofLevel_71 : decode prog_10_method_13_code 71 = .ok (.if_icmp .ne 18, 3) := by decide +kernel
theorem d_M_ofLevel_74 : decode prog_10_method_13_code 74 = .ok (.iload 5, 2) := by decide +kernel
theorem d_M_ofLevel_76 : decode prog_10_method_13_code 76 = .ok (.aload_n 0, 1) := by decide +kernel
theorem d_M_ofLevel_77 : decode prog_10_method_13_code 77 = .ok (.getfield 46, 3) := by decide +kernel
theorem d_M_ofLevel_80 : decode prog_10_method_13_code 80 = .ok (.iload 7, 2) := by decide +kernel
theorem d_M_ofLevel_82 : decode prog_10_method_13_code 82 = .ok (.iaload, 1) := by decide +kernel
theorem d_M_ofLevel_83 : decode prog_10_method_13_code 83 = .ok (.iadd, 1) := by decide +kernel
theorem d_M_ofLevel_84 : decode prog_10_method_13_code 84 = .ok (.istore 5, 2) := by decide +kernel
theorem d_M_ofLevel_86 : decode prog_10_method_13_code 86 = .ok (.iinc 6 1, 3) := by decide +kernel
theorem d_M_ofLevel_89 : decode prog_10_method_13_code 89 = .ok (.iinc 7 1, 3) := by decide +kernel
theorem d_M_ofLevel_92 : decode prog_10_method_13_code 92 = .ok (.goto (-55), 3) := by decide +kernel
theorem d_M_ofLevel_95 : decode prog_10_method_13_code 95 = .ok (.iload_n 3, 1) := by decide +kernel
theorem d_M_ofLevel_96 : decode prog_10_method_13_code 96 = .ok (.iconst 1, 1) := by decide +kernel
theorem d_M_ofLevel_97 : decode prog_10_method_13_code 97 = .ok (.if_icmp .ne 8, 3) := by decide +kernel
theorem d_M_ofLevel_100 : decode prog_10_method_13_code 100 = .ok (.iload 5, 2) := by decide +kernel
theorem d_M_ofLevel_102 : decode prog_10_method_13_code 102 = .ok (.goto 5, 3) := by decide +kernel
theorem d_M_ofLevel_105 : decode prog_10_method_13_code 105 = .ok (.iload 6, 2) := by decide +kernel
theorem d_M_ofLevel_107 : decode prog_10_method_13_code 107 = .ok (.ireturn, 1) := by decide +kernel
end
section
/-! the instructions (by program, from the listing) -/
theorem d_M_levelAt_0 : decode prog_10_method_12_code 0 = .ok (.iconst (-1), 1) := by decide +kernel
theorem d_M_levelAt_1 : decode prog_10_method_12_code 1 = .ok (.istore_n 3, 1) := by decide +kernel
theorem d_M_levelAt_2 : decode prog_10_method_12_code 2 = .ok (.iconst (-1), 1) := by decide +kernel
theorem d_M_levelAt_3 : decode prog_10_method_12_code 3 = .ok (.istore 4, 2) := by decide +kernel
theorem d_M_levelAt_5 : decode prog_10_method_12_code 5 = .ok (.iconst 0, 1) := by decide +kernel
theorem d_M_levelAt_6 : decode prog_10_method_12_code 6 = .ok (.istore 5, 2) := by decide +kernel
theorem d_M_levelAt_8 : decode prog_10_method_12_code 8 = .ok (.iload 5, 2) := by decide +kernel
theorem d_M_levelAt_10 : decode prog_10_method_12_code 10 = .ok (.bipush 24, 2) := by decide +kernel
theorem d_M_levelAt_12 : decode prog_10_method_12_code 12 = .ok (.if_icmp .ge 62, 3) := by decide +kernel
theorem d_M_levelAt_15 : decode prog_10_method_12_code 15 = .ok (.aload_n 0, 1) := by decide +kernel
theorem d_M_levelAt_16 : decode prog_10_method_12_code 16 = .ok (.iload_n 1, 1) := by decide +kernel
theorem d_M_levelAt_17 : decode prog_10_method_12_code 17 = .ok (.iload 5, 2) := by decide +kernel
theorem d_M_levelAt_19 : decode prog_10_method_12_code 19 = .ok (.invokevirtual 132, 3) := by decide +kernel
theorem d_M_levelAt_22 : decode prog_10_method_12_code 22 = .ok (.istore 6, 2) := by decide +kernel
theorem d_M_levelAt_24 : decode prog_10_method_12_code 24 = .ok (.iload 6, 2) := by decide +kernel
theorem d_M_levelAt_26 : decode prog_10_method_12_code 26 = .ok (.ifCond .ge 5, 3) := by decide +kernel
theorem d_M_levelAt_29 : decode prog_10_method_12_code 29 = .ok (.iconst (-1), 1) := by decide +kernel
theorem d_M_levelAt_30 : decode prog_10_method_12_code 30 = .ok (.ireturn, 1) := by decide +kernel
theorem d_M_levelAt_31 : decode prog_10_method_12_code 31 = .ok (.iload 4, 2) := by decide +kernel
theorem d_M_levelAt_33 : decode prog_10_method_12_code 33 = .ok (.ifCond .lt 20, 3) := by decide +kernel
theorem d_M_levelAt_36 : decode prog_10_method_12_code 36 = .ok (.aload_n 0, 1) := by decide +kernel
theorem d_M_levelAt_37 : decode prog_10_method_12_code 37 = .ok (.getfield 43, 3) := by decide +kernel
theorem d_M_levelAt_40 : decode prog_10_method_12_code 40 = .ok (.iload 6, 2) := by decide +kernel
theorem d_M_levelAt_42 : decode prog_10_method_12_code 42 = .ok (.iaload, 1) := by decide +kernel
theorem d_M_levelAt_43 : decode prog_10_method_12_code 43 = .ok (.aload_n 0, 1) := by decide +kernel
theorem d_M_levelAt_44 : decode prog_10_method_12_code 44 = .ok (.getfield 43, 3) := by decide +kernel
theorem d_M_levelAt_47 : decode prog_10_method_12_code 47 = .ok (.iload 4, 2) := by decide +kernel
theorem d_M_levelAt_49 : decode prog_10_method_12_code 49 = .ok (.iaload, 1) := by decide +kernel
theorem d_M_levelAt_50 : decode prog_10_method_12_code 50 = .ok (.if_icmp .eq 6, 3) := by decide +kernel
theorem d_M_levelAt_53 : decode prog_10_method_12_code 53 = .ok (.iinc 3 1, 3) := by decide +kernel
theorem d_M_levelAt_56 : decode prog_10_method_12_code 56 = .ok (.iload_n 3, 1) := by decide +kernel
theorem d_M_levelAt_57 : decode prog_10_method_12_code 57 = .ok (.iload_n 2, 1) := by decide +kernel
theorem d_M_levelAt_58 : decode prog_10_method_12_code 58 = .ok (.if_icmp .ne 6, 3) := by decide +kernel
theorem d_M_levelAt_61 : decode prog_10_method_12_code 61 = .ok (.iload 6, 2) := by decide +kernel
theorem d_M_levelAt_63 : decode prog_10_method_12_code 63 = .ok (.ireturn, 1) := by decide +kernel
theorem d_M_levelAt_64 : decode prog_10_method_12_code 64 = .ok (.iload 6, 2) := by decide +kernel
theorem d_M_levelAt_66 : decode prog_10_method_12_code 66 = .ok (.istore 4, 2) := by decide +kernel
theorem d_M_levelAt_68 : decode prog_10_method_12_code 68 = .ok (.iinc 5 1, 3) := by decide +kernel
theorem d_M_levelAt_71 : decode prog_10_method_12_code 71 = .ok (.goto (-63), 3) := by decide +kernel
theorem d_M_levelAt_74 : decode prog_10_method_12_code 74 = .ok (.iconst (-1), 1) := by decide +kernel
theorem d_M_levelAt_75 : decode prog_10_method_12_code 75 = .ok (.ireturn, 1) := by decide +kernel
theorem d_M_orderAt_0 : decode prog_10_method_11_code 0 = .ok (.iconst 0, 1) := by decide +kernel
theorem d_M_orderAt_1 : decode prog_10_method_11_code 1 = .ok (.istore_n 3, 1) := by decide +kernel
theorem d_M_orderAt_2 : decode prog_10_method_11_code 2 = .ok (.iload_n 3, 1) := by decide +kernel
theorem d_M_orderAt_3 : decode prog_10_method_11_code 3 = .ok (.aload_n 0, 1) := by decide +kernel
theorem d_M_orderAt_4 : decode prog_10_method_11_code 4 = .ok (.getfield 106, 3) := by decide +kernel
theorem d_M_orderAt_7 : decode prog_10_method_11_code 7 = .ok (.if_icmp .ge 72, 3) := by decide +kernel
theorem d_M_orderAt_10 : decode prog_10_method_11_code 10 = .ok (.aload_n 0, 1) := by decide +kernel
theorem d_M_orderAt_11 : decode prog_10_method_11_code 11 = .ok (.getfield 40, 3) := by decide +kernel
theorem d_M_orderAt_14 : decode prog_10_method_11_code 14 = .ok (.iload_n 3, 1) := by decide +kernel
theorem d_M_orderAt_15 : decode prog_10_method_11_code 15 = .ok (.iaload, 1) := by decide +kernel
theorem d_M_orderAt_16 : decode prog_10_method_11_code 16 = .ok (.iload_n 1, 1) := by decide +kernel
theorem d_M_orderAt_17 : decode prog_10_method_11_code 17 = .ok (.if_icmp .ne 56, 3) := by decide +kernel
theorem d_M_orderAt_20 : decode prog_10_method_11_code 20 = .ok (.iconst 0, 1) := by decide +kernel
theorem d_M_orderAt_21 : decode prog_10_method_11_code 21 = .ok (.istore 4, 2) := by decide +kernel
theorem d_M_orderAt_23 : decode prog_10_method_11_code 23 = .ok (.iconst 0, 1) := by decide +kernel
theorem d_M_orderAt_24 : decode prog_10_method_11_code 24 = .ok (.istore 5, 2) := by decide +kernel
theorem d_M_orderAt_26 : decode prog_10_method_11_code 26 = .ok (.iload 5, 2) := by decide +kernel
theorem d_M_orderAt_28 : decode prog_10_method_11_code 28 = .ok (.aload_n 0, 1) := by decide +kernel
theorem d_M_orderAt_29 : decode prog_10_method_11_code 29 = .ok (.getfield 106, 3) := by decide +kernel
theorem d_M_orderAt_32 : decode prog_10_method_11_code 32 = .ok (.if_icmp .ge 33, 3) := by decide +kernel
theorem d_M_orderAt_35 : decode prog_10_method_11_code 35 = .ok (.aload_n 0, 1) := by decide +kernel
theorem d_M_orderAt_36 : decode prog_10_method_11_code 36 = .ok (.getfield 40, 3) := by decide +kernel
theorem d_M_orderAt_39 : decode prog_10_method_11_code 39 = .ok (.iload 5, 2) := by decide +kernel
theorem d_M_orderAt_41 : decode prog_10_method_11_code 41 = .ok (.iaload, 1) := by decide +kernel
theorem d_M_orderAt_42 : decode prog_10_method_11_code 42 = .ok (.iload_n 1, 1) := by decide +kernel
theorem d_M_orderAt_43 : decode prog_10_method_11_code 43 = .ok (.if_icmp .ne 16, 3) := by decide +kernel
theorem d_M_orderAt_46 : decode prog_10_method_11_code 46 = .ok (.aload_n 0, 1) := by decide +kernel
theorem d_M_orderAt_47 : decode prog_10_method_11_code 47 = .ok (.iload 5, 2) := by decide +kernel
theorem d_M_orderAt_49 : decode prog_10_method_11_code 49 = .ok (.iload_n 3, 1) := by decide +kernel
theorem d_M_orderAt_50 : decode prog_10_method_11_code 50 = .ok (.invokevirtual 128, 3) := by decide +kernel
theorem d_M_orderAt_53 : decode prog_10_method_11_code 53 = .ok (.ifCond .eq 6, 3) := by decide +kernel
theorem d_M_orderAt_56 : decode prog_10_method_11_code 56 = .ok (.iinc 4 1, 3) := by decide +kernel
theorem d_M_orderAt_59 : decode prog_10_method_11_code 59 = .ok (.iinc 5 1, 3) := by decide +kernel
theorem d_M_orderAt_62 : decode prog_10_method_11_code 62 = .ok (.goto (-36), 3) := by decide +kernel
theorem d_M_orderAt_65 : decode prog_10_method_11_code 65 = .ok (.iload 4, 2) := by decide +kernel
theorem d_M_orderAt_67 : decode prog_10_method_11_code 67 = .ok (.iload_n 2, 1) := by decide +kernel
theorem d_M_orderAt_68 : decode prog_10_method_11_code 68 = .ok (.if_icmp .ne 5, 3) := by decide +kernel
theorem d_M_orderAt_71 : decode prog_10_method_11_code 71 = .ok (.iload_n 3, 1) := by decide +kernel
theorem d_M_orderAt_72 : decode prog_10_method_11_code 72 = .ok (.ireturn, 1) := by decide +kernel
theorem d_M_orderAt_73 : decode prog_10_method_11_code 73 = .ok (.iinc 3 1, 3) := by decide +kernel
theorem d_M_orderAt_76 : decode prog_10_method_11_code 76 = .ok (.goto (-74), 3) := by decide +kernel
theorem d_M_orderAt_79 : decode prog_10_method_11_code 79 = .ok (.iconst (-1), 1) := by decide +kernel
theorem d_M_orderAt_80 : decode prog_10_method_11_code 80 = .ok (.ireturn, 1) := by decide +kernel
theorem d_M_ahead_0 : decode prog_10_method_10_code 0 = .ok (.aload_n 0, 1) := by decide +kernel
theorem d_M_ahead_1 : decode prog_10_method_10_code 1 = .ok (.getfield 43, 3) := by decide +kernel
theorem d_M_ahead_4 : decode prog_10_method_10_code 4 = .ok (.iload_n 1, 1) := by decide +kernel
theorem d_M_ahead_5 : decode prog_10_method_10_code 5 = .ok (.iaload, 1) := by decide +kernel
theorem d_M_ahead_6 : decode prog_10_method_10_code 6 = .ok (.aload_n 0, 1) := by decide +kernel
theorem d_M_ahead_7 : decode prog_10_method_10_code 7 = .ok (.getfield 43, 3) := by decide +kernel
theorem d_M_ahead_10 : decode prog_10_method_10_code 10 = .ok (.iload_n 2, 1) := by decide +kernel
theorem d_M_ahead_11 : decode prog_10_method_10_code 11 = .ok (.iaload, 1) := by decide +kernel
theorem d_M_ahead_12 : decode prog_10_method_10_code 12 = .ok (.if_icmp .eq 56, 3) := by decide +kernel
theorem d_M_ahead_15 : decode prog_10_method_10_code 15 = .ok (.aload_n 0, 1) := by decide +kernel
theorem d_M_ahead_16 : decode prog_10_method_10_code 16 = .ok (.getfield 40, 3) := by decide +kernel
theorem d_M_ahead_19 : decode prog_10_method_10_code 19 = .ok (.iload_n 1, 1) := by decide +kernel
theorem d_M_ahead_20 : decode prog_10_method_10_code 20 = .ok (.iaload, 1) := by decide +kernel
theorem d_M_ahead_21 : decode prog_10_method_10_code 21 = .ok (.ifCond .ne 26, 3) := by decide +kernel
theorem d_M_ahead_24 : decode prog_10_method_10_code 24 = .ok (.aload_n 0, 1) := by decide +kernel
theorem d_M_ahead_25 : decode prog_10_method_10_code 25 = .ok (.getfield 43, 3) := by decide +kernel
theorem d_M_ahead_28 : decode prog_10_method_10_code 28 = .ok (.iload_n 1, 1) := by decide +kernel
theorem d_M_ahead_29 : decode prog_10_method_10_code 29 = .ok (.iaload, 1) := by decide +kernel
theorem d_M_ahead_30 : decode prog_10_method_10_code 30 = .ok (.aload_n 0, 1) := by decide +kernel
theorem d_M_ahead_31 : decode prog_10_method_10_code 31 = .ok (.getfield 43, 3) := by decide +kernel
theorem d_M_ahead_34 : decode prog_10_method_10_code 34 = .ok (.iload_n 2, 1) := by decide +kernel
theorem d_M_ahead_35 : decode prog_10_method_10_code 35 = .ok (.iaload, 1) := by decide +kernel
theorem d_M_ahead_36 : decode prog_10_method_10_code 36 = .ok (.if_icmp .le 7, 3) := by decide +kernel
theorem d_M_ahead_39 : decode prog_10_method_10_code 39 = .ok (.iconst 1, 1) := by decide +kernel
theorem d_M_ahead_40 : decode prog_10_method_10_code 40 = .ok (.goto 27, 3) := by decide +kernel
theorem d_M_ahead_43 : decode prog_10_method_10_code 43 = .ok (.iconst 0, 1) := by decide +kernel
theorem d_M_ahead_44 : decode prog_10_method_10_code 44 = .ok (.goto 23, 3) := by decide +kernel
theorem d_M_ahead_47 : decode prog_10_method_10_code 47 = .ok (.aload_n 0, 1) := by decide +kernel
theorem d_M_ahead_48 : decode prog_10_method_10_code 48 = .ok (.getfield 43, 3) := by decide +kernel
theorem d_M_ahead_51 : decode prog_10_method_10_code 51 = .ok (.iload_n 1, 1) := by decide +kernel
theorem d_M_ahead_52 : decode prog_10_method_10_code 52 = .ok (.iaload, 1) := by decide +kernel
theorem d_M_ahead_53 : decode prog_10_method_10_code 53 = .ok (.aload_n 0, 1) := by decide +kernel
theorem d_M_ahead_54 : decode prog_10_method_10_code 54 = .ok (.getfield 43, 3) := by decide +kernel
theorem d_M_ahead_57 : decode prog_10_method_10_code 57 = .ok (.iload_n 2, 1) := by decide +kernel
theorem d_M_ahead_58 : decode prog_10_method_10_code 58 = .ok (.iaload, 1) := by decide +kernel
theorem d_M_ahead_59 : decode prog_10_method_10_code 59 = .ok (.if_icmp .ge 7, 3) := by decide +kernel
theorem d_M_ahead_62 : decode prog_10_method_10_code 62 = .ok (.iconst 1, 1) := by decide +kernel
theorem d_M_ahead_63 : decode prog_10_method_10_code 63 = .ok (.goto 4, 3) := by decide +kernel
theorem d_M_ahead_66 : decode prog_10_method_10_code 66 = .ok (.iconst 0, 1) := by decide +kernel
theorem d_M_ahead_67 : decode prog_10_method_10_code 67 = .ok (.ireturn, 1) := by decide +kernel
theorem d_M_ahead_68 : decode prog_10_method_10_code 68 = .ok (.iload_n 1, 1) := by decide +kernel
theorem d_M_ahead_69 : decode prog_10_method_10_code 69 = .ok (.iload_n 2, 1) := by decide +kernel
theorem d_M_ahead_70 : decode prog_10_method_10_code 70 = .ok (.if_icmp .ge 7, 3) := by decide +kernel
theorem d_M_ahead_73 : decode prog_10_method_10_code 73 = .ok (.iconst 1, 1) := by decide +kernel
theorem d_M_ahead_74 : decode prog_10_method_10_code 74 = .ok (.goto 4, 3) := by decide +kernel
theorem d_M_ahead_77 : decode prog_10_method_10_code 77 = .ok (.iconst 0, 1) := by decide +kernel
theorem d_M_ahead_78 : decode prog_10_method_10_code 78 = .ok (.ireturn, 1) := by decide +kernel
theorem d_M_follow_0 : decode prog_10_method_28_code 0 = .ok (.iconst 4, 1) := by decide +kernel
theorem d_M_follow_1 : decode prog_10_method_28_code 1 = .ok (.iload_n 1, 1) := by decide +kernel
theorem d_M_follow_2 : decode prog_10_method_28_code 2 = .ok (.imul, 1) := by decide +kernel
theorem d_M_follow_3 : decode prog_10_method_28_code 3 = .ok (.iload_n 2, 1) := by decide +kernel
theorem d_M_follow_4 : decode prog_10_method_28_code 4 = .ok (.iadd, 1) := by decide +kernel
theorem d_M_follow_5 : decode prog_10_method_28_code 5 = .ok (.istore_n 3, 1) := by decide +kernel
theorem d_M_follow_6 : decode prog_10_method_28_code 6 = .ok (.aload_n 0, 1) := by decide +kernel
theorem d_M_follow_7 : decode prog_10_method_28_code 7 = .ok (.getfield 55, 3) := by decide +kernel
theorem d_M_follow_10 : decode prog_10_method_28_code 10 = .ok (.iload_n 3, 1) := by decide +kernel
theorem d_M_follow_11 : decode prog_10_method_28_code 11 = .ok (.iaload, 1) := by decide +kernel
theorem d_M_follow_12 : decode prog_10_method_28_code 12 = .ok (.sipush 400, 3) := by decide +kernel
theorem d_M_follow_15 : decode prog_10_method_28_code 15 = .ok (.if_icmp .ge 55, 3) := by decide +kernel
theorem d_M_follow_18 : decode prog_10_method_28_code 18 = .ok (.aload_n 0, 1) := by decide +kernel
theorem d_M_follow_19 : decode prog_10_method_28_code 19 = .ok (.getfield 61, 3) := by decide +kernel
theorem d_M_follow_22 : decode prog_10_method_28_code 22 = .ok (.sipush 401, 3) := by decide +kernel
theorem d_M_follow_25 : decode prog_10_method_28_code 25 = .ok (.iload_n 3, 1) := by decide +kernel
theorem d_M_follow_26 : decode prog_10_method_28_code 26 = .ok (.imul, 1) := by decide +kernel
theorem d_M_follow_27 : decode prog_10_method_28_code 27 = .ok (.aload_n 0, 1) := by decide +kernel
theorem d_M_follow_28 : decode prog_10_method_28_code 28 = .ok (.getfield 55, 3) := by decide +kernel
theorem d_M_follow_31 : decode prog_10_method_28_code 31 = .ok (.iload_n 3, 1) := by decide +kernel
theorem d_M_follow_32 : decode prog_10_method_28_code 32 = .ok (.iaload, 1) := by decide +kernel
theorem d_M_follow_33 : decode prog_10_method_28_code 33 = .ok (.iadd, 1) := by decide +kernel
theorem d_M_follow_34 : decode prog_10_method_28_code 34 = .ok (.iconst 1, 1) := by decide +kernel
theorem d_M_follow_35 : decode prog_10_method_28_code 35 = .ok (.iadd, 1) := by decide +kernel
theorem d_M_follow_36 : decode prog_10_method_28_code 36 = .ok (.baload, 1) := by decide +kernel
theorem d_M_follow_37 : decode prog_10_method_28_code 37 = .ok (.ifCond .eq 33, 3) := by decide +kernel
theorem d_M_follow_40 : decode prog_10_method_28_code 40 = .ok (.aload_n 0, 1) := by decide +kernel
theorem d_M_follow_41 : decode prog_10_method_28_code 41 = .ok (.iload_n 3, 1) := by decide +kernel
theorem d_M_follow_42 : decode prog_10_method_28_code 42 = .ok (.aload_n 0, 1) := by decide +kernel
theorem d_M_follow_43 : decode prog_10_method_28_code 43 = .ok (.getfield 55, 3) := by decide +kernel
theorem d_M_follow_46 : decode prog_10_method_28_code 46 = .ok (.iload_n 3, 1) := by decide +kernel
theorem d_M_follow_47 : decode prog_10_method_28_code 47 = .ok (.iaload, 1) := by decide +kernel
theorem d_M_follow_48 : decode prog_10_method_28_code 48 = .ok (.iconst 1, 1) := by decide +kernel
theorem d_M_follow_49 : decode prog_10_method_28_code 49 = .ok (.iadd, 1) := by decide +kernel
theorem d_M_follow_50 : decode prog_10_method_28_code 50 = .ok (.invokevirtual 173, 3) := by decide +kernel
theorem d_M_follow_53 : decode prog_10_method_28_code 53 = .ok (.aload_n 0, 1) := by decide +kernel
theorem d_M_follow_54 : decode prog_10_method_28_code 54 = .ok (.iload_n 1, 1) := by decide +kernel
theorem d_M_follow_55 : decode prog_10_method_28_code 55 = .ok (.iload_n 2, 1) := by decide +kernel
theorem d_M_follow_56 : decode prog_10_method_28_code 56 = .ok (.aload_n 0, 1) := by decide +kernel
theorem d_M_follow_57 : decode prog_10_method_28_code 57 = .ok (.getfield 55, 3) := by decide +kernel
theorem d_M_follow_60 : decode prog_10_method_28_code 60 = .ok (.iload_n 3, 1) := by decide +kernel
theorem d_M_follow_61 : decode prog_10_method_28_code 61 = .ok (.iaload, 1) := by decide +kernel
theorem d_M_follow_62 : decode prog_10_method_28_code 62 = .ok (.iconst 1, 1) := by decide +kernel
theorem d_M_follow_63 : decode prog_10_method_28_code 63 = .ok (.iadd, 1) := by decide +kernel
theorem d_M_follow_64 : decode prog_10_method_28_code 64 = .ok (.invokevirtual 176, 3) := by decide +kernel
theorem d_M_follow_67 : decode prog_10_method_28_code 67 = .ok (.goto (-61), 3) := by decide +kernel
theorem d_M_follow_70 : decode prog_10_method_28_code 70 = .ok (.return_, 1) := by decide +kernel
theorem d_M_release_0 : decode prog_10_method_27_code 0 = .ok (.aload_n 0, 1) := by decide +kernel
theorem d_M_release_1 : decode prog_10_method_27_code 1 = .ok (.getfield 61, 3) := by decide +kernel
theorem d_M_release_4 : decode prog_10_method_27_code 4 = .ok (.sipush 401, 3) := by decide +kernel
theorem d_M_release_7 : decode prog_10_method_27_code 7 = .ok (.iload_n 1, 1) := by decide +kernel
theorem d_M_release_8 : decode prog_10_method_27_code 8 = .ok (.imul, 1) := by decide +kernel
theorem d_M_release_9 : decode prog_10_method_27_code 9 = .ok (.iload_n 2, 1) := by decide +kernel
theorem d_M_release_10 : decode prog_10_method_27_code 10 = .ok (.iadd, 1) := by decide +kernel
theorem d_M_release_11 : decode prog_10_method_27_code 11 = .ok (.baload, 1) := by decide +kernel
theorem d_M_release_12 : decode prog_10_method_27_code 12 = .ok (.ifCond .eq 26, 3) := by decide +kernel
theorem d_M_release_15 : decode prog_10_method_27_code 15 = .ok (.aload_n 0, 1) := by decide +kernel
theorem d_M_release_16 : decode prog_10_method_27_code 16 = .ok (.getfield 61, 3) := by decide +kernel
theorem d_M_release_19 : decode prog_10_method_27_code 19 = .ok (.sipush 401, 3) := by decide +kernel
theorem d_M_release_22 : decode prog_10_method_27_code 22 = .ok (.iload_n 1, 1) := by decide +kernel
theorem d_M_release_23 : decode prog_10_method_27_code 23 = .ok (.imul, 1) := by decide +kernel
theorem d_M_release_24 : decode prog_10_method_27_code 24 = .ok (.iload_n 2, 1) := by decide +kernel
theorem d_M_release_25 : decode prog_10_method_27_code 25 = .ok (.iadd, 1) := by decide +kernel
theorem d_M_release_26 : decode prog_10_method_27_code 26 = .ok (.iconst 0, 1) := by decide +kernel
theorem d_M_release_27 : decode prog_10_method_27_code 27 = .ok (.bastore, 1) := by decide +kernel
theorem d_M_release_28 : decode prog_10_method_27_code 28 = .ok (.aload_n 0, 1) := by decide +kernel
theorem d_M_release_29 : decode prog_10_method_27_code 29 = .ok (.getfield 65, 3) := by decide +kernel
theorem d_M_release_32 : decode prog_10_method_27_code 32 = .ok (.iload_n 1, 1) := by decide +kernel
theorem d_M_release_33 : decode prog_10_method_27_code 33 = .ok (.dup2, 1) := by decide +kernel
theorem d_M_release_34 : decode prog_10_method_27_code 34 = .ok (.iaload, 1) := by decide +kernel
theorem d_M_release_35 : decode prog_10_method_27_code 35 = .ok (.iconst 1, 1) := by decide +kernel
theorem d_M_release_36 : decode prog_10_method_27_code 36 = .ok (.isub, 1) := by decide +kernel
theorem d_M_release_37 : decode prog_10_method_27_code 37 = .ok (.iastore, 1) := by decide +kernel
theorem d_M_release_38 : decode prog_10_method_27_code 38 = .ok (.return_, 1) := by decide +kernel
theorem d_M_goOn_0 : decode prog_10_method_31_code 0 = .ok (.aload_n 0, 1) := by decide +kernel
theorem d_M_goOn_1 : decode prog_10_method_31_code 1 = .ok (.getfield 68, 3) := by decide +kernel
theorem d_M_goOn_4 : decode prog_10_method_31_code 4 = .ok (.iload_n 1, 1) := by decide +kernel
theorem d_M_goOn_5 : decode prog_10_method_31_code 5 = .ok (.iaload, 1) := by decide +kernel
theorem d_M_goOn_6 : decode prog_10_method_31_code 6 = .ok (.aload_n 0, 1) := by decide +kernel
theorem d_M_goOn_7 : decode prog_10_method_31_code 7 = .ok (.getfield 148, 3) := by decide +kernel
theorem d_M_goOn_10 : decode prog_10_method_31_code 10 = .ok (.if_icmp .gt 31, 3) := by decide +kernel
theorem d_M_goOn_13 : decode prog_10_method_31_code 13 = .ok (.aload_n 0, 1) := by decide +kernel
theorem d_M_goOn_14 : decode prog_10_method_31_code 14 = .ok (.getfield 74, 3) := by decide +kernel
theorem d_M_goOn_17 : decode prog_10_method_31_code 17 = .ok (.sipush 402, 3) := by decide +kernel
theorem d_M_goOn_20 : decode prog_10_method_31_code 20 = .ok (.iload_n 1, 1) := by decide +kernel
theorem d_M_goOn_21 : decode prog_10_method_31_code 21 = .ok (.imul, 1) := by decide +kernel
theorem d_M_goOn_22 : decode prog_10_method_31_code 22 = .ok (.aload_n 0, 1) := by decide +kernel
theorem d_M_goOn_23 : decode prog_10_method_31_code 23 = .ok (.getfield 68, 3) := by decide +kernel
theorem d_M_goOn_26 : decode prog_10_method_31_code 26 = .ok (.iload_n 1, 1) := by decide +kernel
theorem d_M_goOn_27 : decode prog_10_method_31_code 27 = .ok (.iaload, 1) := by decide +kernel
theorem d_M_goOn_28 : decode prog_10_method_31_code 28 = .ok (.iadd, 1) := by decide +kernel
theorem d_M_goOn_29 : decode prog_10_method_31_code 29 = .ok (.baload, 1) := by decide +kernel
theorem d_M_goOn_30 : decode prog_10_method_31_code 30 = .ok (.ifCond .eq 11, 3) := by decide +kernel
theorem d_M_goOn_33 : decode prog_10_method_31_code 33 = .ok (.aload_n 0, 1) := by decide +kernel
theorem d_M_goOn_34 : decode prog_10_method_31_code 34 = .ok (.iload_n 1, 1) := by decide +kernel
theorem d_M_goOn_35 : decode prog_10_method_31_code 35 = .ok (.invokevirtual 186, 3) := by decide +kernel
theorem d_M_goOn_38 : decode prog_10_method_31_code 38 = .ok (.goto (-38), 3) := by decide +kernel
theorem d_M_goOn_41 : decode prog_10_method_31_code 41 = .ok (.return_, 1) := by decide +kernel
theorem d_M_askReplay_0 : decode prog_10_method_35_code 0 = .ok (.iload_n 1, 1) := by decide +kernel
theorem d_M_askReplay_1 : decode prog_10_method_35_code 1 = .ok (.invokestatic 192, 3) := by decide +kernel
theorem d_M_askReplay_4 : decode prog_10_method_35_code 4 = .ok (.ifCond .ne 6, 3) := by decide +kernel
theorem d_M_askReplay_7 : decode prog_10_method_35_code 7 = .ok (.bipush (-2), 2) := by decide +kernel
theorem d_M_askReplay_9 : decode prog_10_method_35_code 9 = .ok (.ireturn, 1) := by decide +kernel
theorem d_M_askReplay_10 : decode prog_10_method_35_code 10 = .ok (.aload_n 0, 1) := by decide +kernel
theorem d_M_askReplay_11 : decode prog_10_method_35_code 11 = .ok (.iload_n 1, 1) := by decide +kernel
theorem d_M_askReplay_12 : decode prog_10_method_35_code 12 = .ok (.invokevirtual 198, 3) := by decide +kernel
theorem d_M_askReplay_15 : decode prog_10_method_35_code 15 = .ok (.istore_n 2, 1) := by decide +kernel
theorem d_M_askReplay_16 : decode prog_10_method_35_code 16 = .ok (.aload_n 0, 1) := by decide +kernel
theorem d_M_askReplay_17 : decode prog_10_method_35_code 17 = .ok (.getfield 77, 3) := by decide +kernel
theorem d_M_askReplay_20 : decode prog_10_method_35_code 20 = .ok (.iload_n 1, 1) := by decide +kernel
theorem d_M_askReplay_21 : decode prog_10_method_35_code 21 = .ok (.iload_n 2, 1) := by decide +kernel
theorem d_M_askReplay_22 : decode prog_10_method_35_code 22 = .ok (.aload_n 0, 1) := by decide +kernel
theorem d_M_askReplay_23 : decode prog_10_method_35_code 23 = .ok (.getfield 68, 3) := by decide +kernel
theorem d_M_askReplay_26 : decode prog_10_method_35_code 26 = .ok (.iload_n 1, 1) := by decide +kernel
theorem d_M_askReplay_27 : decode prog_10_method_35_code 27 = .ok (.iaload, 1) := by decide +kernel
theorem d_M_askReplay_28 : decode prog_10_method_35_code 28 = .ok (.if_icmp .ge 7, 3) := by decide +kernel
theorem d_M_askReplay_31 : decode prog_10_method_35_code 31 = .ok (.iconst 0, 1) := by decide +kernel
theorem d_M_askReplay_32 : decode prog_10_method_35_code 32 = .ok (.goto 4, 3) := by decide +kernel
theorem d_M_askReplay_35 : decode prog_10_method_35_code 35 = .ok (.iload_n 2, 1) := by decide +kernel
theorem d_M_askReplay_36 : decode prog_10_method_35_code 36 = .ok (.iastore, 1) := by decide +kernel
theorem d_M_askReplay_37 : decode prog_10_method_35_code 37 = .ok (.iload_n 2, 1) := by decide +kernel
theorem d_M_askReplay_38 : decode prog_10_method_35_code 38 = .ok (.aload_n 0, 1) := by decide +kernel
theorem d_M_askReplay_39 : decode prog_10_method_35_code 39 = .ok (.getfield 68, 3) := by decide +kernel
theorem d_M_askReplay_42 : decode prog_10_method_35_code 42 = .ok (.iload_n 1, 1) := by decide +kernel
theorem d_M_askReplay_43 : decode prog_10_method_35_code 43 = .ok (.iaload, 1) := by decide +kernel
theorem d_M_askReplay_44 : decode prog_10_method_35_code 44 = .ok (.if_icmp .ge 7, 3) := by decide +kernel
theorem d_M_askReplay_47 : decode prog_10_method_35_code 47 = .ok (.iconst 0, 1) := by decide +kernel
theorem d_M_askReplay_48 : decode prog_10_method_35_code 48 = .ok (.goto 13, 3) := by decide +kernel
theorem d_M_askReplay_51 : decode prog_10_method_35_code 51 = .ok (.iload_n 2, 1) := by decide +kernel
theorem d_M_askReplay_52 : decode prog_10_method_35_code 52 = .ok (.aload_n 0, 1) := by decide +kernel
theorem d_M_askReplay_53 : decode prog_10_method_35_code 53 = .ok (.getfield 68, 3) := by decide +kernel
theorem d_M_askReplay_56 : decode prog_10_method_35_code 56 = .ok (.iload_n 1, 1) := by decide +kernel
theorem d_M_askReplay_57 : decode prog_10_method_35_code 57 = .ok (.iaload, 1) := by decide +kernel
theorem d_M_askReplay_58 : decode prog_10_method_35_code 58 = .ok (.isub, 1) := by decide +kernel
theorem d_M_askReplay_59 : decode prog_10_method_35_code 59 = .ok (.iconst 1, 1) := by decide +kernel
theorem d_M_askReplay_60 : decode prog_10_method_35_code 60 = .ok (.iadd, 1) := by decide +kernel
theorem d_M_askReplay_61 : decode prog_10_method_35_code 61 = .ok (.ireturn, 1) := by decide +kernel
theorem d_M_gapEnd_0 : decode prog_10_method_34_code 0 = .ok (.aload_n 0, 1) := by decide +kernel
theorem d_M_gapEnd_1 : decode prog_10_method_34_code 1 = .ok (.getfield 68, 3) := by decide +kernel
theorem d_M_gapEnd_4 : decode prog_10_method_34_code 4 = .ok (.iload_n 1, 1) := by decide +kernel
theorem d_M_gapEnd_5 : decode prog_10_method_34_code 5 = .ok (.iaload, 1) := by decide +kernel
theorem d_M_gapEnd_6 : decode prog_10_method_34_code 6 = .ok (.istore_n 2, 1) := by decide +kernel
theorem d_M_gapEnd_7 : decode prog_10_method_34_code 7 = .ok (.iload_n 2, 1) := by decide +kernel
theorem d_M_gapEnd_8 : decode prog_10_method_34_code 8 = .ok (.aload_n 0, 1) := by decide +kernel
theorem d_M_gapEnd_9 : decode prog_10_method_34_code 9 = .ok (.getfield 71, 3) := by decide +kernel
theorem d_M_gapEnd_12 : decode prog_10_method_34_code 12 = .ok (.iload_n 1, 1) := by decide +kernel
theorem d_M_gapEnd_13 : decode prog_10_method_34_code 13 = .ok (.iaload, 1) := by decide +kernel
theorem d_M_gapEnd_14 : decode prog_10_method_34_code 14 = .ok (.if_icmp .gt 28, 3) := by decide +kernel
theorem d_M_gapEnd_17 : decode prog_10_method_34_code 17 = .ok (.aload_n 0, 1) := by decide +kernel
theorem d_M_gapEnd_18 : decode prog_10_method_34_code 18 = .ok (.getfield 74, 3) := by decide +kernel
theorem d_M_gapEnd_21 : decode prog_10_method_34_code 21 = .ok (.sipush 402, 3) := by decide +kernel
theorem d_M_gapEnd_24 : decode prog_10_method_34_code 24 = .ok (.iload_n 1, 1) := by decide +kernel
theorem d_M_gapEnd_25 : decode prog_10_method_34_code 25 = .ok (.imul, 1) := by decide +kernel
theorem d_M_gapEnd_26 : decode prog_10_method_34_code 26 = .ok (.iload_n 2, 1) := by decide +kernel
theorem d_M_gapEnd_27 : decode prog_10_method_34_code 27 = .ok (.iadd, 1) := by decide +kernel
theorem d_M_gapEnd_28 : decode prog_10_method_34_code 28 = .ok (.baload, 1) := by decide +kernel
theorem d_M_gapEnd_29 : decode prog_10_method_34_code 29 = .ok (.ifCond .eq 7, 3) := by decide +kernel
theorem d_M_gapEnd_32 : decode prog_10_method_34_code 32 = .ok (.iload_n 2, 1) := by decide +kernel
theorem d_M_gapEnd_33 : decode prog_10_method_34_code 33 = .ok (.iconst 1, 1) := by decide +kernel
theorem d_M_gapEnd_34 : decode prog_10_method_34_code 34 = .ok (.isub, 1) := by decide +kernel
theorem d_M_gapEnd_35 : decode prog_10_method_34_code 35 = .ok (.ireturn, 1) := by decide +kernel
theorem d_M_gapEnd_36 : decode prog_10_method_34_code 36 = .ok (.iinc 2 1, 3) := by decide +kernel
theorem d_M_gapEnd_39 : decode prog_10_method_34_code 39 = .ok (.goto (-32), 3) := by decide +kernel
theorem d_M_gapEnd_42 : decode prog_10_method_34_code 42 = .ok (.aload_n 0, 1) := by decide +kernel
theorem d_M_gapEnd_43 : decode prog_10_method_34_code 43 = .ok (.getfield 71, 3) := by decide +kernel
theorem d_M_gapEnd_46 : decode prog_10_method_34_code 46 = .ok (.iload_n 1, 1) := by decide +kernel
theorem d_M_gapEnd_47 : decode prog_10_method_34_code 47 = .ok (.iaload, 1) := by decide +kernel
theorem d_M_gapEnd_48 : decode prog_10_method_34_code 48 = .ok (.ireturn, 1) := by decide +kernel
theorem d_M_serveReplay_0 : decode prog_10_method_36_code 0 = .ok (.iload_n 1, 1) := by decide +kernel
theorem d_M_serveReplay_1 : decode prog_10_method_36_code 1 = .ok (.invokestatic 192, 3) := by decide +kernel
theorem d_M_serveReplay_4 : decode prog_10_method_36_code 4 = .ok (.ifCond .ne 6, 3) := by decide +kernel
theorem d_M_serveReplay_7 : decode prog_10_method_36_code 7 = .ok (.bipush (-2), 2) := by decide +kernel
theorem d_M_serveReplay_9 : decode prog_10_method_36_code 9 = .ok (.ireturn, 1) := by decide +kernel
theorem d_M_serveReplay_10 : decode prog_10_method_36_code 10 = .ok (.aload_n 0, 1) := by decide +kernel
theorem d_M_serveReplay_11 : decode prog_10_method_36_code 11 = .ok (.getfield 77, 3) := by decide +kernel
theorem d_M_serveReplay_14 : decode prog_10_method_36_code 14 = .ok (.iload_n 1, 1) := by decide +kernel
theorem d_M_serveReplay_15 : decode prog_10_method_36_code 15 = .ok (.iaload, 1) := by decide +kernel
theorem d_M_serveReplay_16 : decode prog_10_method_36_code 16 = .ok (.istore_n 2, 1) := by decide +kernel
theorem d_M_serveReplay_17 : decode prog_10_method_36_code 17 = .ok (.aload_n 0, 1) := by decide +kernel
theorem d_M_serveReplay_18 : decode prog_10_method_36_code 18 = .ok (.getfield 68, 3) := by decide +kernel
theorem d_M_serveReplay_21 : decode prog_10_method_36_code 21 = .ok (.iload_n 1, 1) := by decide +kernel
theorem d_M_serveReplay_22 : decode prog_10_method_36_code 22 = .ok (.iaload, 1) := by decide +kernel
theorem d_M_serveReplay_23 : decode prog_10_method_36_code 23 = .ok (.istore_n 3, 1) := by decide +kernel
theorem d_M_serveReplay_24 : decode prog_10_method_36_code 24 = .ok (.aload_n 0, 1) := by decide +kernel
theorem d_M_serveReplay_25 : decode prog_10_method_36_code 25 = .ok (.getfield 77, 3) := by decide +kernel
theorem d_M_serveReplay_28 : decode prog_10_method_36_code 28 = .ok (.iload_n 1, 1) := by decide +kernel
theorem d_M_serveReplay_29 : decode prog_10_method_36_code 29 = .ok (.iconst 0, 1) := by decide +kernel
theorem d_M_serveReplay_30 : decode prog_10_method_36_code 30 = .ok (.iastore, 1) := by decide +kernel
theorem d_M_serveReplay_31 : decode prog_10_method_36_code 31 = .ok (.iload_n 2, 1) := by decide +kernel
theorem d_M_serveReplay_32 : decode prog_10_method_36_code 32 = .ok (.iload_n 3, 1) := by decide +kernel
theorem d_M_serveReplay_33 : decode prog_10_method_36_code 33 = .ok (.if_icmp .ge 5, 3) := by decide +kernel
theorem d_M_serveReplay_36 : decode prog_10_method_36_code 36 = .ok (.iconst 0, 1) := by decide +kernel
theorem d_M_serveReplay_37 : decode prog_10_method_36_code 37 = .ok (.ireturn, 1) := by decide +kernel
theorem d_M_serveReplay_38 : decode prog_10_method_36_code 38 = .ok (.aload_n 0, 1) := by decide +kernel
theorem d_M_serveReplay_39 : decode prog_10_method_36_code 39 = .ok (.getfield 34, 3) := by decide +kernel
theorem d_M_serveReplay_42 : decode prog_10_method_36_code 42 = .ok (.iload_n 3, 1) := by decide +kernel
theorem d_M_serveReplay_43 : decode prog_10_method_36_code 43 = .ok (.iaload, 1) := by decide +kernel
theorem d_M_serveReplay_44 : decode prog_10_method_36_code 44 = .ok (.aload_n 0, 1) := by decide +kernel
theorem d_M_serveReplay_45 : decode prog_10_method_36_code 45 = .ok (.getfield 34, 3) := by decide +kernel
theorem d_M_serveReplay_48 : decode prog_10_method_36_code 48 = .ok (.aload_n 0, 1) := by decide +kernel
theorem d_M_serveReplay_49 : decode prog_10_method_36_code 49 = .ok (.getfield 148, 3) := by decide +kernel
theorem d_M_serveReplay_52 : decode prog_10_method_36_code 52 = .ok (.iconst 1, 1) := by decide +kernel
theorem d_M_serveReplay_53 : decode prog_10_method_36_code 53 = .ok (.iadd, 1) := by decide +kernel
theorem d_M_serveReplay_54 : decode prog_10_method_36_code 54 = .ok (.iaload, 1) := by decide +kernel
theorem d_M_serveReplay_55 : decode prog_10_method_36_code 55 = .ok (.bipush 40, 2) := by decide +kernel
theorem d_M_serveReplay_57 : decode prog_10_method_36_code 57 = .ok (.isub, 1) := by decide +kernel
theorem d_M_serveReplay_58 : decode prog_10_method_36_code 58 = .ok (.if_icmp .lt 28, 3) := by decide +kernel
theorem d_M_serveReplay_61 : decode prog_10_method_36_code 61 = .ok (.iload_n 3, 1) := by decide +kernel
theorem d_M_serveReplay_62 : decode prog_10_method_36_code 62 = .ok (.istore 4, 2) := by decide +kernel
theorem d_M_serveReplay_64 : decode prog_10_method_36_code 64 = .ok (.iload 4, 2) := by decide +kernel
theorem d_M_serveReplay_66 : decode prog_10_method_36_code 66 = .ok (.iload_n 2, 1) := by decide +kernel
theorem d_M_serveReplay_67 : decode prog_10_method_36_code 67 = .ok (.if_icmp .gt 17, 3) := by decide +kernel
theorem d_M_serveReplay_70 : decode prog_10_method_36_code 70 = .ok (.aload_n 0, 1) := by decide +kernel
theorem d_M_serveReplay_71 : decode prog_10_method_36_code 71 = .ok (.iload_n 1, 1) := by decide +kernel
theorem d_M_serveReplay_72 : decode prog_10_method_36_code 72 = .ok (.iload 4, 2) := by decide +kernel
theorem d_M_serveReplay_74 : decode prog_10_method_36_code 74 = .ok (.invokevirtual 195, 3) := by decide +kernel
theorem d_M_serveReplay_77 : decode prog_10_method_36_code 77 = .ok (.pop, 1) := by decide +kernel
theorem d_M_serveReplay_78 : decode prog_10_method_36_code 78 = .ok (.iinc 4 1, 3) := by decide +kernel
theorem d_M_serveReplay_81 : decode prog_10_method_36_code 81 = .ok (.goto (-17), 3) := by decide +kernel
theorem d_M_serveReplay_84 : decode prog_10_method_36_code 84 = .ok (.iconst 1, 1) := by decide +kernel
theorem d_M_serveReplay_85 : decode prog_10_method_36_code 85 = .ok (.ireturn, 1) := by decide +kernel
theorem d_M_serveReplay_86 : decode prog_10_method_36_code 86 = .ok (.iload_n 3, 1) := by decide +kernel
theorem d_M_serveReplay_87 : decode prog_10_method_36_code 87 = .ok (.istore 4, 2) := by decide +kernel
theorem d_M_serveReplay_89 : decode prog_10_method_36_code 89 = .ok (.iload 4, 2) := by decide +kernel
theorem d_M_serveReplay_91 : decode prog_10_method_36_code 91 = .ok (.iload_n 2, 1) := by decide +kernel
theorem d_M_serveReplay_92 : decode prog_10_method_36_code 92 = .ok (.if_icmp .gt 23, 3) := by decide +kernel
theorem d_M_serveReplay_95 : decode prog_10_method_36_code 95 = .ok (.aload_n 0, 1) := by decide +kernel
theorem d_M_serveReplay_96 : decode prog_10_method_36_code 96 = .ok (.getfield 74, 3) := by decide +kernel
theorem d_M_serveReplay_99 : decode prog_10_method_36_code 99 = .ok (.sipush 402, 3) := by decide +kernel
theorem d_M_serveReplay_102 : decode prog_10_method_36_code 102 = .ok (.iload_n 1, 1) := by decide +kernel
theorem d_M_serveReplay_103 : decode prog_10_method_36_code 103 = .ok (.imul, 1) := by decide +kernel
theorem d_M_serveReplay_104 : decode prog_10_method_36_code 104 = .ok (.iload 4, 2) := by decide +kernel
theorem d_M_serveReplay_106 : decode prog_10_method_36_code 106 = .ok (.iadd, 1) := by decide +kernel
theorem d_M_serveReplay_107 : decode prog_10_method_36_code 107 = .ok (.iconst 0, 1) := by decide +kernel
theorem d_M_serveReplay_108 : decode prog_10_method_36_code 108 = .ok (.bastore, 1) := by decide +kernel
theorem d_M_serveReplay_109 : decode prog_10_method_36_code 109 = .ok (.iinc 4 1, 3) := by decide +kernel
theorem d_M_serveReplay_112 : decode prog_10_method_36_code 112 = .ok (.goto (-23), 3) := by decide +kernel
theorem d_M_serveReplay_115 : decode prog_10_method_36_code 115 = .ok (.aload_n 0, 1) := by decide +kernel
theorem d_M_serveReplay_116 : decode prog_10_method_36_code 116 = .ok (.getfield 68, 3) := by decide +kernel
theorem d_M_serveReplay_119 : decode prog_10_method_36_code 119 = .ok (.iload_n 1, 1) := by decide +kernel
theorem d_M_serveReplay_120 : decode prog_10_method_36_code 120 = .ok (.iload_n 2, 1) := by decide +kernel
theorem d_M_serveReplay_121 : decode prog_10_method_36_code 121 = .ok (.iconst 1, 1) := by decide +kernel
theorem d_M_serveReplay_122 : decode prog_10_method_36_code 122 = .ok (.iadd, 1) := by decide +kernel
theorem d_M_serveReplay_123 : decode prog_10_method_36_code 123 = .ok (.iastore, 1) := by decide +kernel
theorem d_M_serveReplay_124 : decode prog_10_method_36_code 124 = .ok (.iconst 0, 1) := by decide +kernel
theorem d_M_serveReplay_125 : decode prog_10_method_36_code 125 = .ok (.istore 4, 2) := by decide +kernel
theorem d_M_serveReplay_127 : decode prog_10_method_36_code 127 = .ok (.iload 4, 2) := by decide +kernel
theorem d_M_serveReplay_129 : decode prog_10_method_36_code 129 = .ok (.iconst 4, 1) := by decide +kernel
theorem d_M_serveReplay_130 : decode prog_10_method_36_code 130 = .ok (.if_icmp .ge 36, 3) := by decide +kernel
theorem d_M_serveReplay_133 : decode prog_10_method_36_code 133 = .ok (.aload_n 0, 1) := by decide +kernel
theorem d_M_serveReplay_134 : decode prog_10_method_36_code 134 = .ok (.getfield 58, 3) := by decide +kernel
theorem d_M_serveReplay_137 : decode prog_10_method_36_code 137 = .ok (.iconst 4, 1) := by decide +kernel
theorem d_M_serveReplay_138 : decode prog_10_method_36_code 138 = .ok (.iload_n 1, 1) := by decide +kernel
theorem d_M_serveReplay_139 : decode prog_10_method_36_code 139 = .ok (.imul, 1) := by decide +kernel
theorem d_M_serveReplay_140 : decode prog_10_method_36_code 140 = .ok (.iload 4, 2) := by decide +kernel
theorem d_M_serveReplay_142 : decode prog_10_method_36_code 142 = .ok (.iadd, 1) := by decide +kernel
theorem d_M_serveReplay_143 : decode prog_10_method_36_code 143 = .ok (.iaload, 1) := by decide +kernel
theorem d_M_serveReplay_144 : decode prog_10_method_36_code 144 = .ok (.iload_n 2, 1) := by decide +kernel
theorem d_M_serveReplay_145 : decode prog_10_method_36_code 145 = .ok (.if_icmp .ge 15, 3) := by decide +kernel
theorem d_M_serveReplay_148 : decode prog_10_method_36_code 148 = .ok (.aload_n 0, 1) := by decide +kernel
theorem d_M_serveReplay_149 : decode prog_10_method_36_code 149 = .ok (.getfield 58, 3) := by decide +kernel
theorem d_M_serveReplay_152 : decode prog_10_method_36_code 152 = .ok (.iconst 4, 1) := by decide +kernel
theorem d_M_serveReplay_153 : decode prog_10_method_36_code 153 = .ok (.iload_n 1, 1) := by decide +kernel
theorem d_M_serveReplay_154 : decode prog_10_method_36_code 154 = .ok (.imul, 1) := by decide +kernel
theorem d_M_serveReplay_155 : decode prog_10_method_36_code 155 = .ok (.iload 4, 2) := by decide +kernel
theorem d_M_serveReplay_157 : decode prog_10_method_36_code 157 = .ok (.iadd, 1) := by decide +kernel
theorem d_M_serveReplay_158 : decode prog_10_method_36_code 158 = .ok (.iload_n 2, 1) := by decide +kernel
theorem d_M_serveReplay_159 : decode prog_10_method_36_code 159 = .ok (.iastore, 1) := by decide +kernel
theorem d_M_serveReplay_160 : decode prog_10_method_36_code 160 = .ok (.iinc 4 1, 3) := by decide +kernel
theorem d_M_serveReplay_163 : decode prog_10_method_36_code 163 = .ok (.goto (-36), 3) := by decide +kernel
theorem d_M_serveReplay_166 : decode prog_10_method_36_code 166 = .ok (.aload_n 0, 1) := by decide +kernel
theorem d_M_serveReplay_167 : decode prog_10_method_36_code 167 = .ok (.iload_n 1, 1) := by decide +kernel
theorem d_M_serveReplay_168 : decode prog_10_method_36_code 168 = .ok (.invokevirtual 189, 3) := by decide +kernel
theorem d_M_serveReplay_171 : decode prog_10_method_36_code 171 = .ok (.iconst 2, 1) := by decide +kernel
theorem d_M_serveReplay_172 : decode prog_10_method_36_code 172 = .ok (.ireturn, 1) := by decide +kernel
theorem d_M_snapshotTurn_0 : decode prog_10_method_37_code 0 = .ok (.aload_n 0, 1) := by decide +kernel
theorem d_M_snapshotTurn_1 : decode prog_10_method_37_code 1 = .ok (.dup, 1) := by decide +kernel
theorem d_M_snapshotTurn_2 : decode prog_10_method_37_code 2 = .ok (.getfield 201, 3) := by decide +kernel
theorem d_M_snapshotTurn_5 : decode prog_10_method_37_code 5 = .ok (.iconst 1, 1) := by decide +kernel
theorem d_M_snapshotTurn_6 : decode prog_10_method_37_code 6 = .ok (.iadd, 1) := by decide +kernel
theorem d_M_snapshotTurn_7 : decode prog_10_method_37_code 7 = .ok (.putfield 201, 3) := by decide +kernel
theorem d_M_snapshotTurn_10 : decode prog_10_method_37_code 10 = .ok (.aload_n 0, 1) := by decide +kernel
theorem d_M_snapshotTurn_11 : decode prog_10_method_37_code 11 = .ok (.getfield 201, 3) := by decide +kernel
theorem d_M_snapshotTurn_14 : decode prog_10_method_37_code 14 = .ok (.iconst 1, 1) := by decide +kernel
theorem d_M_snapshotTurn_15 : decode prog_10_method_37_code 15 = .ok (.isub, 1) := by decide +kernel
theorem d_M_snapshotTurn_16 : decode prog_10_method_37_code 16 = .ok (.iconst 4, 1) := by decide +kernel
theorem d_M_snapshotTurn_17 : decode prog_10_method_37_code 17 = .ok (.irem, 1) := by decide +kernel
theorem d_M_snapshotTurn_18 : decode prog_10_method_37_code 18 = .ok (.istore_n 1, 1) := by decide +kernel
theorem d_M_snapshotTurn_19 : decode prog_10_method_37_code 19 = .ok (.aload_n 0, 1) := by decide +kernel
theorem d_M_snapshotTurn_20 : decode prog_10_method_37_code 20 = .ok (.getfield 80, 3) := by decide +kernel
theorem d_M_snapshotTurn_23 : decode prog_10_method_37_code 23 = .ok (.aload_n 0, 1) := by decide +kernel
theorem d_M_snapshotTurn_24 : decode prog_10_method_37_code 24 = .ok (.getfield 201, 3) := by decide +kernel
theorem d_M_snapshotTurn_27 : decode prog_10_method_37_code 27 = .ok (.iload_n 1, 1) := by decide +kernel
theorem d_M_snapshotTurn_28 : decode prog_10_method_37_code 28 = .ok (.iastore, 1) := by decide +kernel
theorem d_M_snapshotTurn_29 : decode prog_10_method_37_code 29 = .ok (.aload_n 0, 1) := by decide +kernel
theorem d_M_snapshotTurn_30 : decode prog_10_method_37_code 30 = .ok (.getfield 83, 3) := by decide +kernel
theorem d_M_snapshotTurn_33 : decode prog_10_method_37_code 33 = .ok (.aload_n 0, 1) := by decide +kernel
theorem d_M_snapshotTurn_34 : decode prog_10_method_37_code 34 = .ok (.getfield 201, 3) := by decide +kernel
theorem d_M_snapshotTurn_37 : decode prog_10_method_37_code 37 = .ok (.aload_n 0, 1) := by decide +kernel
theorem d_M_snapshotTurn_38 : decode prog_10_method_37_code 38 = .ok (.getfield 31, 3) := by decide +kernel
theorem d_M_snapshotTurn_41 : decode prog_10_method_37_code 41 = .ok (.iload_n 1, 1) := by decide +kernel
theorem d_M_snapshotTurn_42 : decode prog_10_method_37_code 42 = .ok (.iaload, 1) := by decide +kernel
theorem d_M_snapshotTurn_43 : decode prog_10_method_37_code 43 = .ok (.iastore, 1) := by decide +kernel
theorem d_M_snapshotTurn_44 : decode prog_10_method_37_code 44 = .ok (.aload_n 0, 1) := by decide +kernel
theorem d_M_snapshotTurn_45 : decode prog_10_method_37_code 45 = .ok (.getfield 86, 3) := by decide +kernel
theorem d_M_snapshotTurn_48 : decode prog_10_method_37_code 48 = .ok (.aload_n 0, 1) := by decide +kernel
theorem d_M_snapshotTurn_49 : decode prog_10_method_37_code 49 = .ok (.getfield 201, 3) := by decide +kernel
theorem d_M_snapshotTurn_52 : decode prog_10_method_37_code 52 = .ok (.aload_n 0, 1) := by decide +kernel
theorem d_M_snapshotTurn_53 : decode prog_10_method_37_code 53 = .ok (.getfield 148, 3) := by decide +kernel
theorem d_M_snapshotTurn_56 : decode prog_10_method_37_code 56 = .ok (.iastore, 1) := by decide +kernel
theorem d_M_snapshotTurn_57 : decode prog_10_method_37_code 57 = .ok (.aload_n 0, 1) := by decide +kernel
theorem d_M_snapshotTurn_58 : decode prog_10_method_37_code 58 = .ok (.getfield 201, 3) := by decide +kernel
theorem d_M_snapshotTurn_61 : decode prog_10_method_37_code 61 = .ok (.ireturn, 1) := by decide +kernel
theorem d_M_hearSnapshot_0 : decode prog_10_method_39_code 0 = .ok (.iload_n 2, 1) := by decide +kernel
theorem d_M_hearSnapshot_1 : decode prog_10_method_39_code 1 = .ok (.invokestatic 192, 3) := by decide +kernel
theorem d_M_hearSnapshot_4 : decode prog_10_method_39_code 4 = .ok (.ifCond .eq 27, 3) := by decide +kernel
theorem d_M_hearSnapshot_7 : decode prog_10_method_39_code 7 = .ok (.iload_n 1, 1) := by decide +kernel
theorem d_M_hearSnapshot_8 : decode prog_10_method_39_code 8 = .ok (.iconst 1, 1) := by decide +kernel
theorem d_M_hearSnapshot_9 : decode prog_10_method_39_code 9 = .ok (.if_icmp .lt 22, 3) := by decide +kernel
theorem d_M_hearSnapshot_12 : decode prog_10_method_39_code 12 = .ok (.iload_n 1, 1) := by decide +kernel
theorem d_M_hearSnapshot_13 : decode prog_10_method_39_code 13 = .ok (.aload_n 0, 1) := by decide +kernel
theorem d_M_hearSnapshot_14 : decode prog_10_method_39_code 14 = .ok (.getfield 201, 3) := by decide +kernel
theorem d_M_hearSnapshot_17 : decode prog_10_method_39_code 17 = .ok (.if_icmp .gt 14, 3) := by decide +kernel
theorem d_M_hearSnapshot_20 : decode prog_10_method_39_code 20 = .ok (.iload_n 1, 1) := by decide +kernel
theorem d_M_hearSnapshot_21 : decode prog_10_method_39_code 21 = .ok (.aload_n 0, 1) := by decide +kernel
theorem d_M_hearSnapshot_22 : decode prog_10_method_39_code 22 = .ok (.getfield 201, 3) := by decide +kernel
theorem d_M_hearSnapshot_25 : decode prog_10_method_39_code 25 = .ok (.bipush 8, 2) := by decide +kernel
theorem d_M_hearSnapshot_27 : decode prog_10_method_39_code 27 = .ok (.isub, 1) := by decide +kernel
theorem d_M_hearSnapshot_28 : decode prog_10_method_39_code 28 = .ok (.if_icmp .gt 6, 3) := by decide +kernel
theorem d_M_hearSnapshot_31 : decode prog_10_method_39_code 31 = .ok (.bipush (-2), 2) := by decide +kernel
theorem d_M_hearSnapshot_33 : decode prog_10_method_39_code 33 = .ok (.ireturn, 1) := by decide +kernel
theorem d_M_hearSnapshot_34 : decode prog_10_method_39_code 34 = .ok (.iload_n 3, 1) := by decide +kernel
theorem d_M_hearSnapshot_35 : decode prog_10_method_39_code 35 = .ok (.iconst 1, 1) := by decide +kernel
theorem d_M_hearSnapshot_36 : decode prog_10_method_39_code 36 = .ok (.aload_n 0, 1) := by decide +kernel
theorem d_M_hearSnapshot_37 : decode prog_10_method_39_code 37 = .ok (.iload_n 1, 1) := by decide +kernel
theorem d_M_hearSnapshot_38 : decode prog_10_method_39_code 38 = .ok (.invokevirtual 204, 3) := by decide +kernel
theorem d_M_hearSnapshot_41 : decode prog_10_method_39_code 41 = .ok (.invokestatic 101, 3) := by decide +kernel
theorem d_M_hearSnapshot_44 : decode prog_10_method_39_code 44 = .ok (.ifCond .eq 5, 3) := by decide +kernel
theorem d_M_hearSnapshot_47 : decode prog_10_method_39_code 47 = .ok (.iconst 0, 1) := by decide +kernel
theorem d_M_hearSnapshot_48 : decode prog_10_method_39_code 48 = .ok (.ireturn, 1) := by decide +kernel
theorem d_M_hearSnapshot_49 : decode prog_10_method_39_code 49 = .ok (.aload_n 0, 1) := by decide +kernel
theorem d_M_hearSnapshot_50 : decode prog_10_method_39_code 50 = .ok (.getfield 80, 3) := by decide +kernel
theorem d_M_hearSnapshot_53 : decode prog_10_method_39_code 53 = .ok (.iload_n 1, 1) := by decide +kernel
theorem d_M_hearSnapshot_54 : decode prog_10_method_39_code 54 = .ok (.iaload, 1) := by decide +kernel
theorem d_M_hearSnapshot_55 : decode prog_10_method_39_code 55 = .ok (.istore 4, 2) := by decide +kernel
theorem d_M_hearSnapshot_57 : decode prog_10_method_39_code 57 = .ok (.iconst 4, 1) := by decide +kernel
theorem d_M_hearSnapshot_58 : decode prog_10_method_39_code 58 = .ok (.iload_n 2, 1) := by decide +kernel
theorem d_M_hearSnapshot_59 : decode prog_10_method_39_code 59 = .ok (.imul, 1) := by decide +kernel
theorem d_M_hearSnapshot_60 : decode prog_10_method_39_code 60 = .ok (.iload 4, 2) := by decide +kernel
theorem d_M_hearSnapshot_62 : decode prog_10_method_39_code 62 = .ok (.iadd, 1) := by decide +kernel
theorem d_M_hearSnapshot_63 : decode prog_10_method_39_code 63 = .ok (.istore 5, 2) := by decide +kernel
theorem d_M_hearSnapshot_65 : decode prog_10_method_39_code 65 = .ok (.aload_n 0, 1) := by decide +kernel
theorem d_M_hearSnapshot_66 : decode prog_10_method_39_code 66 = .ok (.getfield 58, 3) := by decide +kernel
theorem d_M_hearSnapshot_69 : decode prog_10_method_39_code 69 = .ok (.iload 5, 2) := by decide +kernel
theorem d_M_hearSnapshot_71 : decode prog_10_method_39_code 71 = .ok (.iaload, 1) := by decide +kernel
theorem d_M_hearSnapshot_72 : decode prog_10_method_39_code 72 = .ok (.ifCond .le 23, 3) := by decide +kernel
theorem d_M_hearSnapshot_75 : decode prog_10_method_39_code 75 = .ok (.aload_n 0, 1) := by decide +kernel
theorem d_M_hearSnapshot_76 : decode prog_10_method_39_code 76 = .ok (.getfield 86, 3) := by decide +kernel
theorem d_M_hearSnapshot_79 : decode prog_10_method_39_code 79 = .ok (.iload_n 1, 1) := by decide +kernel
theorem d_M_hearSnapshot_80 : decode prog_10_method_39_code 80 = .ok (.iaload, 1) := by decide +kernel
theorem d_M_hearSnapshot_81 : decode prog_10_method_39_code 81 = .ok (.aload_n 0, 1) := by decide +kernel
theorem d_M_hearSnapshot_82 : decode prog_10_method_39_code 82 = .ok (.getfield 58, 3) := by decide +kernel
theorem d_M_hearSnapshot_85 : decode prog_10_method_39_code 85 = .ok (.iload 5, 2) := by decide +kernel
theorem d_M_hearSnapshot_87 : decode prog_10_method_39_code 87 = .ok (.iaload, 1) := by decide +kernel
theorem d_M_hearSnapshot_88 : decode prog_10_method_39_code 88 = .ok (.if_icmp .lt 7, 3) := by decide +kernel
theorem d_M_hearSnapshot_91 : decode prog_10_method_39_code 91 = .ok (.iconst 1, 1) := by decide +kernel
theorem d_M_hearSnapshot_92 : decode prog_10_method_39_code 92 = .ok (.goto 4, 3) := by decide +kernel
theorem d_M_hearSnapshot_95 : decode prog_10_method_39_code 95 = .ok (.iconst 0, 1) := by decide +kernel
theorem d_M_hearSnapshot_96 : decode prog_10_method_39_code 96 = .ok (.istore 6, 2) := by decide +kernel
theorem d_M_hearSnapshot_98 : decode prog_10_method_39_code 98 = .ok (.iload 6, 2) := by decide +kernel
theorem d_M_hearSnapshot_100 : decode prog_10_method_39_code 100 = .ok (.ifCond .eq 11, 3) := by decide +kernel
theorem d_M_hearSnapshot_103 : decode prog_10_method_39_code 103 = .ok (.aload_n 0, 1) := by decide +kernel
theorem d_M_hearSnapshot_104 : decode prog_10_method_39_code 104 = .ok (.getfield 58, 3) := by decide +kernel
theorem d_M_hearSnapshot_107 : decode prog_10_method_39_code 107 = .ok (.iload 5, 2) := by decide +kernel
theorem d_M_hearSnapshot_109 : decode prog_10_method_39_code 109 = .ok (.iconst 0, 1) := by decide +kernel
theorem d_M_hearSnapshot_110 : decode prog_10_method_39_code 110 = .ok (.iastore, 1) := by decide +kernel
theorem d_M_hearSnapshot_111 : decode prog_10_method_39_code 111 = .ok (.aload_n 0, 1) := by decide +kernel
theorem d_M_hearSnapshot_112 : decode prog_10_method_39_code 112 = .ok (.getfield 83, 3) := by decide +kernel
theorem d_M_hearSnapshot_115 : decode prog_10_method_39_code 115 = .ok (.iload_n 1, 1) := by decide +kernel
theorem d_M_hearSnapshot_116 : decode prog_10_method_39_code 116 = .ok (.iaload, 1) := by decide +kernel
theorem d_M_hearSnapshot_117 : decode prog_10_method_39_code 117 = .ok (.aload_n 0, 1) := by decide +kernel
theorem d_M_hearSnapshot_118 : decode prog_10_method_39_code 118 = .ok (.getfield 55, 3) := by decide +kernel
theorem d_M_hearSnapshot_121 : decode prog_10_method_39_code 121 = .ok (.iload 5, 2) := by decide +kernel
theorem d_M_hearSnapshot_123 : decode prog_10_method_39_code 123 = .ok (.iaload, 1) := by decide +kernel
theorem d_M_hearSnapshot_124 : decode prog_10_method_39_code 124 = .ok (.if_icmp .gt 14, 3) := by decide +kernel
theorem d_M_hearSnapshot_127 : decode prog_10_method_39_code 127 = .ok (.iload 6, 2) := by decide +kernel
theorem d_M_hearSnapshot_129 : decode prog_10_method_39_code 129 = .ok (.ifCond .eq 7, 3) := by decide +kernel
theorem d_M_hearSnapshot_132 : decode prog_10_method_39_code 132 = .ok (.iconst 2, 1) := by decide +kernel
theorem d_M_hearSnapshot_133 : decode prog_10_method_39_code 133 = .ok (.goto 4, 3) := by decide +kernel
theorem d_M_hearSnapshot_136 : decode prog_10_method_39_code 136 = .ok (.iconst 0, 1) := by decide +kernel
theorem d_M_hearSnapshot_137 : decode prog_10_method_39_code 137 = .ok (.ireturn, 1) := by decide +kernel
theorem d_M_hearSnapshot_138 : decode prog_10_method_39_code 138 = .ok (.aload_n 0, 1) := by decide +kernel
theorem d_M_hearSnapshot_139 : decode prog_10_method_39_code 139 = .ok (.getfield 55, 3) := by decide +kernel
theorem d_M_hearSnapshot_142 : decode prog_10_method_39_code 142 = .ok (.iload 5, 2) := by decide +kernel
theorem d_M_hearSnapshot_144 : decode prog_10_method_39_code 144 = .ok (.iaload, 1) := by decide +kernel
theorem d_M_hearSnapshot_145 : decode prog_10_method_39_code 145 = .ok (.iconst 1, 1) := by decide +kernel
theorem d_M_hearSnapshot_146 : decode prog_10_method_39_code 146 = .ok (.iadd, 1) := by decide +kernel
theorem d_M_hearSnapshot_147 : decode prog_10_method_39_code 147 = .ok (.istore 7, 2) := by decide +kernel
theorem d_M_hearSnapshot_149 : decode prog_10_method_39_code 149 = .ok (.iload 7, 2) := by decide +kernel
theorem d_M_hearSnapshot_151 : decode prog_10_method_39_code 151 = .ok (.aload_n 0, 1) := by decide +kernel
theorem d_M_hearSnapshot_152 : decode prog_10_method_39_code 152 = .ok (.getfield 83, 3) := by decide +kernel
theorem d_M_hearSnapshot_155 : decode prog_10_method_39_code 155 = .ok (.iload_n 1, 1) := by decide +kernel
theorem d_M_hearSnapshot_156 : decode prog_10_method_39_code 156 = .ok (.iaload, 1) := by decide +kernel
theorem d_M_hearSnapshot_157 : decode prog_10_method_39_code 157 = .ok (.if_icmp .gt 17, 3) := by decide +kernel
theorem d_M_hearSnapshot_160 : decode prog_10_method_39_code 160 = .ok (.aload_n 0, 1) := by decide +kernel
theorem d_M_hearSnapshot_161 : decode prog_10_method_39_code 161 = .ok (.iload 5, 2) := by decide +kernel
theorem d_M_hearSnapshot_163 : decode prog_10_method_39_code 163 = .ok (.iload 7, 2) := by decide +kernel
theorem d_M_hearSnapshot_165 : decode prog_10_method_39_code 165 = .ok (.invokevirtual 173, 3) := by decide +kernel
theorem d_M_hearSnapshot_168 : decode prog_10_method_39_code 168 = .ok (.iinc 7 1, 3) := by decide +kernel
theorem d_M_hearSnapshot_171 : decode prog_10_method_39_code 171 = .ok (.goto (-22), 3) := by decide +kernel
theorem d_M_hearSnapshot_174 : decode prog_10_method_39_code 174 = .ok (.aload_n 0, 1) := by decide +kernel
theorem d_M_hearSnapshot_175 : decode prog_10_method_39_code 175 = .ok (.iload_n 2, 1) := by decide +kernel
theorem d_M_hearSnapshot_176 : decode prog_10_method_39_code 176 = .ok (.iload 4, 2) := by decide +kernel
theorem d_M_hearSnapshot_178 : decode prog_10_method_39_code 178 = .ok (.aload_n 0, 1) := by decide +kernel
theorem d_M_hearSnapshot_179 : decode prog_10_method_39_code 179 = .ok (.getfield 83, 3) := by decide +kernel
theorem d_M_hearSnapshot_182 : decode prog_10_method_39_code 182 = .ok (.iload_n 1, 1) := by decide +kernel
theorem d_M_hearSnapshot_183 : decode prog_10_method_39_code 183 = .ok (.iaload, 1) := by decide +kernel
theorem d_M_hearSnapshot_184 : decode prog_10_method_39_code 184 = .ok (.invokevirtual 176, 3) := by decide +kernel
theorem d_M_hearSnapshot_187 : decode prog_10_method_39_code 187 = .ok (.aload_n 0, 1) := by decide +kernel
theorem d_M_hearSnapshot_188 : decode prog_10_method_39_code 188 = .ok (.iload_n 2, 1) := by decide +kernel
theorem d_M_hearSnapshot_189 : decode prog_10_method_39_code 189 = .ok (.iload 4, 2) := by decide +kernel
theorem d_M_hearSnapshot_191 : decode prog_10_method_39_code 191 = .ok (.invokevirtual 180, 3) := by decide +kernel
theorem d_M_hearSnapshot_194 : decode prog_10_method_39_code 194 = .ok (.iconst 1, 1) := by decide +kernel
theorem d_M_hearSnapshot_195 : decode prog_10_method_39_code 195 = .ok (.ireturn, 1) := by decide +kernel
theorem d_M_pieces_0 : decode prog_10_method_38_code 0 = .ok (.aload_n 0, 1) := by decide +kernel
theorem d_M_pieces_1 : decode prog_10_method_38_code 1 = .ok (.aload_n 0, 1) := by decide +kernel
theorem d_M_pieces_2 : decode prog_10_method_38_code 2 = .ok (.getfield 80, 3) := by decide +kernel
theorem d_M_pieces_5 : decode prog_10_method_38_code 5 = .ok (.iload_n 1, 1) := by decide +kernel
theorem d_M_pieces_6 : decode prog_10_method_38_code 6 = .ok (.iaload, 1) := by decide +kernel
theorem d_M_pieces_7 : decode prog_10_method_38_code 7 = .ok (.aload_n 0, 1) := by decide +kernel
theorem d_M_pieces_8 : decode prog_10_method_38_code 8 = .ok (.getfield 83, 3) := by decide +kernel
theorem d_M_pieces_11 : decode prog_10_method_38_code 11 = .ok (.iload_n 1, 1) := by decide +kernel
theorem d_M_pieces_12 : decode prog_10_method_38_code 12 = .ok (.iaload, 1) := by decide +kernel
theorem d_M_pieces_13 : decode prog_10_method_38_code 13 = .ok (.invokevirtual 144, 3) := by decide +kernel
theorem d_M_pieces_16 : decode prog_10_method_38_code 16 = .ok (.aload_n 0, 1) := by decide +kernel
theorem d_M_pieces_17 : decode prog_10_method_38_code 17 = .ok (.getfield 106, 3) := by decide +kernel
theorem d_M_pieces_20 : decode prog_10_method_38_code 20 = .ok (.ifCond .ne 7, 3) := by decide +kernel
theorem d_M_pieces_23 : decode prog_10_method_38_code 23 = .ok (.iconst 1, 1) := by decide +kernel
theorem d_M_pieces_24 : decode prog_10_method_38_code 24 = .ok (.goto 11, 3) := by decide +kernel
theorem d_M_pieces_27 : decode prog_10_method_38_code 27 = .ok (.aload_n 0, 1) := by decide +kernel
theorem d_M_pieces_28 : decode prog_10_method_38_code 28 = .ok (.getfield 106, 3) := by decide +kernel
theorem d_M_pieces_31 : decode prog_10_method_38_code 31 = .ok (.iconst 2, 1) := by decide +kernel
theorem d_M_pieces_32 : decode prog_10_method_38_code 32 = .ok (.iadd, 1) := by decide +kernel
theorem d_M_pieces_33 : decode prog_10_method_38_code 33 = .ok (.iconst 3, 1) := by decide +kernel
theorem d_M_pieces_34 : decode prog_10_method_38_code 34 = .ok (.idiv, 1) := by decide +kernel
theorem d_M_pieces_35 : decode prog_10_method_38_code 35 = .ok (.ireturn, 1) := by decide +kernel
theorem d_M_sound_0 : decode prog_10_method_40_code 0 = .ok (.iload_n 1, 1) := by decide +kernel
theorem d_M_sound_1 : decode prog_10_method_40_code 1 = .ok (.invokestatic 192, 3) := by decide +kernel
theorem d_M_sound_4 : decode prog_10_method_40_code 4 = .ok (.ifCond .eq 10, 3) := by decide +kernel
theorem d_M_sound_7 : decode prog_10_method_40_code 7 = .ok (.iload_n 2, 1) := by decide +kernel
theorem d_M_sound_8 : decode prog_10_method_40_code 8 = .ok (.invokestatic 151, 3) := by decide +kernel
theorem d_M_sound_11 : decode prog_10_method_40_code 11 = .ok (.ifCond .ne 6, 3) := by decide +kernel
theorem d_M_sound_14 : decode prog_10_method_40_code 14 = .ok (.bipush (-2), 2) := by decide +kernel
theorem d_M_sound_16 : decode prog_10_method_40_code 16 = .ok (.ireturn, 1) := by decide +kernel
theorem d_M_sound_17 : decode prog_10_method_40_code 17 = .ok (.aload_n 0, 1) := by decide +kernel
theorem d_M_sound_18 : decode prog_10_method_40_code 18 = .ok (.getfield 58, 3) := by decide +kernel
theorem d_M_sound_21 : decode prog_10_method_40_code 21 = .ok (.iconst 4, 1) := by decide +kernel
theorem d_M_sound_22 : decode prog_10_method_40_code 22 = .ok (.iload_n 1, 1) := by decide +kernel
theorem d_M_sound_23 : decode prog_10_method_40_code 23 = .ok (.imul, 1) := by decide +kernel
theorem d_M_sound_24 : decode prog_10_method_40_code 24 = .ok (.iload_n 2, 1) := by decide +kernel
theorem d_M_sound_25 : decode prog_10_method_40_code 25 = .ok (.iadd, 1) := by decide +kernel
theorem d_M_sound_26 : decode prog_10_method_40_code 26 = .ok (.iaload, 1) := by decide +kernel
theorem d_M_sound_27 : decode prog_10_method_40_code 27 = .ok (.ifCond .ne 22, 3) := by decide +kernel
theorem d_M_sound_30 : decode prog_10_method_40_code 30 = .ok (.aload_n 0, 1) := by decide +kernel
theorem d_M_sound_31 : decode prog_10_method_40_code 31 = .ok (.getfield 71, 3) := by decide +kernel
theorem d_M_sound_34 : decode prog_10_method_40_code 34 = .ok (.iload_n 1, 1) := by decide +kernel
theorem d_M_sound_35 : decode prog_10_method_40_code 35 = .ok (.iaload, 1) := by decide +kernel
theorem d_M_sound_36 : decode prog_10_method_40_code 36 = .ok (.aload_n 0, 1) := by decide +kernel
theorem d_M_sound_37 : decode prog_10_method_40_code 37 = .ok (.getfield 68, 3) := by decide +kernel
theorem d_M_sound_40 : decode prog_10_method_40_code 40 = .ok (.iload_n 1, 1) := by decide +kernel
theorem d_M_sound_41 : decode prog_10_method_40_code 41 = .ok (.iaload, 1) := by decide +kernel
theorem d_M_sound_42 : decode prog_10_method_40_code 42 = .ok (.if_icmp .ge 7, 3) := by decide +kernel
theorem d_M_sound_45 : decode prog_10_method_40_code 45 = .ok (.iconst 1, 1) := by decide +kernel
theorem d_M_sound_46 : decode prog_10_method_40_code 46 = .ok (.goto 4, 3) := by decide +kernel
theorem d_M_sound_49 : decode prog_10_method_40_code 49 = .ok (.iconst 0, 1) := by decide +kernel
theorem d_M_sound_50 : decode prog_10_method_40_code 50 = .ok (.ireturn, 1) := by decide +kernel
theorem d_M_at_0 : decode prog_10_method_43_code 0 = .ok (.iload_n 1, 1) := by decide +kernel
theorem d_M_at_1 : decode prog_10_method_43_code 1 = .ok (.iload_n 2, 1) := by decide +kernel
theorem d_M_at_2 : decode prog_10_method_43_code 2 = .ok (.invokestatic 207, 3) := by decide +kernel
theorem d_M_at_5 : decode prog_10_method_43_code 5 = .ok (.ifCond .eq 12, 3) := by decide +kernel
theorem d_M_at_8 : decode prog_10_method_43_code 8 = .ok (.aload_n 0, 1) := by decide +kernel
theorem d_M_at_9 : decode prog_10_method_43_code 9 = .ok (.iload_n 1, 1) := by decide +kernel
theorem d_M_at_10 : decode prog_10_method_43_code 10 = .ok (.iload_n 2, 1) := by decide +kernel
theorem d_M_at_11 : decode prog_10_method_43_code 11 = .ok (.invokevirtual 210, 3) := by decide +kernel
theorem d_M_at_14 : decode prog_10_method_43_code 14 = .ok (.goto 5, 3) := by decide +kernel
theorem d_M_at_17 : decode prog_10_method_43_code 17 = .ok (.bipush (-2), 2) := by decide +kernel
theorem d_M_at_19 : decode prog_10_method_43_code 19 = .ok (.ireturn, 1) := by decide +kernel
theorem d_M_isBook_0 : decode prog_10_method_41_code 0 = .ok (.iload_n 0, 1) := by decide +kernel
theorem d_M_isBook_1 : decode prog_10_method_41_code 1 = .ok (.iconst (-1), 1) := by decide +kernel
theorem d_M_isBook_2 : decode prog_10_method_41_code 2 = .ok (.iconst 1, 1) := by decide +kernel
theorem d_M_isBook_3 : decode prog_10_method_41_code 3 = .ok (.invokestatic 101, 3) := by decide +kernel
theorem d_M_isBook_6 : decode prog_10_method_41_code 6 = .ok (.ifCond .eq 14, 3) := by decide +kernel
theorem d_M_isBook_9 : decode prog_10_method_41_code 9 = .ok (.iload_n 1, 1) := by decide +kernel
theorem d_M_isBook_10 : decode prog_10_method_41_code 10 = .ok (.invokestatic 151, 3) := by decide +kernel
theorem d_M_isBook_13 : decode prog_10_method_41_code 13 = .ok (.ifCond .eq 7, 3) := by decide +kernel
theorem d_M_isBook_16 : decode prog_10_method_41_code 16 = .ok (.iconst 1, 1) := by decide +kernel
theorem d_M_isBook_17 : decode prog_10_method_41_code 17 = .ok (.goto 4, 3) := by decide +kernel
theorem d_M_isBook_20 : decode prog_10_method_41_code 20 = .ok (.iconst 0, 1) := by decide +kernel
theorem d_M_isBook_21 : decode prog_10_method_41_code 21 = .ok (.ireturn, 1) := by decide +kernel
theorem d_M_manyOf_0 : decode prog_10_method_42_code 0 = .ok (.iload_n 1, 1) := by decide +kernel
theorem d_M_manyOf_1 : decode prog_10_method_42_code 1 = .ok (.iconst (-1), 1) := by decide +kernel
theorem d_M_manyOf_2 : decode prog_10_method_42_code 2 = .ok (.if_icmp .ne 12, 3) := by decide +kernel
theorem d_M_manyOf_5 : decode prog_10_method_42_code 5 = .ok (.aload_n 0, 1) := by decide +kernel
theorem d_M_manyOf_6 : decode prog_10_method_42_code 6 = .ok (.getfield 31, 3) := by decide +kernel
theorem d_M_manyOf_9 : decode prog_10_method_42_code 9 = .ok (.iload_n 2, 1) := by decide +kernel
theorem d_M_manyOf_10 : decode prog_10_method_42_code 10 = .ok (.iaload, 1) := by decide +kernel
theorem d_M_manyOf_11 : decode prog_10_method_42_code 11 = .ok (.goto 13, 3) := by decide +kernel
theorem d_M_manyOf_14 : decode prog_10_method_42_code 14 = .ok (.aload_n 0, 1) := by decide +kernel
theorem d_M_manyOf_15 : decode prog_10_method_42_code 15 = .ok (.getfield 55, 3) := by decide +kernel
theorem d_M_manyOf_18 : decode prog_10_method_42_code 18 = .ok (.iconst 4, 1) := by decide +kernel
theorem d_M_manyOf_19 : decode prog_10_method_42_code 19 = .ok (.iload_n 1, 1) := by decide +kernel
theorem d_M_manyOf_20 : decode prog_10_method_42_code 20 = .ok (.imul, 1) := by decide +kernel
theorem d_M_manyOf_21 : decode prog_10_method_42_code 21 = .ok (.iload_n 2, 1) := by decide +kernel
theorem d_M_manyOf_22 : decode prog_10_method_42_code 22 = .ok (.iadd, 1) := by decide +kernel
theorem d_M_manyOf_23 : decode prog_10_method_42_code 23 = .ok (.iaload, 1) := by decide +kernel
theorem d_M_manyOf_24 : decode prog_10_method_42_code 24 = .ok (.ireturn, 1) := by decide +kernel
theorem d_M_receiver_0 : decode prog_10_method_44_code 0 = .ok (.iload_n 1, 1) := by decide +kernel
theorem d_M_receiver_1 : decode prog_10_method_44_code 1 = .ok (.invokestatic 192, 3) := by decide +kernel
theorem d_M_receiver_4 : decode prog_10_method_44_code 4 = .ok (.ifCond .eq 12, 3) := by decide +kernel
theorem d_M_receiver_7 : decode prog_10_method_44_code 7 = .ok (.iload_n 2, 1) := by decide +kernel
theorem d_M_receiver_8 : decode prog_10_method_44_code 8 = .ok (.iconst 0, 1) := by decide +kernel
theorem d_M_receiver_9 : decode prog_10_method_44_code 9 = .ok (.iconst 3, 1) := by decide +kernel
theorem d_M_receiver_10 : decode prog_10_method_44_code 10 = .ok (.invokestatic 101, 3) := by decide +kernel
theorem d_M_receiver_13 : decode prog_10_method_44_code 13 = .ok (.ifCond .ne 6, 3) := by decide +kernel
theorem d_M_receiver_16 : decode prog_10_method_44_code 16 = .ok (.bipush (-2), 2) := by decide +kernel
theorem d_M_receiver_18 : decode prog_10_method_44_code 18 = .ok (.ireturn, 1) := by decide +kernel
theorem d_M_receiver_19 : decode prog_10_method_44_code 19 = .ok (.iload_n 2, 1) := by decide +kernel
theorem d_M_receiver_20 : decode prog_10_method_44_code 20 = .ok (.ifCond .ne 10, 3) := by decide +kernel
theorem d_M_receiver_23 : decode prog_10_method_44_code 23 = .ok (.aload_n 0, 1) := by decide +kernel
theorem d_M_receiver_24 : decode prog_10_method_44_code 24 = .ok (.getfield 68, 3) := by decide +kernel
theorem d_M_receiver_27 : decode prog_10_method_44_code 27 = .ok (.iload_n 1, 1) := by decide +kernel
theorem d_M_receiver_28 : decode prog_10_method_44_code 28 = .ok (.iaload, 1) := by decide +kernel
theorem d_M_receiver_29 : decode prog_10_method_44_code 29 = .ok (.ireturn, 1) := by decide +kernel
theorem d_M_receiver_30 : decode prog_10_method_44_code 30 = .ok (.iload_n 2, 1) := by decide +kernel
theorem d_M_receiver_31 : decode prog_10_method_44_code 31 = .ok (.iconst 1, 1) := by decide +kernel
theorem d_M_receiver_32 : decode prog_10_method_44_code 32 = .ok (.if_icmp .ne 10, 3) := by decide +kernel
theorem d_M_receiver_35 : decode prog_10_method_44_code 35 = .ok (.aload_n 0, 1) := by decide +kernel
theorem d_M_receiver_36 : decode prog_10_method_44_code 36 = .ok (.getfield 71, 3) := by decide +kernel
theorem d_M_receiver_39 : decode prog_10_method_44_code 39 = .ok (.iload_n 1, 1) := by decide +kernel
theorem d_M_receiver_40 : decode prog_10_method_44_code 40 = .ok (.iaload, 1) := by decide +kernel
theorem d_M_receiver_41 : decode prog_10_method_44_code 41 = .ok (.ireturn, 1) := by decide +kernel
theorem d_M_receiver_42 : decode prog_10_method_44_code 42 = .ok (.iconst 0, 1) := by decide +kernel
theorem d_M_receiver_43 : decode prog_10_method_44_code 43 = .ok (.istore_n 3, 1) := by decide +kernel
theorem d_M_receiver_44 : decode prog_10_method_44_code 44 = .ok (.iload_n 2, 1) := by decide +kernel
theorem d_M_receiver_45 : decode prog_10_method_44_code 45 = .ok (.iconst 2, 1) := by decide +kernel
theorem d_M_receiver_46 : decode prog_10_method_44_code 46 = .ok (.if_icmp .ne 40, 3) := by decide +kernel
theorem d_M_receiver_49 : decode prog_10_method_44_code 49 = .ok (.iconst 1, 1) := by decide +kernel
theorem d_M_receiver_50 : decode prog_10_method_44_code 50 = .ok (.istore 4, 2) := by decide +kernel
theorem d_M_receiver_52 : decode prog_10_method_44_code 52 = .ok (.iload 4, 2) := by decide +kernel
theorem d_M_receiver_54 : decode prog_10_method_44_code 54 = .ok (.aload_n 0, 1) := by decide +kernel
theorem d_M_receiver_55 : decode prog_10_method_44_code 55 = .ok (.getfield 148, 3) := by decide +kernel
theorem d_M_receiver_58 : decode prog_10_method_44_code 58 = .ok (.if_icmp .gt 28, 3) := by decide +kernel
theorem d_M_receiver_61 : decode prog_10_method_44_code 61 = .ok (.aload_n 0, 1) := by decide +kernel
theorem d_M_receiver_62 : decode prog_10_method_44_code 62 = .ok (.getfield 74, 3) := by decide +kernel
theorem d_M_receiver_65 : decode prog_10_method_44_code 65 = .ok (.sipush 402, 3) := by decide +kernel
theorem d_M_receiver_68 : decode prog_10_method_44_code 68 = .ok (.iload_n 1, 1) := by decide +kernel
theorem d_M_receiver_69 : decode prog_10_method_44_code 69 = .ok (.imul, 1) := by decide +kernel
theorem d_M_receiver_70 : decode prog_10_method_44_code 70 = .ok (.iload 4, 2) := by decide +kernel
theorem d_M_receiver_72 : decode prog_10_method_44_code 72 = .ok (.iadd, 1) := by decide +kernel
theorem d_M_receiver_73 : decode prog_10_method_44_code 73 = .ok (.baload, 1) := by decide +kernel
theorem d_M_receiver_74 : decode prog_10_method_44_code 74 = .ok (.ifCond .eq 6, 3) := by decide +kernel
theorem d_M_receiver_77 : decode prog_10_method_44_code 77 = .ok (.iinc 3 1, 3) := by decide +kernel
theorem d_M_receiver_80 : decode prog_10_method_44_code 80 = .ok (.iinc 4 1, 3) := by decide +kernel
theorem d_M_receiver_83 : decode prog_10_method_44_code 83 = .ok (.goto (-31), 3) := by decide +kernel
theorem d_M_receiver_86 : decode prog_10_method_44_code 86 = .ok (.iload_n 2, 1) := by decide +kernel
theorem d_M_receiver_87 : decode prog_10_method_44_code 87 = .ok (.iconst 3, 1) := by decide +kernel
theorem d_M_receiver_88 : decode prog_10_method_44_code 88 = .ok (.if_icmp .ne 32, 3) := by decide +kernel
theorem d_M_receiver_91 : decode prog_10_method_44_code 91 = .ok (.iconst 0, 1) := by decide +kernel
theorem d_M_receiver_92 : decode prog_10_method_44_code 92 = .ok (.istore 4, 2) := by decide +kernel
theorem d_M_receiver_94 : decode prog_10_method_44_code 94 = .ok (.iload 4, 2) := by decide +kernel
theorem d_M_receiver_96 : decode prog_10_method_44_code 96 = .ok (.iconst 4, 1) := by decide +kernel
theorem d_M_receiver_97 : decode prog_10_method_44_code 97 = .ok (.if_icmp .ge 23, 3) := by decide +kernel
theorem d_M_receiver_100 : decode prog_10_method_44_code 100 = .ok (.iload_n 3, 1) := by decide +kernel
theorem d_M_receiver_101 : decode prog_10_method_44_code 101 = .ok (.aload_n 0, 1) := by decide +kernel
theorem d_M_receiver_102 : decode prog_10_method_44_code 102 = .ok (.getfield 65, 3) := by decide +kernel
theorem d_M_receiver_105 : decode prog_10_method_44_code 105 = .ok (.iconst 4, 1) := by decide +kernel
theorem d_M_receiver_106 : decode prog_10_method_44_code 106 = .ok (.iload_n 1, 1) := by decide +kernel
theorem d_M_receiver_107 : decode prog_10_method_44_code 107 = .ok (.imul, 1) := by decide +kernel
theorem d_M_receiver_108 : decode prog_10_method_44_code 108 = .ok (.iload 4, 2) := by decide +kernel
theorem d_M_receiver_110 : decode prog_10_method_44_code 110 = .ok (.iadd, 1) := by decide +kernel
theorem d_M_receiver_111 : decode prog_10_method_44_code 111 = .ok (.iaload, 1) := by decide +kernel
theorem d_M_receiver_112 : decode prog_10_method_44_code 112 = .ok (.iadd, 1) := by decide +kernel
theorem d_M_receiver_113 : decode prog_10_method_44_code 113 = .ok (.istore_n 3, 1) := by decide +kernel
theorem d_M_receiver_114 : decode prog_10_method_44_code 114 = .ok (.iinc 4 1, 3) := by decide +kernel
theorem d_M_receiver_117 : decode prog_10_method_44_code 117 = .ok (.goto (-23), 3) := by decide +kernel
theorem d_M_receiver_120 : decode prog_10_method_44_code 120 = .ok (.iload_n 3, 1) := by decide +kernel
theorem d_M_receiver_121 : decode prog_10_method_44_code 121 = .ok (.ireturn, 1) := by decide +kernel
theorem d_M_best_0 : decode prog_10_method_45_code 0 = .ok (.iload_n 1, 1) := by decide +kernel
theorem d_M_best_1 : decode prog_10_method_45_code 1 = .ok (.iload_n 2, 1) := by decide +kernel
theorem d_M_best_2 : decode prog_10_method_45_code 2 = .ok (.invokestatic 207, 3) := by decide +kernel
theorem d_M_best_5 : decode prog_10_method_45_code 5 = .ok (.ifCond .eq 27, 3) := by decide +kernel
theorem d_M_best_8 : decode prog_10_method_45_code 8 = .ok (.iload_n 3, 1) := by decide +kernel
theorem d_M_best_9 : decode prog_10_method_45_code 9 = .ok (.iconst 0, 1) := by decide +kernel
theorem d_M_best_10 : decode prog_10_method_45_code 10 = .ok (.iconst 1, 1) := by decide +kernel
theorem d_M_best_11 : decode prog_10_method_45_code 11 = .ok (.invokestatic 101, 3) := by decide +kernel
theorem d_M_best_14 : decode prog_10_method_45_code 14 = .ok (.ifCond .eq 18, 3) := by decide +kernel
theorem d_M_best_17 : decode prog_10_method_45_code 17 = .ok (.iload 4, 2) := by decide +kernel
theorem d_M_best_19 : decode prog_10_method_45_code 19 = .ok (.ifCond .lt 13, 3) := by decide +kernel
theorem d_M_best_22 : decode prog_10_method_45_code 22 = .ok (.iload 5, 2) := by decide +kernel
theorem d_M_best_24 : decode prog_10_method_45_code 24 = .ok (.iconst 0, 1) := by decide +kernel
theorem d_M_best_25 : decode prog_10_method_45_code 25 = .ok (.iconst 2, 1) := by decide +kernel
theorem d_M_best_26 : decode prog_10_method_45_code 26 = .ok (.invokestatic 101, 3) := by decide +kernel
theorem d_M_best_29 : decode prog_10_method_45_code 29 = .ok (.ifCond .ne 6, 3) := by decide +kernel
theorem d_M_best_32 : decode prog_10_method_45_code 32 = .ok (.ldc 213, 2) := by decide +kernel
theorem d_M_best_34 : decode prog_10_method_45_code 34 = .ok (.ireturn, 1) := by decide +kernel
theorem d_M_best_35 : decode prog_10_method_45_code 35 = .ok (.aload_n 0, 1) := by decide +kernel
theorem d_M_best_36 : decode prog_10_method_45_code 36 = .ok (.iload_n 2, 1) := by decide +kernel
theorem d_M_best_37 : decode prog_10_method_45_code 37 = .ok (.aload_n 0, 1) := by decide +kernel
theorem d_M_best_38 : decode prog_10_method_45_code 38 = .ok (.iload_n 1, 1) := by decide +kernel
theorem d_M_best_39 : decode prog_10_method_45_code 39 = .ok (.iload_n 2, 1) := by decide +kernel
theorem d_M_best_40 : decode prog_10_method_45_code 40 = .ok (.invokevirtual 210, 3) := by decide +kernel
theorem d_M_best_43 : decode prog_10_method_45_code 43 = .ok (.invokevirtual 144, 3) := by decide +kernel
theorem d_M_best_46 : decode prog_10_method_45_code 46 = .ok (.aload_n 0, 1) := by decide +kernel
theorem d_M_best_47 : decode prog_10_method_45_code 47 = .ok (.iload_n 3, 1) := by decide +kernel
theorem d_M_best_48 : decode prog_10_method_45_code 48 = .ok (.iload 4, 2) := by decide +kernel
theorem d_M_best_50 : decode prog_10_method_45_code 50 = .ok (.iload 5, 2) := by decide +kernel
theorem d_M_best_52 : decode prog_10_method_45_code 52 = .ok (.invokevirtual 140, 3) := by decide +kernel
theorem d_M_best_55 : decode prog_10_method_45_code 55 = .ok (.ireturn, 1) := by decide +kernel
theorem d_M_order_0 : decode prog_10_method_46_code 0 = .ok (.iload_n 1, 1) := by decide +kernel
theorem d_M_order_1 : decode prog_10_method_46_code 1 = .ok (.iload_n 2, 1) := by decide +kernel
theorem d_M_order_2 : decode prog_10_method_46_code 2 = .ok (.invokestatic 207, 3) := by decide +kernel
theorem d_M_order_5 : decode prog_10_method_46_code 5 = .ok (.ifCond .eq 23, 3) := by decide +kernel
theorem d_M_order_8 : decode prog_10_method_46_code 8 = .ok (.iload_n 3, 1) := by decide +kernel
theorem d_M_order_9 : decode prog_10_method_46_code 9 = .ok (.iconst 0, 1) := by decide +kernel
theorem d_M_order_10 : decode prog_10_method_46_code 10 = .ok (.iconst 1, 1) := by decide +kernel
theorem d_M_order_11 : decode prog_10_method_46_code 11 = .ok (.invokestatic 101, 3) := by decide +kernel
theorem d_M_order_14 : decode prog_10_method_46_code 14 = .ok (.ifCond .eq 14, 3) := by decide +kernel
theorem d_M_order_17 : decode prog_10_method_46_code 17 = .ok (.iload 4, 2) := by decide +kernel
theorem d_M_order_19 : decode prog_10_method_46_code 19 = .ok (.iconst 0, 1) := by decide +kernel
theorem d_M_order_20 : decode prog_10_method_46_code 20 = .ok (.bipush 23, 2) := by decide +kernel
theorem d_M_order_22 : decode prog_10_method_46_code 22 = .ok (.invokestatic 101, 3) := by decide +kernel
theorem d_M_order_25 : decode prog_10_method_46_code 25 = .ok (.ifCond .ne 6, 3) := by decide +kernel
theorem d_M_order_28 : decode prog_10_method_46_code 28 = .ok (.bipush (-2), 2) := by decide +kernel
theorem d_M_order_30 : decode prog_10_method_46_code 30 = .ok (.ireturn, 1) := by decide +kernel
theorem d_M_order_31 : decode prog_10_method_46_code 31 = .ok (.aload_n 0, 1) := by decide +kernel
theorem d_M_order_32 : decode prog_10_method_46_code 32 = .ok (.iload_n 2, 1) := by decide +kernel
theorem d_M_order_33 : decode prog_10_method_46_code 33 = .ok (.aload_n 0, 1) := by decide +kernel
theorem d_M_order_34 : decode prog_10_method_46_code 34 = .ok (.iload_n 1, 1) := by decide +kernel
theorem d_M_order_35 : decode prog_10_method_46_code 35 = .ok (.iload_n 2, 1) := by decide +kernel
theorem d_M_order_36 : decode prog_10_method_46_code 36 = .ok (.invokevirtual 210, 3) := by decide +kernel
theorem d_M_order_39 : decode prog_10_method_46_code 39 = .ok (.invokevirtual 144, 3) := by decide +kernel
theorem d_M_order_42 : decode prog_10_method_46_code 42 = .ok (.aload_n 0, 1) := by decide +kernel
theorem d_M_order_43 : decode prog_10_method_46_code 43 = .ok (.iload_n 3, 1) := by decide +kernel
theorem d_M_order_44 : decode prog_10_method_46_code 44 = .ok (.iload 4, 2) := by decide +kernel
theorem d_M_order_46 : decode prog_10_method_46_code 46 = .ok (.invokevirtual 132, 3) := by decide +kernel
theorem d_M_order_49 : decode prog_10_method_46_code 49 = .ok (.istore 5, 2) := by decide +kernel
theorem d_M_order_51 : decode prog_10_method_46_code 51 = .ok (.iload 5, 2) := by decide +kernel
theorem d_M_order_53 : decode prog_10_method_46_code 53 = .ok (.ifCond .ge 7, 3) := by decide +kernel
theorem d_M_order_56 : decode prog_10_method_46_code 56 = .ok (.iconst (-1), 1) := by decide +kernel
theorem d_M_order_57 : decode prog_10_method_46_code 57 = .ok (.goto 10, 3) := by decide +kernel
theorem d_M_order_60 : decode prog_10_method_46_code 60 = .ok (.aload_n 0, 1) := by decide +kernel
theorem d_M_order_61 : decode prog_10_method_46_code 61 = .ok (.getfield 37, 3) := by decide +kernel
theorem d_M_order_64 : decode prog_10_method_46_code 64 = .ok (.iload 5, 2) := by decide +kernel
theorem d_M_order_66 : decode prog_10_method_46_code 66 = .ok (.iaload, 1) := by decide +kernel
theorem d_M_order_67 : decode prog_10_method_46_code 67 = .ok (.ireturn, 1) := by decide +kernel
theorem d_M_halted_0 : decode prog_10_method_47_code 0 = .ok (.iload_n 1, 1) := by decide +kernel
theorem d_M_halted_1 : decode prog_10_method_47_code 1 = .ok (.iload_n 2, 1) := by decide +kernel
theorem d_M_halted_2 : decode prog_10_method_47_code 2 = .ok (.invokestatic 207, 3) := by decide +kernel
theorem d_M_halted_5 : decode prog_10_method_47_code 5 = .ok (.ifCond .ne 6, 3) := by decide +kernel
theorem d_M_halted_8 : decode prog_10_method_47_code 8 = .ok (.bipush (-2), 2) := by decide +kernel
theorem d_M_halted_10 : decode prog_10_method_47_code 10 = .ok (.ireturn, 1) := by decide +kernel
theorem d_M_halted_11 : decode prog_10_method_47_code 11 = .ok (.aload_n 0, 1) := by decide +kernel
theorem d_M_halted_12 : decode prog_10_method_47_code 12 = .ok (.iload_n 2, 1) := by decide +kernel
theorem d_M_halted_13 : decode prog_10_method_47_code 13 = .ok (.aload_n 0, 1) := by decide +kernel
theorem d_M_halted_14 : decode prog_10_method_47_code 14 = .ok (.iload_n 1, 1) := by decide +kernel
theorem d_M_halted_15 : decode prog_10_method_47_code 15 = .ok (.iload_n 2, 1) := by decide +kernel
theorem d_M_halted_16 : decode prog_10_method_47_code 16 = .ok (.invokevirtual 210, 3) := by decide +kernel
theorem d_M_halted_19 : decode prog_10_method_47_code 19 = .ok (.invokevirtual 144, 3) := by decide +kernel
theorem d_M_halted_22 : decode prog_10_method_47_code 22 = .ok (.aload_n 0, 1) := by decide +kernel
theorem d_M_halted_23 : decode prog_10_method_47_code 23 = .ok (.getfield 118, 3) := by decide +kernel
theorem d_M_halted_26 : decode prog_10_method_47_code 26 = .ok (.ifCond .eq 7, 3) := by decide +kernel
theorem d_M_halted_29 : decode prog_10_method_47_code 29 = .ok (.iconst 1, 1) := by decide +kernel
theorem d_M_halted_30 : decode prog_10_method_47_code 30 = .ok (.goto 4, 3) := by decide +kernel
theorem d_M_halted_33 : decode prog_10_method_47_code 33 = .ok (.iconst 0, 1) := by decide +kernel
theorem d_M_halted_34 : decode prog_10_method_47_code 34 = .ok (.ireturn, 1) := by decide +kernel
theorem d_M_dirty_0 : decode prog_10_method_48_code 0 = .ok (.iload_n 1, 1) := by decide +kernel
theorem d_M_dirty_1 : decode prog_10_method_48_code 1 = .ok (.invokestatic 192, 3) := by decide +kernel
theorem d_M_dirty_4 : decode prog_10_method_48_code 4 = .ok (.ifCond .eq 12, 3) := by decide +kernel
theorem d_M_dirty_7 : decode prog_10_method_48_code 7 = .ok (.aload_n 0, 1) := by decide +kernel
theorem d_M_dirty_8 : decode prog_10_method_48_code 8 = .ok (.getfield 92, 3) := by decide +kernel
theorem d_M_dirty_11 : decode prog_10_method_48_code 11 = .ok (.iload_n 1, 1) := by decide +kernel
theorem d_M_dirty_12 : decode prog_10_method_48_code 12 = .ok (.iaload, 1) := by decide +kernel
theorem d_M_dirty_13 : decode prog_10_method_48_code 13 = .ok (.goto 5, 3) := by decide +kernel
theorem d_M_dirty_16 : decode prog_10_method_48_code 16 = .ok (.bipush (-2), 2) := by decide +kernel
theorem d_M_dirty_18 : decode prog_10_method_48_code 18 = .ok (.ireturn, 1) := by decide +kernel
end
section
/-! the instructions (by program, from the listing) -/
theorem d_M_read_0 : decode prog_10_method_49_code 0 = .ok (.iload_n 1, 1) := by decide +kernel
theorem d_M_read_1 : decode prog_10_method_49_code 1 = .ok (.invokestatic 192, 3) := by decide +kernel
theorem d_M_read_4 : decode prog_10_method_49_code 4 = .ok (.ifCond .ne 6, 3) := by decide +kernel
theorem d_M_read_7 : decode prog_10_method_49_code 7 = .ok (.bipush (-2), 2) := by decide +kernel
theorem d_M_read_9 : decode prog_10_method_49_code 9 = .ok (.ireturn, 1) := by decide +kernel
theorem d_M_read_10 : decode prog_10_method_49_code 10 = .ok (.aload_n 0, 1) := by decide +kernel
theorem d_M_read_11 : decode prog_10_method_49_code 11 = .ok (.getfield 92, 3) := by decide +kernel
theorem d_M_read_14 : decode prog_10_method_49_code 14 = .ok (.iload_n 1, 1) := by decide +kernel
theorem d_M_read_15 : decode prog_10_method_49_code 15 = .ok (.iaload, 1) := by decide +kernel
theorem d_M_read_16 : decode prog_10_method_49_code 16 = .ok (.ifCond .ne 5, 3) := by decide +kernel
theorem d_M_read_19 : decode prog_10_method_49_code 19 = .ok (.iconst (-1), 1) := by decide +kernel
theorem d_M_read_20 : decode prog_10_method_49_code 20 = .ok (.ireturn, 1) := by decide +kernel
theorem d_M_read_21 : decode prog_10_method_49_code 21 = .ok (.aload_n 0, 1) := by decide +kernel
theorem d_M_read_22 : decode prog_10_method_49_code 22 = .ok (.getfield 89, 3) := by decide +kernel
theorem d_M_read_25 : decode prog_10_method_49_code 25 = .ok (.iconst 4, 1) := by decide +kernel
theorem d_M_read_26 : decode prog_10_method_49_code 26 = .ok (.iload_n 1, 1) := by decide +kernel
theorem d_M_read_27 : decode prog_10_method_49_code 27 = .ok (.imul, 1) := by decide +kernel
theorem d_M_read_28 : decode prog_10_method_49_code 28 = .ok (.iaload, 1) := by decide +kernel
theorem d_M_read_29 : decode prog_10_method_49_code 29 = .ok (.istore_n 2, 1) := by decide +kernel
theorem d_M_read_30 : decode prog_10_method_49_code 30 = .ok (.aload_n 0, 1) := by decide +kernel
theorem d_M_read_31 : decode prog_10_method_49_code 31 = .ok (.getfield 92, 3) := by decide +kernel
theorem d_M_read_34 : decode prog_10_method_49_code 34 = .ok (.iload_n 1, 1) := by decide +kernel
theorem d_M_read_35 : decode prog_10_method_49_code 35 = .ok (.dup2, 1) := by decide +kernel
theorem d_M_read_36 : decode prog_10_method_49_code 36 = .ok (.iaload, 1) := by decide +kernel
theorem d_M_read_37 : decode prog_10_method_49_code 37 = .ok (.iconst 1, 1) := by decide +kernel
theorem d_M_read_38 : decode prog_10_method_49_code 38 = .ok (.isub, 1) := by decide +kernel
theorem d_M_read_39 : decode prog_10_method_49_code 39 = .ok (.iastore, 1) := by decide +kernel
theorem d_M_read_40 : decode prog_10_method_49_code 40 = .ok (.iconst 0, 1) := by decide +kernel
theorem d_M_read_41 : decode prog_10_method_49_code 41 = .ok (.istore_n 3, 1) := by decide +kernel
theorem d_M_read_42 : decode prog_10_method_49_code 42 = .ok (.iload_n 3, 1) := by decide +kernel
theorem d_M_read_43 : decode prog_10_method_49_code 43 = .ok (.aload_n 0, 1) := by decide +kernel
theorem d_M_read_44 : decode prog_10_method_49_code 44 = .ok (.getfield 92, 3) := by decide +kernel
theorem d_M_read_47 : decode prog_10_method_49_code 47 = .ok (.iload_n 1, 1) := by decide +kernel
theorem d_M_read_48 : decode prog_10_method_49_code 48 = .ok (.iaload, 1) := by decide +kernel
theorem d_M_read_49 : decode prog_10_method_49_code 49 = .ok (.if_icmp .ge 31, 3) := by decide +kernel
theorem d_M_read_52 : decode prog_10_method_49_code 52 = .ok (.aload_n 0, 1) := by decide +kernel
theorem d_M_read_53 : decode prog_10_method_49_code 53 = .ok (.getfield 89, 3) := by decide +kernel
theorem d_M_read_56 : decode prog_10_method_49_code 56 = .ok (.iconst 4, 1) := by decide +kernel
theorem d_M_read_57 : decode prog_10_method_49_code 57 = .ok (.iload_n 1, 1) := by decide +kernel
theorem d_M_read_58 : decode prog_10_method_49_code 58 = .ok (.imul, 1) := by decide +kernel
theorem d_M_read_59 : decode prog_10_method_49_code 59 = .ok (.iload_n 3, 1) := by decide +kernel
theorem d_M_read_60 : decode prog_10_method_49_code 60 = .ok (.iadd, 1) := by decide +kernel
theorem d_M_read_61 : decode prog_10_method_49_code 61 = .ok (.aload_n 0, 1) := by decide +kernel
theorem d_M_read_62 : decode prog_10_method_49_code 62 = .ok (.getfield 89, 3) := by decide +kernel
theorem d_M_read_65 : decode prog_10_method_49_code 65 = .ok (.iconst 4, 1) := by decide +kernel
theorem d_M_read_66 : decode prog_10_method_49_code 66 = .ok (.iload_n 1, 1) := by decide +kernel
theorem d_M_read_67 : decode prog_10_method_49_code 67 = .ok (.imul, 1) := by decide +kernel
theorem d_M_read_68 : decode prog_10_method_49_code 68 = .ok (.iload_n 3, 1) := by decide +kernel
theorem d_M_read_69 : decode prog_10_method_49_code 69 = .ok (.iadd, 1) := by decide +kernel
theorem d_M_read_70 : decode prog_10_method_49_code 70 = .ok (.iconst 1, 1) := by decide +kernel
theorem d_M_read_71 : decode prog_10_method_49_code 71 = .ok (.iadd, 1) := by decide +kernel
theorem d_M_read_72 : decode prog_10_method_49_code 72 = .ok (.iaload, 1) := by decide +kernel
theorem d_M_read_73 : decode prog_10_method_49_code 73 = .ok (.iastore, 1) := by decide +kernel
theorem d_M_read_74 : decode prog_10_method_49_code 74 = .ok (.iinc 3 1, 3) := by decide +kernel
theorem d_M_read_77 : decode prog_10_method_49_code 77 = .ok (.goto (-35), 3) := by decide +kernel
theorem d_M_read_80 : decode prog_10_method_49_code 80 = .ok (.aload_n 0, 1) := by decide +kernel
theorem d_M_read_81 : decode prog_10_method_49_code 81 = .ok (.iload_n 2, 1) := by decide +kernel
theorem d_M_read_82 : decode prog_10_method_49_code 82 = .ok (.aload_n 0, 1) := by decide +kernel
theorem d_M_read_83 : decode prog_10_method_49_code 83 = .ok (.getfield 55, 3) := by decide +kernel
theorem d_M_read_86 : decode prog_10_method_49_code 86 = .ok (.iconst 4, 1) := by decide +kernel
theorem d_M_read_87 : decode prog_10_method_49_code 87 = .ok (.iload_n 1, 1) := by decide +kernel
theorem d_M_read_88 : decode prog_10_method_49_code 88 = .ok (.imul, 1) := by decide +kernel
theorem d_M_read_89 : decode prog_10_method_49_code 89 = .ok (.iload_n 2, 1) := by decide +kernel
theorem d_M_read_90 : decode prog_10_method_49_code 90 = .ok (.iadd, 1) := by decide +kernel
theorem d_M_read_91 : decode prog_10_method_49_code 91 = .ok (.iaload, 1) := by decide +kernel
theorem d_M_read_92 : decode prog_10_method_49_code 92 = .ok (.invokevirtual 144, 3) := by decide +kernel
theorem d_M_read_95 : decode prog_10_method_49_code 95 = .ok (.aload_n 0, 1) := by decide +kernel
theorem d_M_read_96 : decode prog_10_method_49_code 96 = .ok (.aload_n 0, 1) := by decide +kernel
theorem d_M_read_97 : decode prog_10_method_49_code 97 = .ok (.getfield 52, 3) := by decide +kernel
theorem d_M_read_100 : decode prog_10_method_49_code 100 = .ok (.invokevirtual 169, 3) := by decide +kernel
theorem d_M_read_103 : decode prog_10_method_49_code 103 = .ok (.iconst 0, 1) := by decide +kernel
theorem d_M_read_104 : decode prog_10_method_49_code 104 = .ok (.istore_n 3, 1) := by decide +kernel
theorem d_M_read_105 : decode prog_10_method_49_code 105 = .ok (.iload_n 3, 1) := by decide +kernel
theorem d_M_read_106 : decode prog_10_method_49_code 106 = .ok (.bipush 19, 2) := by decide +kernel
theorem d_M_read_108 : decode prog_10_method_49_code 108 = .ok (.if_icmp .ge 26, 3) := by decide +kernel
theorem d_M_read_111 : decode prog_10_method_49_code 111 = .ok (.aload_n 0, 1) := by decide +kernel
theorem d_M_read_112 : decode prog_10_method_49_code 112 = .ok (.getfield 95, 3) := by decide +kernel
theorem d_M_read_115 : decode prog_10_method_49_code 115 = .ok (.bipush 19, 2) := by decide +kernel
theorem d_M_read_117 : decode prog_10_method_49_code 117 = .ok (.iload_n 1, 1) := by decide +kernel
theorem d_M_read_118 : decode prog_10_method_49_code 118 = .ok (.imul, 1) := by decide +kernel
theorem d_M_read_119 : decode prog_10_method_49_code 119 = .ok (.iload_n 3, 1) := by decide +kernel
theorem d_M_read_120 : decode prog_10_method_49_code 120 = .ok (.iadd, 1) := by decide +kernel
theorem d_M_read_121 : decode prog_10_method_49_code 121 = .ok (.aload_n 0, 1) := by decide +kernel
theorem d_M_read_122 : decode prog_10_method_49_code 122 = .ok (.getfield 52, 3) := by decide +kernel
theorem d_M_read_125 : decode prog_10_method_49_code 125 = .ok (.iload_n 3, 1) := by decide +kernel
theorem d_M_read_126 : decode prog_10_method_49_code 126 = .ok (.iaload, 1) := by decide +kernel
theorem d_M_read_127 : decode prog_10_method_49_code 127 = .ok (.iastore, 1) := by decide +kernel
theorem d_M_read_128 : decode prog_10_method_49_code 128 = .ok (.iinc 3 1, 3) := by decide +kernel
theorem d_M_read_131 : decode prog_10_method_49_code 131 = .ok (.goto (-26), 3) := by decide +kernel
theorem d_M_read_134 : decode prog_10_method_49_code 134 = .ok (.aload_n 0, 1) := by decide +kernel
theorem d_M_read_135 : decode prog_10_method_49_code 135 = .ok (.getfield 98, 3) := by decide +kernel
theorem d_M_read_138 : decode prog_10_method_49_code 138 = .ok (.iload_n 1, 1) := by decide +kernel
theorem d_M_read_139 : decode prog_10_method_49_code 139 = .ok (.iconst 1, 1) := by decide +kernel
theorem d_M_read_140 : decode prog_10_method_49_code 140 = .ok (.bastore, 1) := by decide +kernel
theorem d_M_read_141 : decode prog_10_method_49_code 141 = .ok (.iload_n 2, 1) := by decide +kernel
theorem d_M_read_142 : decode prog_10_method_49_code 142 = .ok (.ireturn, 1) := by decide +kernel
theorem d_M_view_0 : decode prog_10_method_50_code 0 = .ok (.iload_n 1, 1) := by decide +kernel
theorem d_M_view_1 : decode prog_10_method_50_code 1 = .ok (.invokestatic 192, 3) := by decide +kernel
theorem d_M_view_4 : decode prog_10_method_50_code 4 = .ok (.ifCond .eq 49, 3) := by decide +kernel
theorem d_M_view_7 : decode prog_10_method_50_code 7 = .ok (.iload_n 2, 1) := by decide +kernel
theorem d_M_view_8 : decode prog_10_method_50_code 8 = .ok (.iconst 0, 1) := by decide +kernel
theorem d_M_view_9 : decode prog_10_method_50_code 9 = .ok (.iconst 1, 1) := by decide +kernel
theorem d_M_view_10 : decode prog_10_method_50_code 10 = .ok (.invokestatic 101, 3) := by decide +kernel
theorem d_M_view_13 : decode prog_10_method_50_code 13 = .ok (.ifCond .eq 22, 3) := by decide +kernel
theorem d_M_view_16 : decode prog_10_method_50_code 16 = .ok (.iload_n 3, 1) := by decide +kernel
theorem d_M_view_17 : decode prog_10_method_50_code 17 = .ok (.iconst 0, 1) := by decide +kernel
theorem d_M_view_18 : decode prog_10_method_50_code 18 = .ok (.iconst 2, 1) := by decide +kernel
theorem d_M_view_19 : decode prog_10_method_50_code 19 = .ok (.invokestatic 101, 3) := by decide +kernel
theorem d_M_view_22 : decode prog_10_method_50_code 22 = .ok (.ifCond .eq 13, 3) := by decide +kernel
theorem d_M_view_25 : decode prog_10_method_50_code 25 = .ok (.iload 4, 2) := by decide +kernel
theorem d_M_view_27 : decode prog_10_method_50_code 27 = .ok (.iconst 0, 1) := by decide +kernel
theorem d_M_view_28 : decode prog_10_method_50_code 28 = .ok (.iconst 2, 1) := by decide +kernel
theorem d_M_view_29 : decode prog_10_method_50_code 29 = .ok (.invokestatic 101, 3) := by decide +kernel
theorem d_M_view_32 : decode prog_10_method_50_code 32 = .ok (.ifCond .ne 17, 3) := by decide +kernel
theorem d_M_view_35 : decode prog_10_method_50_code 35 = .ok (.iload_n 2, 1) := by decide +kernel
theorem d_M_view_36 : decode prog_10_method_50_code 36 = .ok (.iconst 2, 1) := by decide +kernel
theorem d_M_view_37 : decode prog_10_method_50_code 37 = .ok (.if_icmp .ne 16, 3) := by decide +kernel
theorem d_M_view_40 : decode prog_10_method_50_code 40 = .ok (.iload_n 3, 1) := by decide +kernel
theorem d_M_view_41 : decode prog_10_method_50_code 41 = .ok (.ifCond .ne 12, 3) := by decide +kernel
theorem d_M_view_44 : decode prog_10_method_50_code 44 = .ok (.iload 4, 2) := by decide +kernel
theorem d_M_view_46 : decode prog_10_method_50_code 46 = .ok (.ifCond .ne 7, 3) := by decide +kernel
theorem d_M_view_49 : decode prog_10_method_50_code 49 = .ok (.iconst 1, 1) := by decide +kernel
theorem d_M_view_50 : decode prog_10_method_50_code 50 = .ok (.goto 4, 3) := by decide +kernel
theorem d_M_view_53 : decode prog_10_method_50_code 53 = .ok (.iconst 0, 1) := by decide +kernel
theorem d_M_view_54 : decode prog_10_method_50_code 54 = .ok (.istore 5, 2) := by decide +kernel
theorem d_M_view_56 : decode prog_10_method_50_code 56 = .ok (.iload 5, 2) := by decide +kernel
theorem d_M_view_58 : decode prog_10_method_50_code 58 = .ok (.ifCond .ne 6, 3) := by decide +kernel
theorem d_M_view_61 : decode prog_10_method_50_code 61 = .ok (.ldc 213, 2) := by decide +kernel
theorem d_M_view_63 : decode prog_10_method_50_code 63 = .ok (.ireturn, 1) := by decide +kernel
theorem d_M_view_64 : decode prog_10_method_50_code 64 = .ok (.aload_n 0, 1) := by decide +kernel
theorem d_M_view_65 : decode prog_10_method_50_code 65 = .ok (.getfield 98, 3) := by decide +kernel
theorem d_M_view_68 : decode prog_10_method_50_code 68 = .ok (.iload_n 1, 1) := by decide +kernel
theorem d_M_view_69 : decode prog_10_method_50_code 69 = .ok (.baload, 1) := by decide +kernel
theorem d_M_view_70 : decode prog_10_method_50_code 70 = .ok (.ifCond .ne 6, 3) := by decide +kernel
theorem d_M_view_73 : decode prog_10_method_50_code 73 = .ok (.ldc 139, 2) := by decide +kernel
theorem d_M_view_75 : decode prog_10_method_50_code 75 = .ok (.ireturn, 1) := by decide +kernel
theorem d_M_view_76 : decode prog_10_method_50_code 76 = .ok (.iload_n 2, 1) := by decide +kernel
theorem d_M_view_77 : decode prog_10_method_50_code 77 = .ok (.iconst 2, 1) := by decide +kernel
theorem d_M_view_78 : decode prog_10_method_50_code 78 = .ok (.if_icmp .ne 18, 3) := by decide +kernel
theorem d_M_view_81 : decode prog_10_method_50_code 81 = .ok (.aload_n 0, 1) := by decide +kernel
theorem d_M_view_82 : decode prog_10_method_50_code 82 = .ok (.getfield 95, 3) := by decide +kernel
theorem d_M_view_85 : decode prog_10_method_50_code 85 = .ok (.bipush 19, 2) := by decide +kernel
theorem d_M_view_87 : decode prog_10_method_50_code 87 = .ok (.iload_n 1, 1) := by decide +kernel
theorem d_M_view_88 : decode prog_10_method_50_code 88 = .ok (.imul, 1) := by decide +kernel
theorem d_M_view_89 : decode prog_10_method_50_code 89 = .ok (.bipush 18, 2) := by decide +kernel
theorem d_M_view_91 : decode prog_10_method_50_code 91 = .ok (.iadd, 1) := by decide +kernel
theorem d_M_view_92 : decode prog_10_method_50_code 92 = .ok (.iaload, 1) := by decide +kernel
theorem d_M_view_93 : decode prog_10_method_50_code 93 = .ok (.goto 24, 3) := by decide +kernel
theorem d_M_view_96 : decode prog_10_method_50_code 96 = .ok (.aload_n 0, 1) := by decide +kernel
theorem d_M_view_97 : decode prog_10_method_50_code 97 = .ok (.getfield 95, 3) := by decide +kernel
theorem d_M_view_100 : decode prog_10_method_50_code 100 = .ok (.bipush 19, 2) := by decide +kernel
theorem d_M_view_102 : decode prog_10_method_50_code 102 = .ok (.iload_n 1, 1) := by decide +kernel
theorem d_M_view_103 : decode prog_10_method_50_code 103 = .ok (.imul, 1) := by decide +kernel
theorem d_M_view_104 : decode prog_10_method_50_code 104 = .ok (.bipush 9, 2) := by decide +kernel
theorem d_M_view_106 : decode prog_10_method_50_code 106 = .ok (.iload_n 2, 1) := by decide +kernel
theorem d_M_view_107 : decode prog_10_method_50_code 107 = .ok (.imul, 1) := by decide +kernel
theorem d_M_view_108 : decode prog_10_method_50_code 108 = .ok (.iadd, 1) := by decide +kernel
theorem d_M_view_109 : decode prog_10_method_50_code 109 = .ok (.iconst 3, 1) := by decide +kernel
theorem d_M_view_110 : decode prog_10_method_50_code 110 = .ok (.iload_n 3, 1) := by decide +kernel
theorem d_M_view_111 : decode prog_10_method_50_code 111 = .ok (.imul, 1) := by decide +kernel
theorem d_M_view_112 : decode prog_10_method_50_code 112 = .ok (.iadd, 1) := by decide +kernel
theorem d_M_view_113 : decode prog_10_method_50_code 113 = .ok (.iload 4, 2) := by decide +kernel
theorem d_M_view_115 : decode prog_10_method_50_code 115 = .ok (.iadd, 1) := by decide +kernel
theorem d_M_view_116 : decode prog_10_method_50_code 116 = .ok (.iaload, 1) := by decide +kernel
theorem d_M_view_117 : decode prog_10_method_50_code 117 = .ok (.ireturn, 1) := by decide +kernel
end
section
/-! links of fields and methods (by program, from the tables) -/
theorem uw_D : ∀ w ∈ u_ws "FeedDesk" ft_D 3, w ∈ WA := by
  intro w hw
  obtain ⟨k, hk, rfl⟩ := List.mem_map.mp hw
  have hk := List.mem_range.mp hk
  match k, hk with
  | 0, _ => exact wa_t 205 (by decide +kernel) rfl
  | 1, _ => exact wa_t 207 (by decide +kernel) rfl
  | 2, _ => exact wa_t 209 (by decide +kernel) rfl
theorem uw_B : ∀ w ∈ u_ws "FeedDesk$Book" ft_B 7, w ∈ WA := by
  intro w hw
  obtain ⟨k, hk, rfl⟩ := List.mem_map.mp hw
  have hk := List.mem_range.mp hk
  match k, hk with
  | 0, _ => exact wa_t 53 (by decide +kernel) rfl
  | 1, _ => exact wa_t 55 (by decide +kernel) rfl
  | 2, _ => exact wa_t 57 (by decide +kernel) rfl
  | 3, _ => exact wa_t 59 (by decide +kernel) rfl
  | 4, _ => exact wa_t 61 (by decide +kernel) rfl
  | 5, _ => exact wa_t 63 (by decide +kernel) rfl
  | 6, _ => exact wa_t 65 (by decide +kernel) rfl
theorem uw_E : ∀ w ∈ u_ws "FeedDesk$Event" ft_E 7, w ∈ WA := by
  intro w hw
  obtain ⟨k, hk, rfl⟩ := List.mem_map.mp hw
  have hk := List.mem_range.mp hk
  match k, hk with
  | 0, _ => exact wa_t 263 (by decide +kernel) rfl
  | 1, _ => exact wa_t 265 (by decide +kernel) rfl
  | 2, _ => exact wa_t 267 (by decide +kernel) rfl
  | 3, _ => exact wa_t 269 (by decide +kernel) rfl
  | 4, _ => exact wa_t 271 (by decide +kernel) rfl
  | 5, _ => exact wa_t 273 (by decide +kernel) rfl
  | 6, _ => exact wa_t 275 (by decide +kernel) rfl
theorem uw_P : ∀ w ∈ u_ws "FeedDesk$Publisher" ft_P 7, w ∈ WA := by
  intro w hw
  obtain ⟨k, hk, rfl⟩ := List.mem_map.mp hw
  have hk := List.mem_range.mp hk
  match k, hk with
  | 0, _ => exact wa_t 99 (by decide +kernel) rfl
  | 1, _ => exact wa_t 101 (by decide +kernel) rfl
  | 2, _ => exact wa_t 103 (by decide +kernel) rfl
  | 3, _ => exact wa_t 105 (by decide +kernel) rfl
  | 4, _ => exact wa_t 107 (by decide +kernel) rfl
  | 5, _ => exact wa_t 109 (by decide +kernel) rfl
  | 6, _ => exact wa_t 111 (by decide +kernel) rfl
theorem uw_W : ∀ w ∈ u_ws "FeedDesk$Reader" ft_W 3, w ∈ WA := by
  intro w hw
  obtain ⟨k, hk, rfl⟩ := List.mem_map.mp hw
  have hk := List.mem_range.mp hk
  match k, hk with
  | 0, _ => exact wa_t 131 (by decide +kernel) rfl
  | 1, _ => exact wa_t 133 (by decide +kernel) rfl
  | 2, _ => exact wa_t 135 (by decide +kernel) rfl
theorem uw_V : ∀ w ∈ u_ws "FeedDesk$Receiver" ft_V 6, w ∈ WA := by
  intro w hw
  obtain ⟨k, hk, rfl⟩ := List.mem_map.mp hw
  have hk := List.mem_range.mp hk
  match k, hk with
  | 0, _ => exact wa_t 189 (by decide +kernel) rfl
  | 1, _ => exact wa_t 191 (by decide +kernel) rfl
  | 2, _ => exact wa_t 193 (by decide +kernel) rfl
  | 3, _ => exact wa_t 195 (by decide +kernel) rfl
  | 4, _ => exact wa_t 197 (by decide +kernel) rfl
  | 5, _ => exact wa_t 199 (by decide +kernel) rfl
theorem uw_S : ∀ w ∈ u_ws "FeedDesk$Snapshot" ft_S 3, w ∈ WA := by
  intro w hw
  obtain ⟨k, hk, rfl⟩ := List.mem_map.mp hw
  have hk := List.mem_range.mp hk
  match k, hk with
  | 0, _ => exact wa_t 82 (by decide +kernel) rfl
  | 1, _ => exact wa_t 84 (by decide +kernel) rfl
  | 2, _ => exact wa_t 86 (by decide +kernel) rfl
theorem uw_T : ∀ w ∈ u_ws "FeedDesk$Track" ft_T 7, w ∈ WA := by
  intro w hw
  obtain ⟨k, hk, rfl⟩ := List.mem_map.mp hw
  have hk := List.mem_range.mp hk
  match k, hk with
  | 0, _ => exact wa_t 164 (by decide +kernel) rfl
  | 1, _ => exact wa_t 166 (by decide +kernel) rfl
  | 2, _ => exact wa_t 168 (by decide +kernel) rfl
  | 3, _ => exact wa_t 170 (by decide +kernel) rfl
  | 4, _ => exact wa_t 172 (by decide +kernel) rfl
  | 5, _ => exact wa_t 174 (by decide +kernel) rfl
  | 6, _ => exact wa_t 176 (by decide +kernel) rfl
theorem uw_M : ∀ w ∈ u_ws "FeedDeskModel" ft_M 35, w ∈ WA := by
  intro w hw
  obtain ⟨k, hk, rfl⟩ := List.mem_map.mp hw
  have hk := List.mem_range.mp hk
  match k, hk with
  | 0, _ => exact wa_t 594 (by decide +kernel) rfl
  | 1, _ => exact wa_t 596 (by decide +kernel) rfl
  | 2, _ => exact wa_t 598 (by decide +kernel) rfl
  | 3, _ => exact wa_t 600 (by decide +kernel) rfl
  | 4, _ => exact wa_t 602 (by decide +kernel) rfl
  | 5, _ => exact wa_t 604 (by decide +kernel) rfl
  | 6, _ => exact wa_t 606 (by decide +kernel) rfl
  | 7, _ => exact wa_t 608 (by decide +kernel) rfl
  | 8, _ => exact wa_t 610 (by decide +kernel) rfl
  | 9, _ => exact wa_t 612 (by decide +kernel) rfl
  | 10, _ => exact wa_t 614 (by decide +kernel) rfl
  | 11, _ => exact wa_t 616 (by decide +kernel) rfl
  | 12, _ => exact wa_t 618 (by decide +kernel) rfl
  | 13, _ => exact wa_t 620 (by decide +kernel) rfl
  | 14, _ => exact wa_t 622 (by decide +kernel) rfl
  | 15, _ => exact wa_t 624 (by decide +kernel) rfl
  | 16, _ => exact wa_t 626 (by decide +kernel) rfl
  | 17, _ => exact wa_t 628 (by decide +kernel) rfl
  | 18, _ => exact wa_t 630 (by decide +kernel) rfl
  | 19, _ => exact wa_t 632 (by decide +kernel) rfl
  | 20, _ => exact wa_t 634 (by decide +kernel) rfl
  | 21, _ => exact wa_t 636 (by decide +kernel) rfl
  | 22, _ => exact wa_t 638 (by decide +kernel) rfl
  | 23, _ => exact wa_t 640 (by decide +kernel) rfl
  | 24, _ => exact wa_t 642 (by decide +kernel) rfl
  | 25, _ => exact wa_t 644 (by decide +kernel) rfl
  | 26, _ => exact wa_t 646 (by decide +kernel) rfl
  | 27, _ => exact wa_t 648 (by decide +kernel) rfl
  | 28, _ => exact wa_t 650 (by decide +kernel) rfl
  | 29, _ => exact wa_t 652 (by decide +kernel) rfl
  | 30, _ => exact wa_t 654 (by decide +kernel) rfl
  | 31, _ => exact wa_t 656 (by decide +kernel) rfl
  | 32, _ => exact wa_t 658 (by decide +kernel) rfl
  | 33, _ => exact wa_t 660 (by decide +kernel) rfl
  | 34, _ => exact wa_t 662 (by decide +kernel) rfl
  | k + 35, h => exact absurd h (by omega)
variable (D : va_G) (dA : Nat → ClassId)
theorem fl_B_9 : fv_FL (fk D dA) WA "FeedDesk$Book" 9 1 0 (.array .int) true := ⟨"FeedDesk$Book", ft_B, 7, ty_B, rfl, by decide, uw_B, rfl, Or.inl (wa_t 42 (by decide +kernel) rfl), tk_B, nm_B, rfl, rfl⟩
theorem fl_B_15 : fv_FL (fk D dA) WA "FeedDesk$Book" 15 1 1 (.array .int) true := ⟨"FeedDesk$Book", ft_B, 7, ty_B, rfl, by decide, uw_B, rfl, Or.inl (wa_t 43 (by decide +kernel) rfl), tk_B, nm_B, rfl, rfl⟩
theorem fl_B_18 : fv_FL (fk D dA) WA "FeedDesk$Book" 18 1 2 (.array .int) true := ⟨"FeedDesk$Book", ft_B, 7, ty_B, rfl, by decide, uw_B, rfl, Or.inl (wa_t 44 (by decide +kernel) rfl), tk_B, nm_B, rfl, rfl⟩
theorem fl_B_21 : fv_FL (fk D dA) WA "FeedDesk$Book" 21 1 3 .int false := ⟨"FeedDesk$Book", ft_B, 7, ty_B, rfl, by decide, uw_B, rfl, Or.inl (wa_t 45 (by decide +kernel) rfl), tk_B, nm_B, rfl, rfl⟩
theorem fl_B_25 : fv_FL (fk D dA) WA "FeedDesk$Book" 25 1 4 .int false := ⟨"FeedDesk$Book", ft_B, 7, ty_B, rfl, by decide, uw_B, rfl, Or.inl (wa_t 46 (by decide +kernel) rfl), tk_B, nm_B, rfl, rfl⟩
theorem fl_B_28 : fv_FL (fk D dA) WA "FeedDesk$Book" 28 1 5 .boolean false := ⟨"FeedDesk$Book", ft_B, 7, ty_B, rfl, by decide, uw_B, rfl, Or.inl (wa_t 48 (by decide +kernel) rfl), tk_B, nm_B, rfl, rfl⟩
theorem fl_B_32 : fv_FL (fk D dA) WA "FeedDesk$Book" 32 1 6 .int false := ⟨"FeedDesk$Book", ft_B, 7, ty_B, rfl, by decide, uw_B, rfl, Or.inl (wa_t 49 (by decide +kernel) rfl), tk_B, nm_B, rfl, rfl⟩
theorem fl_S_12 : fv_FL (fk D dA) WA "FeedDesk$Snapshot" 12 6 0 (.object "FeedDesk$Book") true := ⟨"FeedDesk$Snapshot", ft_S, 3, ty_S, rfl, by decide, uw_S, rfl, Or.inl (wa_t 76 (by decide +kernel) rfl), tk_S, nm_S, rfl, rfl⟩
theorem fl_S_18 : fv_FL (fk D dA) WA "FeedDesk$Snapshot" 18 6 1 .int false := ⟨"FeedDesk$Snapshot", ft_S, 3, ty_S, rfl, by decide, uw_S, rfl, Or.inl (wa_t 78 (by decide +kernel) rfl), tk_S, nm_S, rfl, rfl⟩
theorem fl_S_22 : fv_FL (fk D dA) WA "FeedDesk$Snapshot" 22 6 2 .int false := ⟨"FeedDesk$Snapshot", ft_S, 3, ty_S, rfl, by decide, uw_S, rfl, Or.inl (wa_t 80 (by decide +kernel) rfl), tk_S, nm_S, rfl, rfl⟩
theorem fl_P_11 : fv_FL (fk D dA) WA "FeedDesk$Publisher" 11 3 0 (.array (.object "FeedDesk$Book")) true := ⟨"FeedDesk$Publisher", ft_P, 7, ty_P, rfl, by decide, uw_P, rfl, Or.inl (wa_t 89 (by decide +kernel) rfl), tk_P, nm_P, rfl, rfl⟩
theorem fl_P_19 : fv_FL (fk D dA) WA "FeedDesk$Publisher" 19 3 1 (.array (.object "FeedDesk$Event")) true := ⟨"FeedDesk$Publisher", ft_P, 7, ty_P, rfl, by decide, uw_P, rfl, Or.inl (wa_t 91 (by decide +kernel) rfl), tk_P, nm_P, rfl, rfl⟩
theorem fl_P_23 : fv_FL (fk D dA) WA "FeedDesk$Publisher" 23 3 2 .int false := ⟨"FeedDesk$Publisher", ft_P, 7, ty_P, rfl, by decide, uw_P, rfl, Or.inl (wa_t 93 (by decide +kernel) rfl), tk_P, nm_P, rfl, rfl⟩
theorem fl_P_27 : fv_FL (fk D dA) WA "FeedDesk$Publisher" 27 3 3 (.array .int) true := ⟨"FeedDesk$Publisher", ft_P, 7, ty_P, rfl, by decide, uw_P, rfl, Or.inl (wa_t 94 (by decide +kernel) rfl), tk_P, nm_P, rfl, rfl⟩
theorem fl_P_31 : fv_FL (fk D dA) WA "FeedDesk$Publisher" 31 3 4 .int false := ⟨"FeedDesk$Publisher", ft_P, 7, ty_P, rfl, by decide, uw_P, rfl, Or.inl (wa_t 95 (by decide +kernel) rfl), tk_P, nm_P, rfl, rfl⟩
theorem fl_P_36 : fv_FL (fk D dA) WA "FeedDesk$Publisher" 36 3 5 (.array (.object "FeedDesk$Snapshot")) true := ⟨"FeedDesk$Publisher", ft_P, 7, ty_P, rfl, by decide, uw_P, rfl, Or.inl (wa_t 97 (by decide +kernel) rfl), tk_P, nm_P, rfl, rfl⟩
theorem fl_P_40 : fv_FL (fk D dA) WA "FeedDesk$Publisher" 40 3 6 .int false := ⟨"FeedDesk$Publisher", ft_P, 7, ty_P, rfl, by decide, uw_P, rfl, Or.inl (wa_t 98 (by decide +kernel) rfl), tk_P, nm_P, rfl, rfl⟩
theorem fl_W_9 : fv_FL (fk D dA) WA "FeedDesk$Reader" 9 4 0 (.array .int) true := ⟨"FeedDesk$Reader", ft_W, 3, ty_W, rfl, by decide, uw_W, rfl, Or.inl (wa_t 126 (by decide +kernel) rfl), tk_W, nm_W, rfl, rfl⟩
theorem fl_W_15 : fv_FL (fk D dA) WA "FeedDesk$Reader" 15 4 1 .int false := ⟨"FeedDesk$Reader", ft_W, 3, ty_W, rfl, by decide, uw_W, rfl, Or.inl (wa_t 127 (by decide +kernel) rfl), tk_W, nm_W, rfl, rfl⟩
theorem fl_W_23 : fv_FL (fk D dA) WA "FeedDesk$Reader" 23 4 2 (.array .int) true := ⟨"FeedDesk$Reader", ft_W, 3, ty_W, rfl, by decide, uw_W, rfl, Or.inl (wa_t 129 (by decide +kernel) rfl), tk_W, nm_W, rfl, rfl⟩
theorem fl_T_39 : fv_FL (fk D dA) WA "FeedDesk$Track" 39 7 0 .int true := ⟨"FeedDesk$Track", ft_T, 7, ty_T, rfl, by decide, uw_T, rfl, Or.inl (wa_t 154 (by decide +kernel) rfl), tk_T, nm_T, rfl, rfl⟩
theorem fl_T_42 : fv_FL (fk D dA) WA "FeedDesk$Track" 42 7 1 (.object "FeedDesk$Reader") true := ⟨"FeedDesk$Track", ft_T, 7, ty_T, rfl, by decide, uw_T, rfl, Or.inl (wa_t 155 (by decide +kernel) rfl), tk_T, nm_T, rfl, rfl⟩
theorem fl_T_12 : fv_FL (fk D dA) WA "FeedDesk$Track" 12 7 2 (.object "FeedDesk$Book") true := ⟨"FeedDesk$Track", ft_T, 7, ty_T, rfl, by decide, uw_T, rfl, Or.inl (wa_t 156 (by decide +kernel) rfl), tk_T, nm_T, rfl, rfl⟩
theorem fl_T_22 : fv_FL (fk D dA) WA "FeedDesk$Track" 22 7 3 (.array .int) true := ⟨"FeedDesk$Track", ft_T, 7, ty_T, rfl, by decide, uw_T, rfl, Or.inl (wa_t 158 (by decide +kernel) rfl), tk_T, nm_T, rfl, rfl⟩
theorem fl_T_28 : fv_FL (fk D dA) WA "FeedDesk$Track" 28 7 4 (.array (.object "FeedDesk$Event")) true := ⟨"FeedDesk$Track", ft_T, 7, ty_T, rfl, by decide, uw_T, rfl, Or.inl (wa_t 159 (by decide +kernel) rfl), tk_T, nm_T, rfl, rfl⟩
theorem fl_T_32 : fv_FL (fk D dA) WA "FeedDesk$Track" 32 7 5 .int false := ⟨"FeedDesk$Track", ft_T, 7, ty_T, rfl, by decide, uw_T, rfl, Or.inl (wa_t 160 (by decide +kernel) rfl), tk_T, nm_T, rfl, rfl⟩
theorem fl_T_36 : fv_FL (fk D dA) WA "FeedDesk$Track" 36 7 6 .int false := ⟨"FeedDesk$Track", ft_T, 7, ty_T, rfl, by decide, uw_T, rfl, Or.inl (wa_t 162 (by decide +kernel) rfl), tk_T, nm_T, rfl, rfl⟩
theorem fl_V_31 : fv_FL (fk D dA) WA "FeedDesk$Receiver" 31 5 0 (.object "FeedDesk$Publisher") true := ⟨"FeedDesk$Receiver", ft_V, 6, ty_V, rfl, by decide, uw_V, rfl, Or.inl (wa_t 180 (by decide +kernel) rfl), tk_V, nm_V, rfl, rfl⟩
theorem fl_V_11 : fv_FL (fk D dA) WA "FeedDesk$Receiver" 11 5 1 (.array (.object "FeedDesk$Track")) true := ⟨"FeedDesk$Receiver", ft_V, 6, ty_V, rfl, by decide, uw_V, rfl, Or.inl (wa_t 181 (by decide +kernel) rfl), tk_V, nm_V, rfl, rfl⟩
theorem fl_V_17 : fv_FL (fk D dA) WA "FeedDesk$Receiver" 17 5 2 .int false := ⟨"FeedDesk$Receiver", ft_V, 6, ty_V, rfl, by decide, uw_V, rfl, Or.inl (wa_t 183 (by decide +kernel) rfl), tk_V, nm_V, rfl, rfl⟩
theorem fl_V_21 : fv_FL (fk D dA) WA "FeedDesk$Receiver" 21 5 3 .int false := ⟨"FeedDesk$Receiver", ft_V, 6, ty_V, rfl, by decide, uw_V, rfl, Or.inl (wa_t 185 (by decide +kernel) rfl), tk_V, nm_V, rfl, rfl⟩
theorem fl_V_24 : fv_FL (fk D dA) WA "FeedDesk$Receiver" 24 5 4 (.array .boolean) true := ⟨"FeedDesk$Receiver", ft_V, 6, ty_V, rfl, by decide, uw_V, rfl, Or.inl (wa_t 187 (by decide +kernel) rfl), tk_V, nm_V, rfl, rfl⟩
theorem fl_V_28 : fv_FL (fk D dA) WA "FeedDesk$Receiver" 28 5 5 .int false := ⟨"FeedDesk$Receiver", ft_V, 6, ty_V, rfl, by decide, uw_V, rfl, Or.inl (wa_t 188 (by decide +kernel) rfl), tk_V, nm_V, rfl, rfl⟩
theorem fl_D_24 : fv_FL (fk D dA) WA "FeedDesk" 24 0 0 (.object "FeedDesk$Publisher") true := ⟨"FeedDesk", ft_D, 3, ty_D, rfl, by decide, uw_D, rfl, Or.inl (wa_t 202 (by decide +kernel) rfl), tk_D, nm_D, rfl, rfl⟩
theorem fl_D_11 : fv_FL (fk D dA) WA "FeedDesk" 11 0 1 (.array (.object "FeedDesk$Receiver")) true := ⟨"FeedDesk", ft_D, 3, ty_D, rfl, by decide, uw_D, rfl, Or.inl (wa_t 203 (by decide +kernel) rfl), tk_D, nm_D, rfl, rfl⟩
theorem fl_D_17 : fv_FL (fk D dA) WA "FeedDesk" 17 0 2 (.array (.object "FeedDesk$Reader")) true := ⟨"FeedDesk", ft_D, 3, ty_D, rfl, by decide, uw_D, rfl, Or.inl (wa_t 204 (by decide +kernel) rfl), tk_D, nm_D, rfl, rfl⟩
theorem fl_E_7 : fv_FL (fk D dA) WA "FeedDesk$Event" 7 2 0 .int true := ⟨"FeedDesk$Event", ft_E, 7, ty_E, rfl, by decide, uw_E, rfl, Or.inl (wa_t 248 (by decide +kernel) rfl), tk_E, nm_E, rfl, rfl⟩
theorem fl_B_43 : fv_FL (fk D dA) WA "FeedDesk$Book" 43 2 0 .int true := ⟨"FeedDesk$Event", ft_E, 7, ty_E, rfl, by decide, uw_E, rfl, Or.inl (wa_t 249 (by decide +kernel) rfl), tk_E, nm_E, rfl, rfl⟩
theorem fl_E_13 : fv_FL (fk D dA) WA "FeedDesk$Event" 13 2 1 .int true := ⟨"FeedDesk$Event", ft_E, 7, ty_E, rfl, by decide, uw_E, rfl, Or.inl (wa_t 250 (by decide +kernel) rfl), tk_E, nm_E, rfl, rfl⟩
theorem fl_V_75 : fv_FL (fk D dA) WA "FeedDesk$Receiver" 75 2 1 .int true := ⟨"FeedDesk$Event", ft_E, 7, ty_E, rfl, by decide, uw_E, rfl, Or.inl (wa_t 251 (by decide +kernel) rfl), tk_E, nm_E, rfl, rfl⟩
theorem fl_E_16 : fv_FL (fk D dA) WA "FeedDesk$Event" 16 2 2 .int true := ⟨"FeedDesk$Event", ft_E, 7, ty_E, rfl, by decide, uw_E, rfl, Or.inl (wa_t 252 (by decide +kernel) rfl), tk_E, nm_E, rfl, rfl⟩
theorem fl_T_49 : fv_FL (fk D dA) WA "FeedDesk$Track" 49 2 2 .int true := ⟨"FeedDesk$Event", ft_E, 7, ty_E, rfl, by decide, uw_E, rfl, Or.inl (wa_t 253 (by decide +kernel) rfl), tk_E, nm_E, rfl, rfl⟩
theorem fl_P_59 : fv_FL (fk D dA) WA "FeedDesk$Publisher" 59 2 2 .int true := ⟨"FeedDesk$Event", ft_E, 7, ty_E, rfl, by decide, uw_E, rfl, Or.inl (wa_t 254 (by decide +kernel) rfl), tk_E, nm_E, rfl, rfl⟩
theorem fl_E_19 : fv_FL (fk D dA) WA "FeedDesk$Event" 19 2 3 .int true := ⟨"FeedDesk$Event", ft_E, 7, ty_E, rfl, by decide, uw_E, rfl, Or.inl (wa_t 255 (by decide +kernel) rfl), tk_E, nm_E, rfl, rfl⟩
theorem fl_B_55 : fv_FL (fk D dA) WA "FeedDesk$Book" 55 2 3 .int true := ⟨"FeedDesk$Event", ft_E, 7, ty_E, rfl, by decide, uw_E, rfl, Or.inl (wa_t 256 (by decide +kernel) rfl), tk_E, nm_E, rfl, rfl⟩
theorem fl_E_22 : fv_FL (fk D dA) WA "FeedDesk$Event" 22 2 4 .int true := ⟨"FeedDesk$Event", ft_E, 7, ty_E, rfl, by decide, uw_E, rfl, Or.inl (wa_t 257 (by decide +kernel) rfl), tk_E, nm_E, rfl, rfl⟩
theorem fl_B_62 : fv_FL (fk D dA) WA "FeedDesk$Book" 62 2 4 .int true := ⟨"FeedDesk$Event", ft_E, 7, ty_E, rfl, by decide, uw_E, rfl, Or.inl (wa_t 258 (by decide +kernel) rfl), tk_E, nm_E, rfl, rfl⟩
theorem fl_E_25 : fv_FL (fk D dA) WA "FeedDesk$Event" 25 2 5 .int true := ⟨"FeedDesk$Event", ft_E, 7, ty_E, rfl, by decide, uw_E, rfl, Or.inl (wa_t 259 (by decide +kernel) rfl), tk_E, nm_E, rfl, rfl⟩
theorem fl_B_71 : fv_FL (fk D dA) WA "FeedDesk$Book" 71 2 5 .int true := ⟨"FeedDesk$Event", ft_E, 7, ty_E, rfl, by decide, uw_E, rfl, Or.inl (wa_t 260 (by decide +kernel) rfl), tk_E, nm_E, rfl, rfl⟩
theorem fl_E_28 : fv_FL (fk D dA) WA "FeedDesk$Event" 28 2 6 .int true := ⟨"FeedDesk$Event", ft_E, 7, ty_E, rfl, by decide, uw_E, rfl, Or.inl (wa_t 261 (by decide +kernel) rfl), tk_E, nm_E, rfl, rfl⟩
theorem fl_B_52 : fv_FL (fk D dA) WA "FeedDesk$Book" 52 2 6 .int true := ⟨"FeedDesk$Event", ft_E, 7, ty_E, rfl, by decide, uw_E, rfl, Or.inl (wa_t 262 (by decide +kernel) rfl), tk_E, nm_E, rfl, rfl⟩
theorem fl_M_7 : fv_FL (fk D dA) WA "FeedDeskModel" 7 8 0 (.array .int) true := ⟨"FeedDeskModel", ft_M, 35, ty_M, rfl, by decide, uw_M, rfl, Or.inl (wa_t 559 (by decide +kernel) rfl), tk_M, nm_M, rfl, rfl⟩
theorem fl_M_13 : fv_FL (fk D dA) WA "FeedDeskModel" 13 8 1 (.array .int) true := ⟨"FeedDeskModel", ft_M, 35, ty_M, rfl, by decide, uw_M, rfl, Or.inl (wa_t 560 (by decide +kernel) rfl), tk_M, nm_M, rfl, rfl⟩
theorem fl_M_16 : fv_FL (fk D dA) WA "FeedDeskModel" 16 8 2 (.array .int) true := ⟨"FeedDeskModel", ft_M, 35, ty_M, rfl, by decide, uw_M, rfl, Or.inl (wa_t 561 (by decide +kernel) rfl), tk_M, nm_M, rfl, rfl⟩
theorem fl_M_19 : fv_FL (fk D dA) WA "FeedDeskModel" 19 8 3 (.array .int) true := ⟨"FeedDeskModel", ft_M, 35, ty_M, rfl, by decide, uw_M, rfl, Or.inl (wa_t 562 (by decide +kernel) rfl), tk_M, nm_M, rfl, rfl⟩
theorem fl_M_22 : fv_FL (fk D dA) WA "FeedDeskModel" 22 8 4 (.array .int) true := ⟨"FeedDeskModel", ft_M, 35, ty_M, rfl, by decide, uw_M, rfl, Or.inl (wa_t 563 (by decide +kernel) rfl), tk_M, nm_M, rfl, rfl⟩
theorem fl_M_25 : fv_FL (fk D dA) WA "FeedDeskModel" 25 8 5 (.array .int) true := ⟨"FeedDeskModel", ft_M, 35, ty_M, rfl, by decide, uw_M, rfl, Or.inl (wa_t 564 (by decide +kernel) rfl), tk_M, nm_M, rfl, rfl⟩
theorem fl_M_28 : fv_FL (fk D dA) WA "FeedDeskModel" 28 8 6 (.array .int) true := ⟨"FeedDeskModel", ft_M, 35, ty_M, rfl, by decide, uw_M, rfl, Or.inl (wa_t 565 (by decide +kernel) rfl), tk_M, nm_M, rfl, rfl⟩
theorem fl_M_122 : fv_FL (fk D dA) WA "FeedDeskModel" 122 8 7 .int false := ⟨"FeedDeskModel", ft_M, 35, ty_M, rfl, by decide, uw_M, rfl, Or.inl (wa_t 566 (by decide +kernel) rfl), tk_M, nm_M, rfl, rfl⟩
theorem fl_M_31 : fv_FL (fk D dA) WA "FeedDeskModel" 31 8 8 (.array .int) true := ⟨"FeedDeskModel", ft_M, 35, ty_M, rfl, by decide, uw_M, rfl, Or.inl (wa_t 567 (by decide +kernel) rfl), tk_M, nm_M, rfl, rfl⟩
theorem fl_M_34 : fv_FL (fk D dA) WA "FeedDeskModel" 34 8 9 (.array .int) true := ⟨"FeedDeskModel", ft_M, 35, ty_M, rfl, by decide, uw_M, rfl, Or.inl (wa_t 568 (by decide +kernel) rfl), tk_M, nm_M, rfl, rfl⟩
theorem fl_M_148 : fv_FL (fk D dA) WA "FeedDeskModel" 148 8 10 .int false := ⟨"FeedDeskModel", ft_M, 35, ty_M, rfl, by decide, uw_M, rfl, Or.inl (wa_t 569 (by decide +kernel) rfl), tk_M, nm_M, rfl, rfl⟩
theorem fl_M_37 : fv_FL (fk D dA) WA "FeedDeskModel" 37 8 11 (.array .int) true := ⟨"FeedDeskModel", ft_M, 35, ty_M, rfl, by decide, uw_M, rfl, Or.inl (wa_t 570 (by decide +kernel) rfl), tk_M, nm_M, rfl, rfl⟩
theorem fl_M_40 : fv_FL (fk D dA) WA "FeedDeskModel" 40 8 12 (.array .int) true := ⟨"FeedDeskModel", ft_M, 35, ty_M, rfl, by decide, uw_M, rfl, Or.inl (wa_t 571 (by decide +kernel) rfl), tk_M, nm_M, rfl, rfl⟩
theorem fl_M_43 : fv_FL (fk D dA) WA "FeedDeskModel" 43 8 13 (.array .int) true := ⟨"FeedDeskModel", ft_M, 35, ty_M, rfl, by decide, uw_M, rfl, Or.inl (wa_t 572 (by decide +kernel) rfl), tk_M, nm_M, rfl, rfl⟩
theorem fl_M_46 : fv_FL (fk D dA) WA "FeedDeskModel" 46 8 14 (.array .int) true := ⟨"FeedDeskModel", ft_M, 35, ty_M, rfl, by decide, uw_M, rfl, Or.inl (wa_t 573 (by decide +kernel) rfl), tk_M, nm_M, rfl, rfl⟩
theorem fl_M_106 : fv_FL (fk D dA) WA "FeedDeskModel" 106 8 15 .int false := ⟨"FeedDeskModel", ft_M, 35, ty_M, rfl, by decide, uw_M, rfl, Or.inl (wa_t 574 (by decide +kernel) rfl), tk_M, nm_M, rfl, rfl⟩
theorem fl_M_118 : fv_FL (fk D dA) WA "FeedDeskModel" 118 8 16 .boolean false := ⟨"FeedDeskModel", ft_M, 35, ty_M, rfl, by decide, uw_M, rfl, Or.inl (wa_t 575 (by decide +kernel) rfl), tk_M, nm_M, rfl, rfl⟩
theorem fl_M_49 : fv_FL (fk D dA) WA "FeedDeskModel" 49 8 17 (.array .int) true := ⟨"FeedDeskModel", ft_M, 35, ty_M, rfl, by decide, uw_M, rfl, Or.inl (wa_t 576 (by decide +kernel) rfl), tk_M, nm_M, rfl, rfl⟩
theorem fl_M_52 : fv_FL (fk D dA) WA "FeedDeskModel" 52 8 18 (.array .int) true := ⟨"FeedDeskModel", ft_M, 35, ty_M, rfl, by decide, uw_M, rfl, Or.inl (wa_t 577 (by decide +kernel) rfl), tk_M, nm_M, rfl, rfl⟩
theorem fl_M_55 : fv_FL (fk D dA) WA "FeedDeskModel" 55 8 19 (.array .int) true := ⟨"FeedDeskModel", ft_M, 35, ty_M, rfl, by decide, uw_M, rfl, Or.inl (wa_t 578 (by decide +kernel) rfl), tk_M, nm_M, rfl, rfl⟩
theorem fl_M_58 : fv_FL (fk D dA) WA "FeedDeskModel" 58 8 20 (.array .int) true := ⟨"FeedDeskModel", ft_M, 35, ty_M, rfl, by decide, uw_M, rfl, Or.inl (wa_t 579 (by decide +kernel) rfl), tk_M, nm_M, rfl, rfl⟩
theorem fl_M_61 : fv_FL (fk D dA) WA "FeedDeskModel" 61 8 21 (.array .boolean) true := ⟨"FeedDeskModel", ft_M, 35, ty_M, rfl, by decide, uw_M, rfl, Or.inl (wa_t 580 (by decide +kernel) rfl), tk_M, nm_M, rfl, rfl⟩
theorem fl_M_65 : fv_FL (fk D dA) WA "FeedDeskModel" 65 8 22 (.array .int) true := ⟨"FeedDeskModel", ft_M, 35, ty_M, rfl, by decide, uw_M, rfl, Or.inl (wa_t 581 (by decide +kernel) rfl), tk_M, nm_M, rfl, rfl⟩
theorem fl_M_68 : fv_FL (fk D dA) WA "FeedDeskModel" 68 8 23 (.array .int) true := ⟨"FeedDeskModel", ft_M, 35, ty_M, rfl, by decide, uw_M, rfl, Or.inl (wa_t 582 (by decide +kernel) rfl), tk_M, nm_M, rfl, rfl⟩
theorem fl_M_71 : fv_FL (fk D dA) WA "FeedDeskModel" 71 8 24 (.array .int) true := ⟨"FeedDeskModel", ft_M, 35, ty_M, rfl, by decide, uw_M, rfl, Or.inl (wa_t 583 (by decide +kernel) rfl), tk_M, nm_M, rfl, rfl⟩
theorem fl_M_74 : fv_FL (fk D dA) WA "FeedDeskModel" 74 8 25 (.array .boolean) true := ⟨"FeedDeskModel", ft_M, 35, ty_M, rfl, by decide, uw_M, rfl, Or.inl (wa_t 584 (by decide +kernel) rfl), tk_M, nm_M, rfl, rfl⟩
theorem fl_M_77 : fv_FL (fk D dA) WA "FeedDeskModel" 77 8 26 (.array .int) true := ⟨"FeedDeskModel", ft_M, 35, ty_M, rfl, by decide, uw_M, rfl, Or.inl (wa_t 585 (by decide +kernel) rfl), tk_M, nm_M, rfl, rfl⟩
theorem fl_M_80 : fv_FL (fk D dA) WA "FeedDeskModel" 80 8 27 (.array .int) true := ⟨"FeedDeskModel", ft_M, 35, ty_M, rfl, by decide, uw_M, rfl, Or.inl (wa_t 586 (by decide +kernel) rfl), tk_M, nm_M, rfl, rfl⟩
theorem fl_M_83 : fv_FL (fk D dA) WA "FeedDeskModel" 83 8 28 (.array .int) true := ⟨"FeedDeskModel", ft_M, 35, ty_M, rfl, by decide, uw_M, rfl, Or.inl (wa_t 587 (by decide +kernel) rfl), tk_M, nm_M, rfl, rfl⟩
theorem fl_M_86 : fv_FL (fk D dA) WA "FeedDeskModel" 86 8 29 (.array .int) true := ⟨"FeedDeskModel", ft_M, 35, ty_M, rfl, by decide, uw_M, rfl, Or.inl (wa_t 588 (by decide +kernel) rfl), tk_M, nm_M, rfl, rfl⟩
theorem fl_M_201 : fv_FL (fk D dA) WA "FeedDeskModel" 201 8 30 .int false := ⟨"FeedDeskModel", ft_M, 35, ty_M, rfl, by decide, uw_M, rfl, Or.inl (wa_t 589 (by decide +kernel) rfl), tk_M, nm_M, rfl, rfl⟩
theorem fl_M_89 : fv_FL (fk D dA) WA "FeedDeskModel" 89 8 31 (.array .int) true := ⟨"FeedDeskModel", ft_M, 35, ty_M, rfl, by decide, uw_M, rfl, Or.inl (wa_t 590 (by decide +kernel) rfl), tk_M, nm_M, rfl, rfl⟩
theorem fl_M_92 : fv_FL (fk D dA) WA "FeedDeskModel" 92 8 32 (.array .int) true := ⟨"FeedDeskModel", ft_M, 35, ty_M, rfl, by decide, uw_M, rfl, Or.inl (wa_t 591 (by decide +kernel) rfl), tk_M, nm_M, rfl, rfl⟩
theorem fl_M_95 : fv_FL (fk D dA) WA "FeedDeskModel" 95 8 33 (.array .int) true := ⟨"FeedDeskModel", ft_M, 35, ty_M, rfl, by decide, uw_M, rfl, Or.inl (wa_t 592 (by decide +kernel) rfl), tk_M, nm_M, rfl, rfl⟩
theorem fl_M_98 : fv_FL (fk D dA) WA "FeedDeskModel" 98 8 34 (.array .boolean) true := ⟨"FeedDeskModel", ft_M, 35, ty_M, rfl, by decide, uw_M, rfl, Or.inl (wa_t 593 (by decide +kernel) rfl), tk_M, nm_M, rfl, rfl⟩
theorem fl_S_29 : fv_FL (fk D dA) WA "FeedDesk$Snapshot" 29 1 4 .int false := ⟨"FeedDesk$Book", ft_B, 7, ty_B, rfl, by decide, uw_B, rfl, Or.inr ⟨"FeedDesk", by show _ ∈ fk_NF; decide +kernel⟩, tk_B, nm_B, rfl, rfl⟩
theorem fl_T_46 : fv_FL (fk D dA) WA "FeedDesk$Track" 46 1 6 .int false := ⟨"FeedDesk$Book", ft_B, 7, ty_B, rfl, by decide, uw_B, rfl, Or.inr ⟨"FeedDesk", by show _ ∈ fk_NF; decide +kernel⟩, tk_B, nm_B, rfl, rfl⟩
theorem fl_P_49 : fv_FL (fk D dA) WA "FeedDesk$Publisher" 49 1 6 .int false := ⟨"FeedDesk$Book", ft_B, 7, ty_B, rfl, by decide, uw_B, rfl, Or.inr ⟨"FeedDesk", by show _ ∈ fk_NF; decide +kernel⟩, tk_B, nm_B, rfl, rfl⟩
theorem fl_D_112 : fv_FL (fk D dA) WA "FeedDesk" 112 1 6 .int false := ⟨"FeedDesk$Book", ft_B, 7, ty_B, rfl, by decide, uw_B, rfl, Or.inr ⟨"FeedDesk", by show _ ∈ fk_NF; decide +kernel⟩, tk_B, nm_B, rfl, rfl⟩
theorem fl_T_62 : fv_FL (fk D dA) WA "FeedDesk$Track" 62 6 0 (.object "FeedDesk$Book") true := ⟨"FeedDesk$Snapshot", ft_S, 3, ty_S, rfl, by decide, uw_S, rfl, Or.inr ⟨"FeedDesk", by show _ ∈ fk_NF; decide +kernel⟩, tk_S, nm_S, rfl, rfl⟩
theorem fl_D_91 : fv_FL (fk D dA) WA "FeedDesk" 91 6 1 .int false := ⟨"FeedDesk$Snapshot", ft_S, 3, ty_S, rfl, by decide, uw_S, rfl, Or.inr ⟨"FeedDesk", by show _ ∈ fk_NF; decide +kernel⟩, tk_S, nm_S, rfl, rfl⟩
theorem fl_T_65 : fv_FL (fk D dA) WA "FeedDesk$Track" 65 6 2 .int false := ⟨"FeedDesk$Snapshot", ft_S, 3, ty_S, rfl, by decide, uw_S, rfl, Or.inr ⟨"FeedDesk", by show _ ∈ fk_NF; decide +kernel⟩, tk_S, nm_S, rfl, rfl⟩
theorem fl_D_164 : fv_FL (fk D dA) WA "FeedDesk" 164 3 0 (.array (.object "FeedDesk$Book")) true := ⟨"FeedDesk$Publisher", ft_P, 7, ty_P, rfl, by decide, uw_P, rfl, Or.inr ⟨"FeedDesk", by show _ ∈ fk_NF; decide +kernel⟩, tk_P, nm_P, rfl, rfl⟩
theorem fl_V_71 : fv_FL (fk D dA) WA "FeedDesk$Receiver" 71 3 1 (.array (.object "FeedDesk$Event")) true := ⟨"FeedDesk$Publisher", ft_P, 7, ty_P, rfl, by decide, uw_P, rfl, Or.inr ⟨"FeedDesk", by show _ ∈ fk_NF; decide +kernel⟩, tk_P, nm_P, rfl, rfl⟩
theorem fl_V_61 : fv_FL (fk D dA) WA "FeedDesk$Receiver" 61 3 4 .int false := ⟨"FeedDesk$Publisher", ft_P, 7, ty_P, rfl, by decide, uw_P, rfl, Or.inr ⟨"FeedDesk", by show _ ∈ fk_NF; decide +kernel⟩, tk_P, nm_P, rfl, rfl⟩
theorem fl_D_143 : fv_FL (fk D dA) WA "FeedDesk" 143 4 1 .int false := ⟨"FeedDesk$Reader", ft_W, 3, ty_W, rfl, by decide, uw_W, rfl, Or.inr ⟨"FeedDesk", by show _ ∈ fk_NF; decide +kernel⟩, tk_W, nm_W, rfl, rfl⟩
theorem fl_D_149 : fv_FL (fk D dA) WA "FeedDesk" 149 4 2 (.array .int) true := ⟨"FeedDesk$Reader", ft_W, 3, ty_W, rfl, by decide, uw_W, rfl, Or.inr ⟨"FeedDesk", by show _ ∈ fk_NF; decide +kernel⟩, tk_W, nm_W, rfl, rfl⟩
theorem fl_D_168 : fv_FL (fk D dA) WA "FeedDesk" 168 7 2 (.object "FeedDesk$Book") true := ⟨"FeedDesk$Track", ft_T, 7, ty_T, rfl, by decide, uw_T, rfl, Or.inr ⟨"FeedDesk", by show _ ∈ fk_NF; decide +kernel⟩, tk_T, nm_T, rfl, rfl⟩
theorem fl_V_87 : fv_FL (fk D dA) WA "FeedDesk$Receiver" 87 7 5 .int false := ⟨"FeedDesk$Track", ft_T, 7, ty_T, rfl, by decide, uw_T, rfl, Or.inr ⟨"FeedDesk", by show _ ∈ fk_NF; decide +kernel⟩, tk_T, nm_T, rfl, rfl⟩
theorem fl_V_84 : fv_FL (fk D dA) WA "FeedDesk$Receiver" 84 7 6 .int false := ⟨"FeedDesk$Track", ft_T, 7, ty_T, rfl, by decide, uw_T, rfl, Or.inr ⟨"FeedDesk", by show _ ∈ fk_NF; decide +kernel⟩, tk_T, nm_T, rfl, rfl⟩
theorem fl_D_87 : fv_FL (fk D dA) WA "FeedDesk" 87 5 1 (.array (.object "FeedDesk$Track")) true := ⟨"FeedDesk$Receiver", ft_V, 6, ty_V, rfl, by decide, uw_V, rfl, Or.inr ⟨"FeedDesk", by show _ ∈ fk_NF; decide +kernel⟩, tk_V, nm_V, rfl, rfl⟩
theorem fl_D_117 : fv_FL (fk D dA) WA "FeedDesk" 117 5 2 .int false := ⟨"FeedDesk$Receiver", ft_V, 6, ty_V, rfl, by decide, uw_V, rfl, Or.inr ⟨"FeedDesk", by show _ ∈ fk_NF; decide +kernel⟩, tk_V, nm_V, rfl, rfl⟩
theorem fl_D_120 : fv_FL (fk D dA) WA "FeedDesk" 120 5 3 .int false := ⟨"FeedDesk$Receiver", ft_V, 6, ty_V, rfl, by decide, uw_V, rfl, Or.inr ⟨"FeedDesk", by show _ ∈ fk_NF; decide +kernel⟩, tk_V, nm_V, rfl, rfl⟩
theorem co_D_init : Cond.code m_D_init.1 m_D_init.2.1 m_D_init.2.2.1 m_D_init.2.2.2.1 ∈ WA := wa_t 17 (by decide +kernel) rfl
theorem im_D_init : Cond.instanceMethod m_D_init.1 ∈ WA := wa_t 16 (by decide +kernel) rfl
theorem co_P_init : Cond.code m_P_init.1 m_P_init.2.1 m_P_init.2.2.1 m_P_init.2.2.2.1 ∈ WA := wa_t 29 (by decide +kernel) rfl
theorem im_P_init : Cond.instanceMethod m_P_init.1 ∈ WA := wa_t 28 (by decide +kernel) rfl
theorem co_B_init : Cond.code m_B_init.1 m_B_init.2.1 m_B_init.2.2.1 m_B_init.2.2.2.1 ∈ WA := wa_t 40 (by decide +kernel) rfl
theorem im_B_init : Cond.instanceMethod m_B_init.1 ∈ WA := wa_t 39 (by decide +kernel) rfl
theorem co_S_init : Cond.code m_S_init.1 m_S_init.2.1 m_S_init.2.2.1 m_S_init.2.2.2.1 ∈ WA := wa_t 72 (by decide +kernel) rfl
theorem im_S_init : Cond.instanceMethod m_S_init.1 ∈ WA := wa_t 71 (by decide +kernel) rfl
theorem co_W_init : Cond.code m_W_init.1 m_W_init.2.1 m_W_init.2.2.1 m_W_init.2.2.2.1 ∈ WA := wa_t 117 (by decide +kernel) rfl
theorem im_W_init : Cond.instanceMethod m_W_init.1 ∈ WA := wa_t 116 (by decide +kernel) rfl
theorem co_D_emptyView : Cond.code m_D_emptyView.1 m_D_emptyView.2.1 m_D_emptyView.2.2.1 m_D_emptyView.2.2.2.1 ∈ WA := wa_t 121 (by decide +kernel) rfl
theorem sm_D_emptyView : Cond.static m_D_emptyView.1 ∈ WA := wa_t 120 (by decide +kernel) rfl
theorem co_A_fill : Cond.code m_A_fill.1 m_A_fill.2.1 m_A_fill.2.2.1 m_A_fill.2.2.2.1 ∈ WA := wa_t 125 (by decide +kernel) rfl
theorem sm_A_fill : Cond.static m_A_fill.1 ∈ WA := wa_t 124 (by decide +kernel) rfl
theorem co_V_init : Cond.code m_V_init.1 m_V_init.2.1 m_V_init.2.2.1 m_V_init.2.2.2.1 ∈ WA := wa_t 141 (by decide +kernel) rfl
theorem im_V_init : Cond.instanceMethod m_V_init.1 ∈ WA := wa_t 140 (by decide +kernel) rfl
theorem co_T_init : Cond.code m_T_init.1 m_T_init.2.1 m_T_init.2.2.1 m_T_init.2.2.2.1 ∈ WA := wa_t 148 (by decide +kernel) rfl
theorem im_T_init : Cond.instanceMethod m_T_init.1 ∈ WA := wa_t 147 (by decide +kernel) rfl
theorem co_D_add : Cond.code m_D_add.1 m_D_add.2.1 m_D_add.2.2.1 m_D_add.2.2.2.1 ∈ WA := wa_t 215 (by decide +kernel) rfl
theorem im_D_add : Cond.instanceMethod m_D_add.1 ∈ WA := wa_t 213 (by decide +kernel) rfl
theorem se_D_add : Cond.selects m_D_add.1.cls m_D_add.1 m_D_add.1 ∈ WA := wa_t 214 (by decide +kernel) rfl
theorem co_D_isInstrument : Cond.code m_D_isInstrument.1 m_D_isInstrument.2.1 m_D_isInstrument.2.2.1 m_D_isInstrument.2.2.2.1 ∈ WA := wa_t 218 (by decide +kernel) rfl
theorem sm_D_isInstrument : Cond.static m_D_isInstrument.1 ∈ WA := wa_t 217 (by decide +kernel) rfl
theorem co_D_isCount : Cond.code m_D_isCount.1 m_D_isCount.2.1 m_D_isCount.2.2.1 m_D_isCount.2.2.2.1 ∈ WA := wa_t 221 (by decide +kernel) rfl
theorem sm_D_isCount : Cond.static m_D_isCount.1 ∈ WA := wa_t 220 (by decide +kernel) rfl
theorem co_D_isSide : Cond.code m_D_isSide.1 m_D_isSide.2.1 m_D_isSide.2.2.1 m_D_isSide.2.2.2.1 ∈ WA := wa_t 225 (by decide +kernel) rfl
theorem sm_D_isSide : Cond.static m_D_isSide.1 ∈ WA := wa_t 224 (by decide +kernel) rfl
theorem co_P_offer : Cond.code m_P_offer.1 m_P_offer.2.1 m_P_offer.2.2.1 m_P_offer.2.2.2.1 ∈ WA := wa_t 230 (by decide +kernel) rfl
theorem im_P_offer : Cond.instanceMethod m_P_offer.1 ∈ WA := wa_t 228 (by decide +kernel) rfl
theorem se_P_offer : Cond.selects m_P_offer.1.cls m_P_offer.1 m_P_offer.1 ∈ WA := wa_t 229 (by decide +kernel) rfl
theorem co_B_allows : Cond.code m_B_allows.1 m_B_allows.2.1 m_B_allows.2.2.1 m_B_allows.2.2.2.1 ∈ WA := wa_t 234 (by decide +kernel) rfl
theorem im_B_allows : Cond.instanceMethod m_B_allows.1 ∈ WA := wa_t 232 (by decide +kernel) rfl
theorem se_B_allows : Cond.selects m_B_allows.1.cls m_B_allows.1 m_B_allows.1 ∈ WA := wa_t 233 (by decide +kernel) rfl
theorem co_B_placeOf : Cond.code m_B_placeOf.1 m_B_placeOf.2.1 m_B_placeOf.2.2.1 m_B_placeOf.2.2.2.1 ∈ WA := wa_t 238 (by decide +kernel) rfl
theorem im_B_placeOf : Cond.instanceMethod m_B_placeOf.1 ∈ WA := wa_t 237 (by decide +kernel) rfl
theorem se_B_placeOf : Cond.selects m_B_placeOf.1.cls m_B_placeOf.1 m_B_placeOf.1 ∈ WA := wa_s 0 (by decide +kernel) rfl
theorem co_B_haltValue : Cond.code m_B_haltValue.1 m_B_haltValue.2.1 m_B_haltValue.2.2.1 m_B_haltValue.2.2.2.1 ∈ WA := wa_t 242 (by decide +kernel) rfl
theorem im_B_haltValue : Cond.instanceMethod m_B_haltValue.1 ∈ WA := wa_t 240 (by decide +kernel) rfl
theorem se_B_haltValue : Cond.selects m_B_haltValue.1.cls m_B_haltValue.1 m_B_haltValue.1 ∈ WA := wa_t 241 (by decide +kernel) rfl
theorem co_E_init : Cond.code m_E_init.1 m_E_init.2.1 m_E_init.2.2.1 m_E_init.2.2.2.1 ∈ WA := wa_t 246 (by decide +kernel) rfl
theorem im_E_init : Cond.instanceMethod m_E_init.1 ∈ WA := wa_t 245 (by decide +kernel) rfl
theorem co_B_apply : Cond.code m_B_apply.1 m_B_apply.2.1 m_B_apply.2.2.1 m_B_apply.2.2.2.1 ∈ WA := wa_t 281 (by decide +kernel) rfl
theorem im_B_apply : Cond.instanceMethod m_B_apply.1 ∈ WA := wa_t 279 (by decide +kernel) rfl
theorem se_B_apply : Cond.selects m_B_apply.1.cls m_B_apply.1 m_B_apply.1 ∈ WA := wa_t 280 (by decide +kernel) rfl
theorem co_B_insert : Cond.code m_B_insert.1 m_B_insert.2.1 m_B_insert.2.2.1 m_B_insert.2.2.2.1 ∈ WA := wa_t 285 (by decide +kernel) rfl
theorem im_B_insert : Cond.instanceMethod m_B_insert.1 ∈ WA := wa_t 284 (by decide +kernel) rfl
theorem se_B_insert : Cond.selects m_B_insert.1.cls m_B_insert.1 m_B_insert.1 ∈ WA := wa_s 1 (by decide +kernel) rfl
theorem co_B_startOf : Cond.code m_B_startOf.1 m_B_startOf.2.1 m_B_startOf.2.2.1 m_B_startOf.2.2.2.1 ∈ WA := wa_t 289 (by decide +kernel) rfl
theorem im_B_startOf : Cond.instanceMethod m_B_startOf.1 ∈ WA := wa_t 288 (by decide +kernel) rfl
theorem se_B_startOf : Cond.selects m_B_startOf.1.cls m_B_startOf.1 m_B_startOf.1 ∈ WA := wa_s 2 (by decide +kernel) rfl
theorem co_B_endOf : Cond.code m_B_endOf.1 m_B_endOf.2.1 m_B_endOf.2.2.1 m_B_endOf.2.2.2.1 ∈ WA := wa_t 293 (by decide +kernel) rfl
theorem im_B_endOf : Cond.instanceMethod m_B_endOf.1 ∈ WA := wa_t 292 (by decide +kernel) rfl
theorem se_B_endOf : Cond.selects m_B_endOf.1.cls m_B_endOf.1 m_B_endOf.1 ∈ WA := wa_s 3 (by decide +kernel) rfl
theorem co_B_shrink : Cond.code m_B_shrink.1 m_B_shrink.2.1 m_B_shrink.2.2.1 m_B_shrink.2.2.2.1 ∈ WA := wa_t 300 (by decide +kernel) rfl
theorem im_B_shrink : Cond.instanceMethod m_B_shrink.1 ∈ WA := wa_t 299 (by decide +kernel) rfl
theorem se_B_shrink : Cond.selects m_B_shrink.1.cls m_B_shrink.1 m_B_shrink.1 ∈ WA := wa_s 4 (by decide +kernel) rfl
theorem co_B_sizeLeft : Cond.code m_B_sizeLeft.1 m_B_sizeLeft.2.1 m_B_sizeLeft.2.2.1 m_B_sizeLeft.2.2.2.1 ∈ WA := wa_t 303 (by decide +kernel) rfl
theorem sm_B_sizeLeft : Cond.static m_B_sizeLeft.1 ∈ WA := wa_t 302 (by decide +kernel) rfl
theorem co_D_change : Cond.code m_D_change.1 m_D_change.2.1 m_D_change.2.2.1 m_D_change.2.2.2.1 ∈ WA := wa_t 307 (by decide +kernel) rfl
theorem im_D_change : Cond.instanceMethod m_D_change.1 ∈ WA := wa_t 305 (by decide +kernel) rfl
theorem se_D_change : Cond.selects m_D_change.1.cls m_D_change.1 m_D_change.1 ∈ WA := wa_t 306 (by decide +kernel) rfl
theorem co_D_execute : Cond.code m_D_execute.1 m_D_execute.2.1 m_D_execute.2.2.1 m_D_execute.2.2.2.1 ∈ WA := wa_t 311 (by decide +kernel) rfl
theorem im_D_execute : Cond.instanceMethod m_D_execute.1 ∈ WA := wa_t 309 (by decide +kernel) rfl
theorem se_D_execute : Cond.selects m_D_execute.1.cls m_D_execute.1 m_D_execute.1 ∈ WA := wa_t 310 (by decide +kernel) rfl
theorem co_D_cancel : Cond.code m_D_cancel.1 m_D_cancel.2.1 m_D_cancel.2.2.1 m_D_cancel.2.2.2.1 ∈ WA := wa_t 315 (by decide +kernel) rfl
theorem im_D_cancel : Cond.instanceMethod m_D_cancel.1 ∈ WA := wa_t 313 (by decide +kernel) rfl
theorem se_D_cancel : Cond.selects m_D_cancel.1.cls m_D_cancel.1 m_D_cancel.1 ∈ WA := wa_t 314 (by decide +kernel) rfl
theorem co_D_halt : Cond.code m_D_halt.1 m_D_halt.2.1 m_D_halt.2.2.1 m_D_halt.2.2.2.1 ∈ WA := wa_t 319 (by decide +kernel) rfl
theorem im_D_halt : Cond.instanceMethod m_D_halt.1 ∈ WA := wa_t 317 (by decide +kernel) rfl
theorem se_D_halt : Cond.selects m_D_halt.1.cls m_D_halt.1 m_D_halt.1 ∈ WA := wa_t 318 (by decide +kernel) rfl
theorem co_D_clear : Cond.code m_D_clear.1 m_D_clear.2.1 m_D_clear.2.2.1 m_D_clear.2.2.2.1 ∈ WA := wa_t 323 (by decide +kernel) rfl
theorem im_D_clear : Cond.instanceMethod m_D_clear.1 ∈ WA := wa_t 321 (by decide +kernel) rfl
theorem se_D_clear : Cond.selects m_D_clear.1.cls m_D_clear.1 m_D_clear.1 ∈ WA := wa_t 322 (by decide +kernel) rfl
theorem co_D_publish : Cond.code m_D_publish.1 m_D_publish.2.1 m_D_publish.2.2.1 m_D_publish.2.2.2.1 ∈ WA := wa_t 327 (by decide +kernel) rfl
theorem im_D_publish : Cond.instanceMethod m_D_publish.1 ∈ WA := wa_t 325 (by decide +kernel) rfl
theorem se_D_publish : Cond.selects m_D_publish.1.cls m_D_publish.1 m_D_publish.1 ∈ WA := wa_t 326 (by decide +kernel) rfl
theorem co_P_closePacket : Cond.code m_P_closePacket.1 m_P_closePacket.2.1 m_P_closePacket.2.2.1 m_P_closePacket.2.2.2.1 ∈ WA := wa_t 331 (by decide +kernel) rfl
theorem im_P_closePacket : Cond.instanceMethod m_P_closePacket.1 ∈ WA := wa_t 329 (by decide +kernel) rfl
theorem se_P_closePacket : Cond.selects m_P_closePacket.1.cls m_P_closePacket.1 m_P_closePacket.1 ∈ WA := wa_t 330 (by decide +kernel) rfl
theorem co_D_packetByte : Cond.code m_D_packetByte.1 m_D_packetByte.2.1 m_D_packetByte.2.2.1 m_D_packetByte.2.2.2.1 ∈ WA := wa_t 335 (by decide +kernel) rfl
theorem im_D_packetByte : Cond.instanceMethod m_D_packetByte.1 ∈ WA := wa_t 333 (by decide +kernel) rfl
theorem se_D_packetByte : Cond.selects m_D_packetByte.1.cls m_D_packetByte.1 m_D_packetByte.1 ∈ WA := wa_t 334 (by decide +kernel) rfl
theorem co_P_byteOfPacket : Cond.code m_P_byteOfPacket.1 m_P_byteOfPacket.2.1 m_P_byteOfPacket.2.2.1 m_P_byteOfPacket.2.2.2.1 ∈ WA := wa_t 339 (by decide +kernel) rfl
theorem im_P_byteOfPacket : Cond.instanceMethod m_P_byteOfPacket.1 ∈ WA := wa_t 337 (by decide +kernel) rfl
theorem se_P_byteOfPacket : Cond.selects m_P_byteOfPacket.1.cls m_P_byteOfPacket.1 m_P_byteOfPacket.1 ∈ WA := wa_t 338 (by decide +kernel) rfl
theorem co_P_isClosed : Cond.code m_P_isClosed.1 m_P_isClosed.2.1 m_P_isClosed.2.2.1 m_P_isClosed.2.2.2.1 ∈ WA := wa_t 343 (by decide +kernel) rfl
theorem im_P_isClosed : Cond.instanceMethod m_P_isClosed.1 ∈ WA := wa_t 341 (by decide +kernel) rfl
theorem se_P_isClosed : Cond.selects m_P_isClosed.1.cls m_P_isClosed.1 m_P_isClosed.1 ∈ WA := wa_t 342 (by decide +kernel) rfl
theorem co_E_byteOf : Cond.code m_E_byteOf.1 m_E_byteOf.2.1 m_E_byteOf.2.2.1 m_E_byteOf.2.2.2.1 ∈ WA := wa_t 346 (by decide +kernel) rfl
theorem sm_E_byteOf : Cond.static m_E_byteOf.1 ∈ WA := wa_t 345 (by decide +kernel) rfl
theorem co_P_endOf : Cond.code m_P_endOf.1 m_P_endOf.2.1 m_P_endOf.2.2.1 m_P_endOf.2.2.2.1 ∈ WA := wa_t 350 (by decide +kernel) rfl
theorem im_P_endOf : Cond.instanceMethod m_P_endOf.1 ∈ WA := wa_t 348 (by decide +kernel) rfl
theorem se_P_endOf : Cond.selects m_P_endOf.1.cls m_P_endOf.1 m_P_endOf.1 ∈ WA := wa_t 349 (by decide +kernel) rfl
theorem co_P_startOf : Cond.code m_P_startOf.1 m_P_startOf.2.1 m_P_startOf.2.2.1 m_P_startOf.2.2.2.1 ∈ WA := wa_t 354 (by decide +kernel) rfl
theorem im_P_startOf : Cond.instanceMethod m_P_startOf.1 ∈ WA := wa_t 352 (by decide +kernel) rfl
theorem se_P_startOf : Cond.selects m_P_startOf.1.cls m_P_startOf.1 m_P_startOf.1 ∈ WA := wa_t 353 (by decide +kernel) rfl
theorem co_E_byteAt : Cond.code m_E_byteAt.1 m_E_byteAt.2.1 m_E_byteAt.2.2.1 m_E_byteAt.2.2.2.1 ∈ WA := wa_t 358 (by decide +kernel) rfl
theorem im_E_byteAt : Cond.instanceMethod m_E_byteAt.1 ∈ WA := wa_t 356 (by decide +kernel) rfl
theorem se_E_byteAt : Cond.selects m_E_byteAt.1.cls m_E_byteAt.1 m_E_byteAt.1 ∈ WA := wa_t 357 (by decide +kernel) rfl
theorem co_D_line : Cond.code m_D_line.1 m_D_line.2.1 m_D_line.2.2.1 m_D_line.2.2.2.1 ∈ WA := wa_t 363 (by decide +kernel) rfl
theorem im_D_line : Cond.instanceMethod m_D_line.1 ∈ WA := wa_t 361 (by decide +kernel) rfl
theorem se_D_line : Cond.selects m_D_line.1.cls m_D_line.1 m_D_line.1 ∈ WA := wa_t 362 (by decide +kernel) rfl
theorem co_D_isReceiver : Cond.code m_D_isReceiver.1 m_D_isReceiver.2.1 m_D_isReceiver.2.2.1 m_D_isReceiver.2.2.2.1 ∈ WA := wa_t 367 (by decide +kernel) rfl
theorem sm_D_isReceiver : Cond.static m_D_isReceiver.1 ∈ WA := wa_t 366 (by decide +kernel) rfl
theorem co_V_hear : Cond.code m_V_hear.1 m_V_hear.2.1 m_V_hear.2.2.1 m_V_hear.2.2.2.1 ∈ WA := wa_t 371 (by decide +kernel) rfl
theorem im_V_hear : Cond.instanceMethod m_V_hear.1 ∈ WA := wa_t 369 (by decide +kernel) rfl
theorem se_V_hear : Cond.selects m_V_hear.1.cls m_V_hear.1 m_V_hear.1 ∈ WA := wa_t 370 (by decide +kernel) rfl
theorem co_V_passThrough : Cond.code m_V_passThrough.1 m_V_passThrough.2.1 m_V_passThrough.2.2.1 m_V_passThrough.2.2.2.1 ∈ WA := wa_t 378 (by decide +kernel) rfl
theorem im_V_passThrough : Cond.instanceMethod m_V_passThrough.1 ∈ WA := wa_t 377 (by decide +kernel) rfl
theorem se_V_passThrough : Cond.selects m_V_passThrough.1.cls m_V_passThrough.1 m_V_passThrough.1 ∈ WA := wa_s 5 (by decide +kernel) rfl
theorem co_T_take : Cond.code m_T_take.1 m_T_take.2.1 m_T_take.2.2.1 m_T_take.2.2.2.1 ∈ WA := wa_t 384 (by decide +kernel) rfl
theorem im_T_take : Cond.instanceMethod m_T_take.1 ∈ WA := wa_t 382 (by decide +kernel) rfl
theorem se_T_take : Cond.selects m_T_take.1.cls m_T_take.1 m_T_take.1 ∈ WA := wa_t 383 (by decide +kernel) rfl
theorem co_T_follow : Cond.code m_T_follow.1 m_T_follow.2.1 m_T_follow.2.2.1 m_T_follow.2.2.2.1 ∈ WA := wa_t 389 (by decide +kernel) rfl
theorem im_T_follow : Cond.instanceMethod m_T_follow.1 ∈ WA := wa_t 388 (by decide +kernel) rfl
theorem se_T_follow : Cond.selects m_T_follow.1.cls m_T_follow.1 m_T_follow.1 ∈ WA := wa_s 6 (by decide +kernel) rfl
theorem co_B_refresh : Cond.code m_B_refresh.1 m_B_refresh.2.1 m_B_refresh.2.2.1 m_B_refresh.2.2.2.1 ∈ WA := wa_t 393 (by decide +kernel) rfl
theorem im_B_refresh : Cond.instanceMethod m_B_refresh.1 ∈ WA := wa_t 391 (by decide +kernel) rfl
theorem se_B_refresh : Cond.selects m_B_refresh.1.cls m_B_refresh.1 m_B_refresh.1 ∈ WA := wa_t 392 (by decide +kernel) rfl
theorem co_B_levelValue : Cond.code m_B_levelValue.1 m_B_levelValue.2.1 m_B_levelValue.2.2.1 m_B_levelValue.2.2.2.1 ∈ WA := wa_t 397 (by decide +kernel) rfl
theorem im_B_levelValue : Cond.instanceMethod m_B_levelValue.1 ∈ WA := wa_t 395 (by decide +kernel) rfl
theorem se_B_levelValue : Cond.selects m_B_levelValue.1.cls m_B_levelValue.1 m_B_levelValue.1 ∈ WA := wa_t 396 (by decide +kernel) rfl
theorem co_W_mark : Cond.code m_W_mark.1 m_W_mark.2.1 m_W_mark.2.2.1 m_W_mark.2.2.2.1 ∈ WA := wa_t 402 (by decide +kernel) rfl
theorem im_W_mark : Cond.instanceMethod m_W_mark.1 ∈ WA := wa_t 400 (by decide +kernel) rfl
theorem se_W_mark : Cond.selects m_W_mark.1.cls m_W_mark.1 m_W_mark.1 ∈ WA := wa_t 401 (by decide +kernel) rfl
theorem co_T_takeHeld : Cond.code m_T_takeHeld.1 m_T_takeHeld.2.1 m_T_takeHeld.2.2.1 m_T_takeHeld.2.2.2.1 ∈ WA := wa_t 406 (by decide +kernel) rfl
theorem im_T_takeHeld : Cond.instanceMethod m_T_takeHeld.1 ∈ WA := wa_t 405 (by decide +kernel) rfl
theorem se_T_takeHeld : Cond.selects m_T_takeHeld.1.cls m_T_takeHeld.1 m_T_takeHeld.1 ∈ WA := wa_s 7 (by decide +kernel) rfl
theorem co_T_hold : Cond.code m_T_hold.1 m_T_hold.2.1 m_T_hold.2.2.1 m_T_hold.2.2.2.1 ∈ WA := wa_t 410 (by decide +kernel) rfl
theorem im_T_hold : Cond.instanceMethod m_T_hold.1 ∈ WA := wa_t 409 (by decide +kernel) rfl
theorem se_T_hold : Cond.selects m_T_hold.1.cls m_T_hold.1 m_T_hold.1 ∈ WA := wa_s 8 (by decide +kernel) rfl
theorem co_D_askReplay : Cond.code m_D_askReplay.1 m_D_askReplay.2.1 m_D_askReplay.2.2.1 m_D_askReplay.2.2.2.1 ∈ WA := wa_t 414 (by decide +kernel) rfl
theorem im_D_askReplay : Cond.instanceMethod m_D_askReplay.1 ∈ WA := wa_t 412 (by decide +kernel) rfl
theorem se_D_askReplay : Cond.selects m_D_askReplay.1.cls m_D_askReplay.1 m_D_askReplay.1 ∈ WA := wa_t 413 (by decide +kernel) rfl
theorem co_V_ask : Cond.code m_V_ask.1 m_V_ask.2.1 m_V_ask.2.2.1 m_V_ask.2.2.2.1 ∈ WA := wa_t 418 (by decide +kernel) rfl
theorem im_V_ask : Cond.instanceMethod m_V_ask.1 ∈ WA := wa_t 416 (by decide +kernel) rfl
theorem se_V_ask : Cond.selects m_V_ask.1.cls m_V_ask.1 m_V_ask.1 ∈ WA := wa_t 417 (by decide +kernel) rfl
theorem co_V_lastOfGap : Cond.code m_V_lastOfGap.1 m_V_lastOfGap.2.1 m_V_lastOfGap.2.2.1 m_V_lastOfGap.2.2.2.1 ∈ WA := wa_t 422 (by decide +kernel) rfl
theorem im_V_lastOfGap : Cond.instanceMethod m_V_lastOfGap.1 ∈ WA := wa_t 421 (by decide +kernel) rfl
theorem se_V_lastOfGap : Cond.selects m_V_lastOfGap.1.cls m_V_lastOfGap.1 m_V_lastOfGap.1 ∈ WA := wa_s 9 (by decide +kernel) rfl
theorem co_D_serveReplay : Cond.code m_D_serveReplay.1 m_D_serveReplay.2.1 m_D_serveReplay.2.2.1 m_D_serveReplay.2.2.2.1 ∈ WA := wa_t 426 (by decide +kernel) rfl
theorem im_D_serveReplay : Cond.instanceMethod m_D_serveReplay.1 ∈ WA := wa_t 424 (by decide +kernel) rfl
theorem se_D_serveReplay : Cond.selects m_D_serveReplay.1.cls m_D_serveReplay.1 m_D_serveReplay.1 ∈ WA := wa_t 425 (by decide +kernel) rfl
theorem co_V_takeAnswer : Cond.code m_V_takeAnswer.1 m_V_takeAnswer.2.1 m_V_takeAnswer.2.2.1 m_V_takeAnswer.2.2.2.1 ∈ WA := wa_t 430 (by decide +kernel) rfl
theorem im_V_takeAnswer : Cond.instanceMethod m_V_takeAnswer.1 ∈ WA := wa_t 428 (by decide +kernel) rfl
theorem se_V_takeAnswer : Cond.selects m_V_takeAnswer.1.cls m_V_takeAnswer.1 m_V_takeAnswer.1 ∈ WA := wa_t 429 (by decide +kernel) rfl
theorem co_P_canReplayFrom : Cond.code m_P_canReplayFrom.1 m_P_canReplayFrom.2.1 m_P_canReplayFrom.2.2.1 m_P_canReplayFrom.2.2.2.1 ∈ WA := wa_t 434 (by decide +kernel) rfl
theorem im_P_canReplayFrom : Cond.instanceMethod m_P_canReplayFrom.1 ∈ WA := wa_t 432 (by decide +kernel) rfl
theorem se_P_canReplayFrom : Cond.selects m_P_canReplayFrom.1.cls m_P_canReplayFrom.1 m_P_canReplayFrom.1 ∈ WA := wa_t 433 (by decide +kernel) rfl
theorem co_V_giveUp : Cond.code m_V_giveUp.1 m_V_giveUp.2.1 m_V_giveUp.2.2.1 m_V_giveUp.2.2.2.1 ∈ WA := wa_t 438 (by decide +kernel) rfl
theorem im_V_giveUp : Cond.instanceMethod m_V_giveUp.1 ∈ WA := wa_t 437 (by decide +kernel) rfl
theorem se_V_giveUp : Cond.selects m_V_giveUp.1.cls m_V_giveUp.1 m_V_giveUp.1 ∈ WA := wa_s 10 (by decide +kernel) rfl
theorem co_D_snapshotTurn : Cond.code m_D_snapshotTurn.1 m_D_snapshotTurn.2.1 m_D_snapshotTurn.2.2.1 m_D_snapshotTurn.2.2.2.1 ∈ WA := wa_t 442 (by decide +kernel) rfl
theorem im_D_snapshotTurn : Cond.instanceMethod m_D_snapshotTurn.1 ∈ WA := wa_t 440 (by decide +kernel) rfl
theorem se_D_snapshotTurn : Cond.selects m_D_snapshotTurn.1.cls m_D_snapshotTurn.1 m_D_snapshotTurn.1 ∈ WA := wa_t 441 (by decide +kernel) rfl
theorem co_P_makeSnapshot : Cond.code m_P_makeSnapshot.1 m_P_makeSnapshot.2.1 m_P_makeSnapshot.2.2.1 m_P_makeSnapshot.2.2.2.1 ∈ WA := wa_t 446 (by decide +kernel) rfl
theorem im_P_makeSnapshot : Cond.instanceMethod m_P_makeSnapshot.1 ∈ WA := wa_t 444 (by decide +kernel) rfl
theorem se_P_makeSnapshot : Cond.selects m_P_makeSnapshot.1.cls m_P_makeSnapshot.1 m_P_makeSnapshot.1 ∈ WA := wa_t 445 (by decide +kernel) rfl
theorem co_P_snapshot : Cond.code m_P_snapshot.1 m_P_snapshot.2.1 m_P_snapshot.2.2.1 m_P_snapshot.2.2.2.1 ∈ WA := wa_t 450 (by decide +kernel) rfl
theorem im_P_snapshot : Cond.instanceMethod m_P_snapshot.1 ∈ WA := wa_t 448 (by decide +kernel) rfl
theorem se_P_snapshot : Cond.selects m_P_snapshot.1.cls m_P_snapshot.1 m_P_snapshot.1 ∈ WA := wa_t 449 (by decide +kernel) rfl
theorem co_S_fix : Cond.code m_S_fix.1 m_S_fix.2.1 m_S_fix.2.2.1 m_S_fix.2.2.2.1 ∈ WA := wa_t 454 (by decide +kernel) rfl
theorem im_S_fix : Cond.instanceMethod m_S_fix.1 ∈ WA := wa_t 452 (by decide +kernel) rfl
theorem se_S_fix : Cond.selects m_S_fix.1.cls m_S_fix.1 m_S_fix.1 ∈ WA := wa_t 453 (by decide +kernel) rfl
theorem co_B_become : Cond.code m_B_become.1 m_B_become.2.1 m_B_become.2.2.1 m_B_become.2.2.2.1 ∈ WA := wa_t 458 (by decide +kernel) rfl
theorem im_B_become : Cond.instanceMethod m_B_become.1 ∈ WA := wa_t 456 (by decide +kernel) rfl
theorem se_B_become : Cond.selects m_B_become.1.cls m_B_become.1 m_B_become.1 ∈ WA := wa_t 457 (by decide +kernel) rfl
theorem co_D_hearSnapshot : Cond.code m_D_hearSnapshot.1 m_D_hearSnapshot.2.1 m_D_hearSnapshot.2.2.1 m_D_hearSnapshot.2.2.2.1 ∈ WA := wa_t 462 (by decide +kernel) rfl
theorem im_D_hearSnapshot : Cond.instanceMethod m_D_hearSnapshot.1 ∈ WA := wa_t 460 (by decide +kernel) rfl
theorem se_D_hearSnapshot : Cond.selects m_D_hearSnapshot.1.cls m_D_hearSnapshot.1 m_D_hearSnapshot.1 ∈ WA := wa_t 461 (by decide +kernel) rfl
theorem co_P_canHear : Cond.code m_P_canHear.1 m_P_canHear.2.1 m_P_canHear.2.2.1 m_P_canHear.2.2.2.1 ∈ WA := wa_t 466 (by decide +kernel) rfl
theorem im_P_canHear : Cond.instanceMethod m_P_canHear.1 ∈ WA := wa_t 464 (by decide +kernel) rfl
theorem se_P_canHear : Cond.selects m_P_canHear.1.cls m_P_canHear.1 m_P_canHear.1 ∈ WA := wa_t 465 (by decide +kernel) rfl
theorem co_S_hasPiece : Cond.code m_S_hasPiece.1 m_S_hasPiece.2.1 m_S_hasPiece.2.2.1 m_S_hasPiece.2.2.2.1 ∈ WA := wa_t 471 (by decide +kernel) rfl
theorem im_S_hasPiece : Cond.instanceMethod m_S_hasPiece.1 ∈ WA := wa_t 469 (by decide +kernel) rfl
theorem se_S_hasPiece : Cond.selects m_S_hasPiece.1.cls m_S_hasPiece.1 m_S_hasPiece.1 ∈ WA := wa_t 470 (by decide +kernel) rfl
theorem co_T_restore : Cond.code m_T_restore.1 m_T_restore.2.1 m_T_restore.2.2.1 m_T_restore.2.2.2.1 ∈ WA := wa_t 476 (by decide +kernel) rfl
theorem im_T_restore : Cond.instanceMethod m_T_restore.1 ∈ WA := wa_t 474 (by decide +kernel) rfl
theorem se_T_restore : Cond.selects m_T_restore.1.cls m_T_restore.1 m_T_restore.1 ∈ WA := wa_t 475 (by decide +kernel) rfl
theorem co_T_forgetOldHeld : Cond.code m_T_forgetOldHeld.1 m_T_forgetOldHeld.2.1 m_T_forgetOldHeld.2.2.1 m_T_forgetOldHeld.2.2.2.1 ∈ WA := wa_t 481 (by decide +kernel) rfl
theorem im_T_forgetOldHeld : Cond.instanceMethod m_T_forgetOldHeld.1 ∈ WA := wa_t 480 (by decide +kernel) rfl
theorem se_T_forgetOldHeld : Cond.selects m_T_forgetOldHeld.1.cls m_T_forgetOldHeld.1 m_T_forgetOldHeld.1 ∈ WA := wa_s 11 (by decide +kernel) rfl
theorem co_D_sound : Cond.code m_D_sound.1 m_D_sound.2.1 m_D_sound.2.2.1 m_D_sound.2.2.2.1 ∈ WA := wa_t 485 (by decide +kernel) rfl
theorem im_D_sound : Cond.instanceMethod m_D_sound.1 ∈ WA := wa_t 483 (by decide +kernel) rfl
theorem se_D_sound : Cond.selects m_D_sound.1.cls m_D_sound.1 m_D_sound.1 ∈ WA := wa_t 484 (by decide +kernel) rfl
theorem co_V_isSound : Cond.code m_V_isSound.1 m_V_isSound.2.1 m_V_isSound.2.2.1 m_V_isSound.2.2.2.1 ∈ WA := wa_t 489 (by decide +kernel) rfl
theorem im_V_isSound : Cond.instanceMethod m_V_isSound.1 ∈ WA := wa_t 487 (by decide +kernel) rfl
theorem se_V_isSound : Cond.selects m_V_isSound.1.cls m_V_isSound.1 m_V_isSound.1 ∈ WA := wa_t 488 (by decide +kernel) rfl
theorem co_D_at : Cond.code m_D_at.1 m_D_at.2.1 m_D_at.2.2.1 m_D_at.2.2.2.1 ∈ WA := wa_t 493 (by decide +kernel) rfl
theorem im_D_at : Cond.instanceMethod m_D_at.1 ∈ WA := wa_t 491 (by decide +kernel) rfl
theorem se_D_at : Cond.selects m_D_at.1.cls m_D_at.1 m_D_at.1 ∈ WA := wa_t 492 (by decide +kernel) rfl
theorem co_D_hasBook : Cond.code m_D_hasBook.1 m_D_hasBook.2.1 m_D_hasBook.2.2.1 m_D_hasBook.2.2.2.1 ∈ WA := wa_t 496 (by decide +kernel) rfl
theorem sm_D_hasBook : Cond.static m_D_hasBook.1 ∈ WA := wa_t 495 (by decide +kernel) rfl
theorem co_D_book : Cond.code m_D_book.1 m_D_book.2.1 m_D_book.2.2.1 m_D_book.2.2.2.1 ∈ WA := wa_t 500 (by decide +kernel) rfl
theorem im_D_book : Cond.instanceMethod m_D_book.1 ∈ WA := wa_t 499 (by decide +kernel) rfl
theorem se_D_book : Cond.selects m_D_book.1.cls m_D_book.1 m_D_book.1 ∈ WA := wa_s 12 (by decide +kernel) rfl
theorem co_D_receiver : Cond.code m_D_receiver.1 m_D_receiver.2.1 m_D_receiver.2.2.1 m_D_receiver.2.2.2.1 ∈ WA := wa_t 504 (by decide +kernel) rfl
theorem im_D_receiver : Cond.instanceMethod m_D_receiver.1 ∈ WA := wa_t 502 (by decide +kernel) rfl
theorem se_D_receiver : Cond.selects m_D_receiver.1.cls m_D_receiver.1 m_D_receiver.1 ∈ WA := wa_t 503 (by decide +kernel) rfl
theorem co_V_countKept : Cond.code m_V_countKept.1 m_V_countKept.2.1 m_V_countKept.2.2.1 m_V_countKept.2.2.2.1 ∈ WA := wa_t 508 (by decide +kernel) rfl
theorem im_V_countKept : Cond.instanceMethod m_V_countKept.1 ∈ WA := wa_t 506 (by decide +kernel) rfl
theorem se_V_countKept : Cond.selects m_V_countKept.1.cls m_V_countKept.1 m_V_countKept.1 ∈ WA := wa_t 507 (by decide +kernel) rfl
theorem co_V_countHeld : Cond.code m_V_countHeld.1 m_V_countHeld.2.1 m_V_countHeld.2.2.1 m_V_countHeld.2.2.2.1 ∈ WA := wa_t 512 (by decide +kernel) rfl
theorem im_V_countHeld : Cond.instanceMethod m_V_countHeld.1 ∈ WA := wa_t 510 (by decide +kernel) rfl
theorem se_V_countHeld : Cond.selects m_V_countHeld.1.cls m_V_countHeld.1 m_V_countHeld.1 ∈ WA := wa_t 511 (by decide +kernel) rfl
theorem co_D_best : Cond.code m_D_best.1 m_D_best.2.1 m_D_best.2.2.1 m_D_best.2.2.2.1 ∈ WA := wa_t 516 (by decide +kernel) rfl
theorem im_D_best : Cond.instanceMethod m_D_best.1 ∈ WA := wa_t 514 (by decide +kernel) rfl
theorem se_D_best : Cond.selects m_D_best.1.cls m_D_best.1 m_D_best.1 ∈ WA := wa_t 515 (by decide +kernel) rfl
theorem co_D_isLevelValue : Cond.code m_D_isLevelValue.1 m_D_isLevelValue.2.1 m_D_isLevelValue.2.2.1 m_D_isLevelValue.2.2.2.1 ∈ WA := wa_t 519 (by decide +kernel) rfl
theorem sm_D_isLevelValue : Cond.static m_D_isLevelValue.1 ∈ WA := wa_t 518 (by decide +kernel) rfl
theorem co_D_order : Cond.code m_D_order.1 m_D_order.2.1 m_D_order.2.2.1 m_D_order.2.2.2.1 ∈ WA := wa_t 525 (by decide +kernel) rfl
theorem im_D_order : Cond.instanceMethod m_D_order.1 ∈ WA := wa_t 523 (by decide +kernel) rfl
theorem se_D_order : Cond.selects m_D_order.1.cls m_D_order.1 m_D_order.1 ∈ WA := wa_t 524 (by decide +kernel) rfl
theorem co_B_idAt : Cond.code m_B_idAt.1 m_B_idAt.2.1 m_B_idAt.2.2.1 m_B_idAt.2.2.2.1 ∈ WA := wa_t 529 (by decide +kernel) rfl
theorem im_B_idAt : Cond.instanceMethod m_B_idAt.1 ∈ WA := wa_t 527 (by decide +kernel) rfl
theorem se_B_idAt : Cond.selects m_B_idAt.1.cls m_B_idAt.1 m_B_idAt.1 ∈ WA := wa_t 528 (by decide +kernel) rfl
theorem co_D_halted : Cond.code m_D_halted.1 m_D_halted.2.1 m_D_halted.2.2.1 m_D_halted.2.2.2.1 ∈ WA := wa_t 533 (by decide +kernel) rfl
theorem im_D_halted : Cond.instanceMethod m_D_halted.1 ∈ WA := wa_t 531 (by decide +kernel) rfl
theorem se_D_halted : Cond.selects m_D_halted.1.cls m_D_halted.1 m_D_halted.1 ∈ WA := wa_t 532 (by decide +kernel) rfl
theorem co_D_dirty : Cond.code m_D_dirty.1 m_D_dirty.2.1 m_D_dirty.2.2.1 m_D_dirty.2.2.2.1 ∈ WA := wa_t 538 (by decide +kernel) rfl
theorem im_D_dirty : Cond.instanceMethod m_D_dirty.1 ∈ WA := wa_t 536 (by decide +kernel) rfl
theorem se_D_dirty : Cond.selects m_D_dirty.1.cls m_D_dirty.1 m_D_dirty.1 ∈ WA := wa_t 537 (by decide +kernel) rfl
theorem co_D_read : Cond.code m_D_read.1 m_D_read.2.1 m_D_read.2.2.1 m_D_read.2.2.2.1 ∈ WA := wa_t 542 (by decide +kernel) rfl
theorem im_D_read : Cond.instanceMethod m_D_read.1 ∈ WA := wa_t 540 (by decide +kernel) rfl
theorem se_D_read : Cond.selects m_D_read.1.cls m_D_read.1 m_D_read.1 ∈ WA := wa_t 541 (by decide +kernel) rfl
theorem co_W_takeFirst : Cond.code m_W_takeFirst.1 m_W_takeFirst.2.1 m_W_takeFirst.2.2.1 m_W_takeFirst.2.2.2.1 ∈ WA := wa_t 546 (by decide +kernel) rfl
theorem im_W_takeFirst : Cond.instanceMethod m_W_takeFirst.1 ∈ WA := wa_t 544 (by decide +kernel) rfl
theorem se_W_takeFirst : Cond.selects m_W_takeFirst.1.cls m_W_takeFirst.1 m_W_takeFirst.1 ∈ WA := wa_t 545 (by decide +kernel) rfl
theorem co_D_view : Cond.code m_D_view.1 m_D_view.2.1 m_D_view.2.2.1 m_D_view.2.2.2.1 ∈ WA := wa_t 552 (by decide +kernel) rfl
theorem im_D_view : Cond.instanceMethod m_D_view.1 ∈ WA := wa_t 550 (by decide +kernel) rfl
theorem se_D_view : Cond.selects m_D_view.1.cls m_D_view.1 m_D_view.1 ∈ WA := wa_t 551 (by decide +kernel) rfl
theorem co_M_init : Cond.code m_M_init.1 m_M_init.2.1 m_M_init.2.2.1 m_M_init.2.2.2.1 ∈ WA := wa_t 557 (by decide +kernel) rfl
theorem im_M_init : Cond.instanceMethod m_M_init.1 ∈ WA := wa_t 556 (by decide +kernel) rfl
theorem co_M_add : Cond.code m_M_add.1 m_M_add.2.1 m_M_add.2.2.1 m_M_add.2.2.2.1 ∈ WA := wa_t 668 (by decide +kernel) rfl
theorem im_M_add : Cond.instanceMethod m_M_add.1 ∈ WA := wa_t 666 (by decide +kernel) rfl
theorem se_M_add : Cond.selects m_M_add.1.cls m_M_add.1 m_M_add.1 ∈ WA := wa_t 667 (by decide +kernel) rfl
theorem co_M_isInstrument : Cond.code m_M_isInstrument.1 m_M_isInstrument.2.1 m_M_isInstrument.2.2.1 m_M_isInstrument.2.2.2.1 ∈ WA := wa_t 671 (by decide +kernel) rfl
theorem sm_M_isInstrument : Cond.static m_M_isInstrument.1 ∈ WA := wa_t 670 (by decide +kernel) rfl
theorem co_M_within : Cond.code m_M_within.1 m_M_within.2.1 m_M_within.2.2.1 m_M_within.2.2.2.1 ∈ WA := wa_t 674 (by decide +kernel) rfl
theorem sm_M_within : Cond.static m_M_within.1 ∈ WA := wa_t 673 (by decide +kernel) rfl
theorem co_M_isId : Cond.code m_M_isId.1 m_M_isId.2.1 m_M_isId.2.2.1 m_M_isId.2.2.2.1 ∈ WA := wa_t 677 (by decide +kernel) rfl
theorem sm_M_isId : Cond.static m_M_isId.1 ∈ WA := wa_t 676 (by decide +kernel) rfl
theorem co_M_take : Cond.code m_M_take.1 m_M_take.2.1 m_M_take.2.2.1 m_M_take.2.2.2.1 ∈ WA := wa_t 683 (by decide +kernel) rfl
theorem im_M_take : Cond.instanceMethod m_M_take.1 ∈ WA := wa_t 682 (by decide +kernel) rfl
theorem se_M_take : Cond.selects m_M_take.1.cls m_M_take.1 m_M_take.1 ∈ WA := wa_s 13 (by decide +kernel) rfl
theorem co_M_goOver : Cond.code m_M_goOver.1 m_M_goOver.2.1 m_M_goOver.2.2.1 m_M_goOver.2.2.2.1 ∈ WA := wa_t 687 (by decide +kernel) rfl
theorem im_M_goOver : Cond.instanceMethod m_M_goOver.1 ∈ WA := wa_t 686 (by decide +kernel) rfl
theorem se_M_goOver : Cond.selects m_M_goOver.1.cls m_M_goOver.1 m_M_goOver.1 ∈ WA := wa_s 14 (by decide +kernel) rfl
theorem co_M_perform : Cond.code m_M_perform.1 m_M_perform.2.1 m_M_perform.2.2.1 m_M_perform.2.2.2.1 ∈ WA := wa_t 691 (by decide +kernel) rfl
theorem im_M_perform : Cond.instanceMethod m_M_perform.1 ∈ WA := wa_t 690 (by decide +kernel) rfl
theorem se_M_perform : Cond.selects m_M_perform.1.cls m_M_perform.1 m_M_perform.1 ∈ WA := wa_s 15 (by decide +kernel) rfl
theorem co_M_find : Cond.code m_M_find.1 m_M_find.2.1 m_M_find.2.2.1 m_M_find.2.2.2.1 ∈ WA := wa_t 695 (by decide +kernel) rfl
theorem im_M_find : Cond.instanceMethod m_M_find.1 ∈ WA := wa_t 694 (by decide +kernel) rfl
theorem se_M_find : Cond.selects m_M_find.1.cls m_M_find.1 m_M_find.1 ∈ WA := wa_s 16 (by decide +kernel) rfl
theorem co_M_drop : Cond.code m_M_drop.1 m_M_drop.2.1 m_M_drop.2.2.1 m_M_drop.2.2.2.1 ∈ WA := wa_t 699 (by decide +kernel) rfl
theorem im_M_drop : Cond.instanceMethod m_M_drop.1 ∈ WA := wa_t 698 (by decide +kernel) rfl
theorem se_M_drop : Cond.selects m_M_drop.1.cls m_M_drop.1 m_M_drop.1 ∈ WA := wa_s 17 (by decide +kernel) rfl
theorem co_M_change : Cond.code m_M_change.1 m_M_change.2.1 m_M_change.2.2.1 m_M_change.2.2.2.1 ∈ WA := wa_t 703 (by decide +kernel) rfl
theorem im_M_change : Cond.instanceMethod m_M_change.1 ∈ WA := wa_t 701 (by decide +kernel) rfl
theorem se_M_change : Cond.selects m_M_change.1.cls m_M_change.1 m_M_change.1 ∈ WA := wa_t 702 (by decide +kernel) rfl
theorem co_M_execute : Cond.code m_M_execute.1 m_M_execute.2.1 m_M_execute.2.2.1 m_M_execute.2.2.2.1 ∈ WA := wa_t 707 (by decide +kernel) rfl
theorem im_M_execute : Cond.instanceMethod m_M_execute.1 ∈ WA := wa_t 705 (by decide +kernel) rfl
theorem se_M_execute : Cond.selects m_M_execute.1.cls m_M_execute.1 m_M_execute.1 ∈ WA := wa_t 706 (by decide +kernel) rfl
theorem co_M_cancel : Cond.code m_M_cancel.1 m_M_cancel.2.1 m_M_cancel.2.2.1 m_M_cancel.2.2.2.1 ∈ WA := wa_t 711 (by decide +kernel) rfl
theorem im_M_cancel : Cond.instanceMethod m_M_cancel.1 ∈ WA := wa_t 709 (by decide +kernel) rfl
theorem se_M_cancel : Cond.selects m_M_cancel.1.cls m_M_cancel.1 m_M_cancel.1 ∈ WA := wa_t 710 (by decide +kernel) rfl
theorem co_M_halt : Cond.code m_M_halt.1 m_M_halt.2.1 m_M_halt.2.2.1 m_M_halt.2.2.2.1 ∈ WA := wa_t 715 (by decide +kernel) rfl
theorem im_M_halt : Cond.instanceMethod m_M_halt.1 ∈ WA := wa_t 713 (by decide +kernel) rfl
theorem se_M_halt : Cond.selects m_M_halt.1.cls m_M_halt.1 m_M_halt.1 ∈ WA := wa_t 714 (by decide +kernel) rfl
theorem co_M_clear : Cond.code m_M_clear.1 m_M_clear.2.1 m_M_clear.2.2.1 m_M_clear.2.2.2.1 ∈ WA := wa_t 719 (by decide +kernel) rfl
theorem im_M_clear : Cond.instanceMethod m_M_clear.1 ∈ WA := wa_t 717 (by decide +kernel) rfl
theorem se_M_clear : Cond.selects m_M_clear.1.cls m_M_clear.1 m_M_clear.1 ∈ WA := wa_t 718 (by decide +kernel) rfl
theorem co_M_publish : Cond.code m_M_publish.1 m_M_publish.2.1 m_M_publish.2.2.1 m_M_publish.2.2.2.1 ∈ WA := wa_t 723 (by decide +kernel) rfl
theorem im_M_publish : Cond.instanceMethod m_M_publish.1 ∈ WA := wa_t 721 (by decide +kernel) rfl
theorem se_M_publish : Cond.selects m_M_publish.1.cls m_M_publish.1 m_M_publish.1 ∈ WA := wa_t 722 (by decide +kernel) rfl
theorem co_M_packetByte : Cond.code m_M_packetByte.1 m_M_packetByte.2.1 m_M_packetByte.2.2.1 m_M_packetByte.2.2.2.1 ∈ WA := wa_t 727 (by decide +kernel) rfl
theorem im_M_packetByte : Cond.instanceMethod m_M_packetByte.1 ∈ WA := wa_t 725 (by decide +kernel) rfl
theorem se_M_packetByte : Cond.selects m_M_packetByte.1.cls m_M_packetByte.1 m_M_packetByte.1 ∈ WA := wa_t 726 (by decide +kernel) rfl
theorem co_M_byteOf : Cond.code m_M_byteOf.1 m_M_byteOf.2.1 m_M_byteOf.2.2.1 m_M_byteOf.2.2.2.1 ∈ WA := wa_t 730 (by decide +kernel) rfl
theorem sm_M_byteOf : Cond.static m_M_byteOf.1 ∈ WA := wa_t 729 (by decide +kernel) rfl
theorem co_M_eventByte : Cond.code m_M_eventByte.1 m_M_eventByte.2.1 m_M_eventByte.2.2.1 m_M_eventByte.2.2.2.1 ∈ WA := wa_t 734 (by decide +kernel) rfl
theorem im_M_eventByte : Cond.instanceMethod m_M_eventByte.1 ∈ WA := wa_t 733 (by decide +kernel) rfl
theorem se_M_eventByte : Cond.selects m_M_eventByte.1.cls m_M_eventByte.1 m_M_eventByte.1 ∈ WA := wa_s 18 (by decide +kernel) rfl
theorem co_M_line : Cond.code m_M_line.1 m_M_line.2.1 m_M_line.2.2.1 m_M_line.2.2.2.1 ∈ WA := wa_t 738 (by decide +kernel) rfl
theorem im_M_line : Cond.instanceMethod m_M_line.1 ∈ WA := wa_t 736 (by decide +kernel) rfl
theorem se_M_line : Cond.selects m_M_line.1.cls m_M_line.1 m_M_line.1 ∈ WA := wa_t 737 (by decide +kernel) rfl
theorem co_M_isReceiver : Cond.code m_M_isReceiver.1 m_M_isReceiver.2.1 m_M_isReceiver.2.2.1 m_M_isReceiver.2.2.2.1 ∈ WA := wa_t 741 (by decide +kernel) rfl
theorem sm_M_isReceiver : Cond.static m_M_isReceiver.1 ∈ WA := wa_t 740 (by decide +kernel) rfl
theorem co_M_hear : Cond.code m_M_hear.1 m_M_hear.2.1 m_M_hear.2.2.1 m_M_hear.2.2.2.1 ∈ WA := wa_t 745 (by decide +kernel) rfl
theorem im_M_hear : Cond.instanceMethod m_M_hear.1 ∈ WA := wa_t 744 (by decide +kernel) rfl
theorem se_M_hear : Cond.selects m_M_hear.1.cls m_M_hear.1 m_M_hear.1 ∈ WA := wa_s 19 (by decide +kernel) rfl
theorem co_M_pass : Cond.code m_M_pass.1 m_M_pass.2.1 m_M_pass.2.2.1 m_M_pass.2.2.2.1 ∈ WA := wa_t 749 (by decide +kernel) rfl
theorem im_M_pass : Cond.instanceMethod m_M_pass.1 ∈ WA := wa_t 748 (by decide +kernel) rfl
theorem se_M_pass : Cond.selects m_M_pass.1.cls m_M_pass.1 m_M_pass.1 ∈ WA := wa_s 20 (by decide +kernel) rfl
theorem co_M_event : Cond.code m_M_event.1 m_M_event.2.1 m_M_event.2.2.1 m_M_event.2.2.2.1 ∈ WA := wa_t 753 (by decide +kernel) rfl
theorem im_M_event : Cond.instanceMethod m_M_event.1 ∈ WA := wa_t 752 (by decide +kernel) rfl
theorem se_M_event : Cond.selects m_M_event.1.cls m_M_event.1 m_M_event.1 ∈ WA := wa_s 21 (by decide +kernel) rfl
theorem co_M_become : Cond.code m_M_become.1 m_M_become.2.1 m_M_become.2.2.1 m_M_become.2.2.2.1 ∈ WA := wa_t 757 (by decide +kernel) rfl
theorem im_M_become : Cond.instanceMethod m_M_become.1 ∈ WA := wa_t 756 (by decide +kernel) rfl
theorem se_M_become : Cond.selects m_M_become.1.cls m_M_become.1 m_M_become.1 ∈ WA := wa_s 22 (by decide +kernel) rfl
theorem co_M_look : Cond.code m_M_look.1 m_M_look.2.1 m_M_look.2.2.1 m_M_look.2.2.2.1 ∈ WA := wa_t 761 (by decide +kernel) rfl
theorem im_M_look : Cond.instanceMethod m_M_look.1 ∈ WA := wa_t 760 (by decide +kernel) rfl
theorem se_M_look : Cond.selects m_M_look.1.cls m_M_look.1 m_M_look.1 ∈ WA := wa_s 23 (by decide +kernel) rfl
theorem co_M_ofLevel : Cond.code m_M_ofLevel.1 m_M_ofLevel.2.1 m_M_ofLevel.2.2.1 m_M_ofLevel.2.2.2.1 ∈ WA := wa_t 765 (by decide +kernel) rfl
theorem im_M_ofLevel : Cond.instanceMethod m_M_ofLevel.1 ∈ WA := wa_t 764 (by decide +kernel) rfl
theorem se_M_ofLevel : Cond.selects m_M_ofLevel.1.cls m_M_ofLevel.1 m_M_ofLevel.1 ∈ WA := wa_s 24 (by decide +kernel) rfl
theorem co_M_levelAt : Cond.code m_M_levelAt.1 m_M_levelAt.2.1 m_M_levelAt.2.2.1 m_M_levelAt.2.2.2.1 ∈ WA := wa_t 769 (by decide +kernel) rfl
theorem im_M_levelAt : Cond.instanceMethod m_M_levelAt.1 ∈ WA := wa_t 768 (by decide +kernel) rfl
theorem se_M_levelAt : Cond.selects m_M_levelAt.1.cls m_M_levelAt.1 m_M_levelAt.1 ∈ WA := wa_s 25 (by decide +kernel) rfl
theorem co_M_orderAt : Cond.code m_M_orderAt.1 m_M_orderAt.2.1 m_M_orderAt.2.2.1 m_M_orderAt.2.2.2.1 ∈ WA := wa_t 773 (by decide +kernel) rfl
theorem im_M_orderAt : Cond.instanceMethod m_M_orderAt.1 ∈ WA := wa_t 772 (by decide +kernel) rfl
theorem se_M_orderAt : Cond.selects m_M_orderAt.1.cls m_M_orderAt.1 m_M_orderAt.1 ∈ WA := wa_s 26 (by decide +kernel) rfl
theorem co_M_ahead : Cond.code m_M_ahead.1 m_M_ahead.2.1 m_M_ahead.2.2.1 m_M_ahead.2.2.2.1 ∈ WA := wa_t 777 (by decide +kernel) rfl
theorem im_M_ahead : Cond.instanceMethod m_M_ahead.1 ∈ WA := wa_t 776 (by decide +kernel) rfl
theorem se_M_ahead : Cond.selects m_M_ahead.1.cls m_M_ahead.1 m_M_ahead.1 ∈ WA := wa_s 27 (by decide +kernel) rfl
theorem co_M_follow : Cond.code m_M_follow.1 m_M_follow.2.1 m_M_follow.2.2.1 m_M_follow.2.2.2.1 ∈ WA := wa_t 782 (by decide +kernel) rfl
theorem im_M_follow : Cond.instanceMethod m_M_follow.1 ∈ WA := wa_t 781 (by decide +kernel) rfl
theorem se_M_follow : Cond.selects m_M_follow.1.cls m_M_follow.1 m_M_follow.1 ∈ WA := wa_s 28 (by decide +kernel) rfl
theorem co_M_release : Cond.code m_M_release.1 m_M_release.2.1 m_M_release.2.2.1 m_M_release.2.2.2.1 ∈ WA := wa_t 786 (by decide +kernel) rfl
theorem im_M_release : Cond.instanceMethod m_M_release.1 ∈ WA := wa_t 785 (by decide +kernel) rfl
theorem se_M_release : Cond.selects m_M_release.1.cls m_M_release.1 m_M_release.1 ∈ WA := wa_s 29 (by decide +kernel) rfl
theorem co_M_goOn : Cond.code m_M_goOn.1 m_M_goOn.2.1 m_M_goOn.2.2.1 m_M_goOn.2.2.2.1 ∈ WA := wa_t 790 (by decide +kernel) rfl
theorem im_M_goOn : Cond.instanceMethod m_M_goOn.1 ∈ WA := wa_t 789 (by decide +kernel) rfl
theorem se_M_goOn : Cond.selects m_M_goOn.1.cls m_M_goOn.1 m_M_goOn.1 ∈ WA := wa_s 30 (by decide +kernel) rfl
theorem co_M_askReplay : Cond.code m_M_askReplay.1 m_M_askReplay.2.1 m_M_askReplay.2.2.1 m_M_askReplay.2.2.2.1 ∈ WA := wa_t 794 (by decide +kernel) rfl
theorem im_M_askReplay : Cond.instanceMethod m_M_askReplay.1 ∈ WA := wa_t 792 (by decide +kernel) rfl
theorem se_M_askReplay : Cond.selects m_M_askReplay.1.cls m_M_askReplay.1 m_M_askReplay.1 ∈ WA := wa_t 793 (by decide +kernel) rfl
theorem co_M_gapEnd : Cond.code m_M_gapEnd.1 m_M_gapEnd.2.1 m_M_gapEnd.2.2.1 m_M_gapEnd.2.2.2.1 ∈ WA := wa_t 798 (by decide +kernel) rfl
theorem im_M_gapEnd : Cond.instanceMethod m_M_gapEnd.1 ∈ WA := wa_t 797 (by decide +kernel) rfl
theorem se_M_gapEnd : Cond.selects m_M_gapEnd.1.cls m_M_gapEnd.1 m_M_gapEnd.1 ∈ WA := wa_s 31 (by decide +kernel) rfl
theorem co_M_serveReplay : Cond.code m_M_serveReplay.1 m_M_serveReplay.2.1 m_M_serveReplay.2.2.1 m_M_serveReplay.2.2.2.1 ∈ WA := wa_t 802 (by decide +kernel) rfl
theorem im_M_serveReplay : Cond.instanceMethod m_M_serveReplay.1 ∈ WA := wa_t 800 (by decide +kernel) rfl
theorem se_M_serveReplay : Cond.selects m_M_serveReplay.1.cls m_M_serveReplay.1 m_M_serveReplay.1 ∈ WA := wa_t 801 (by decide +kernel) rfl
theorem co_M_snapshotTurn : Cond.code m_M_snapshotTurn.1 m_M_snapshotTurn.2.1 m_M_snapshotTurn.2.2.1 m_M_snapshotTurn.2.2.2.1 ∈ WA := wa_t 806 (by decide +kernel) rfl
theorem im_M_snapshotTurn : Cond.instanceMethod m_M_snapshotTurn.1 ∈ WA := wa_t 804 (by decide +kernel) rfl
theorem se_M_snapshotTurn : Cond.selects m_M_snapshotTurn.1.cls m_M_snapshotTurn.1 m_M_snapshotTurn.1 ∈ WA := wa_t 805 (by decide +kernel) rfl
theorem co_M_hearSnapshot : Cond.code m_M_hearSnapshot.1 m_M_hearSnapshot.2.1 m_M_hearSnapshot.2.2.1 m_M_hearSnapshot.2.2.2.1 ∈ WA := wa_t 810 (by decide +kernel) rfl
theorem im_M_hearSnapshot : Cond.instanceMethod m_M_hearSnapshot.1 ∈ WA := wa_t 808 (by decide +kernel) rfl
theorem se_M_hearSnapshot : Cond.selects m_M_hearSnapshot.1.cls m_M_hearSnapshot.1 m_M_hearSnapshot.1 ∈ WA := wa_t 809 (by decide +kernel) rfl
theorem co_M_pieces : Cond.code m_M_pieces.1 m_M_pieces.2.1 m_M_pieces.2.2.1 m_M_pieces.2.2.2.1 ∈ WA := wa_t 814 (by decide +kernel) rfl
theorem im_M_pieces : Cond.instanceMethod m_M_pieces.1 ∈ WA := wa_t 813 (by decide +kernel) rfl
theorem se_M_pieces : Cond.selects m_M_pieces.1.cls m_M_pieces.1 m_M_pieces.1 ∈ WA := wa_s 32 (by decide +kernel) rfl
theorem co_M_sound : Cond.code m_M_sound.1 m_M_sound.2.1 m_M_sound.2.2.1 m_M_sound.2.2.2.1 ∈ WA := wa_t 818 (by decide +kernel) rfl
theorem im_M_sound : Cond.instanceMethod m_M_sound.1 ∈ WA := wa_t 816 (by decide +kernel) rfl
theorem se_M_sound : Cond.selects m_M_sound.1.cls m_M_sound.1 m_M_sound.1 ∈ WA := wa_t 817 (by decide +kernel) rfl
theorem co_M_at : Cond.code m_M_at.1 m_M_at.2.1 m_M_at.2.2.1 m_M_at.2.2.2.1 ∈ WA := wa_t 822 (by decide +kernel) rfl
theorem im_M_at : Cond.instanceMethod m_M_at.1 ∈ WA := wa_t 820 (by decide +kernel) rfl
theorem se_M_at : Cond.selects m_M_at.1.cls m_M_at.1 m_M_at.1 ∈ WA := wa_t 821 (by decide +kernel) rfl
theorem co_M_isBook : Cond.code m_M_isBook.1 m_M_isBook.2.1 m_M_isBook.2.2.1 m_M_isBook.2.2.2.1 ∈ WA := wa_t 825 (by decide +kernel) rfl
theorem sm_M_isBook : Cond.static m_M_isBook.1 ∈ WA := wa_t 824 (by decide +kernel) rfl
theorem co_M_manyOf : Cond.code m_M_manyOf.1 m_M_manyOf.2.1 m_M_manyOf.2.2.1 m_M_manyOf.2.2.2.1 ∈ WA := wa_t 829 (by decide +kernel) rfl
theorem im_M_manyOf : Cond.instanceMethod m_M_manyOf.1 ∈ WA := wa_t 828 (by decide +kernel) rfl
theorem se_M_manyOf : Cond.selects m_M_manyOf.1.cls m_M_manyOf.1 m_M_manyOf.1 ∈ WA := wa_s 33 (by decide +kernel) rfl
theorem co_M_receiver : Cond.code m_M_receiver.1 m_M_receiver.2.1 m_M_receiver.2.2.1 m_M_receiver.2.2.2.1 ∈ WA := wa_t 833 (by decide +kernel) rfl
theorem im_M_receiver : Cond.instanceMethod m_M_receiver.1 ∈ WA := wa_t 831 (by decide +kernel) rfl
theorem se_M_receiver : Cond.selects m_M_receiver.1.cls m_M_receiver.1 m_M_receiver.1 ∈ WA := wa_t 832 (by decide +kernel) rfl
theorem co_M_best : Cond.code m_M_best.1 m_M_best.2.1 m_M_best.2.2.1 m_M_best.2.2.2.1 ∈ WA := wa_t 837 (by decide +kernel) rfl
theorem im_M_best : Cond.instanceMethod m_M_best.1 ∈ WA := wa_t 835 (by decide +kernel) rfl
theorem se_M_best : Cond.selects m_M_best.1.cls m_M_best.1 m_M_best.1 ∈ WA := wa_t 836 (by decide +kernel) rfl
theorem co_M_order : Cond.code m_M_order.1 m_M_order.2.1 m_M_order.2.2.1 m_M_order.2.2.2.1 ∈ WA := wa_t 842 (by decide +kernel) rfl
theorem im_M_order : Cond.instanceMethod m_M_order.1 ∈ WA := wa_t 840 (by decide +kernel) rfl
theorem se_M_order : Cond.selects m_M_order.1.cls m_M_order.1 m_M_order.1 ∈ WA := wa_t 841 (by decide +kernel) rfl
theorem co_M_halted : Cond.code m_M_halted.1 m_M_halted.2.1 m_M_halted.2.2.1 m_M_halted.2.2.2.1 ∈ WA := wa_t 846 (by decide +kernel) rfl
theorem im_M_halted : Cond.instanceMethod m_M_halted.1 ∈ WA := wa_t 844 (by decide +kernel) rfl
theorem se_M_halted : Cond.selects m_M_halted.1.cls m_M_halted.1 m_M_halted.1 ∈ WA := wa_t 845 (by decide +kernel) rfl
theorem co_M_dirty : Cond.code m_M_dirty.1 m_M_dirty.2.1 m_M_dirty.2.2.1 m_M_dirty.2.2.2.1 ∈ WA := wa_t 850 (by decide +kernel) rfl
theorem im_M_dirty : Cond.instanceMethod m_M_dirty.1 ∈ WA := wa_t 848 (by decide +kernel) rfl
theorem se_M_dirty : Cond.selects m_M_dirty.1.cls m_M_dirty.1 m_M_dirty.1 ∈ WA := wa_t 849 (by decide +kernel) rfl
theorem co_M_read : Cond.code m_M_read.1 m_M_read.2.1 m_M_read.2.2.1 m_M_read.2.2.2.1 ∈ WA := wa_t 854 (by decide +kernel) rfl
theorem im_M_read : Cond.instanceMethod m_M_read.1 ∈ WA := wa_t 852 (by decide +kernel) rfl
theorem se_M_read : Cond.selects m_M_read.1.cls m_M_read.1 m_M_read.1 ∈ WA := wa_t 853 (by decide +kernel) rfl
theorem co_M_view : Cond.code m_M_view.1 m_M_view.2.1 m_M_view.2.2.1 m_M_view.2.2.2.1 ∈ WA := wa_t 858 (by decide +kernel) rfl
theorem im_M_view : Cond.instanceMethod m_M_view.1 ∈ WA := wa_t 856 (by decide +kernel) rfl
theorem se_M_view : Cond.selects m_M_view.1.cls m_M_view.1 m_M_view.1 ∈ WA := wa_t 857 (by decide +kernel) rfl
theorem ml_L_9 : fv_ML (fk D dA) WA "FeedDeskLaw" 9 m_D_init 0 := ⟨wa_good, co_D_init, wa_t 1 (by decide +kernel) rfl, Or.inl (wa_t 15 (by decide +kernel) rfl), ⟨by decide +kernel, by decide +kernel⟩, by decide +kernel⟩
theorem ml_D_23 : fv_ML (fk D dA) WA "FeedDesk" 23 m_P_init 0 := ⟨wa_good, co_P_init, wa_t 2 (by decide +kernel) rfl, Or.inl (wa_t 27 (by decide +kernel) rfl), ⟨by decide +kernel, by decide +kernel⟩, by decide +kernel⟩
theorem ml_D_158 : fv_ML (fk D dA) WA "FeedDesk" 158 m_A_fill 2 := ⟨wa_good, co_A_fill, wa_t 6 (by decide +kernel) rfl, Or.inl (wa_t 123 (by decide +kernel) rfl), ⟨by decide +kernel, by decide +kernel⟩, by decide +kernel⟩
theorem ml_D_29 : fv_ML (fk D dA) WA "FeedDesk" 29 m_V_init 2 := ⟨wa_good, co_V_init, wa_t 7 (by decide +kernel) rfl, Or.inl (wa_t 139 (by decide +kernel) rfl), ⟨by decide +kernel, by decide +kernel⟩, by decide +kernel⟩
theorem ml_V_35 : fv_ML (fk D dA) WA "FeedDesk$Receiver" 35 m_T_init 2 := ⟨wa_good, co_T_init, wa_t 8 (by decide +kernel) rfl, Or.inl (wa_t 146 (by decide +kernel) rfl), ⟨by decide +kernel, by decide +kernel⟩, by decide +kernel⟩
theorem ml_L_13 : fv_ML (fk D dA) WA "FeedDeskLaw" 13 m_D_add 5 := ⟨wa_good, co_D_add, wa_t 1 (by decide +kernel) rfl, Or.inl (wa_t 212 (by decide +kernel) rfl), ⟨by decide +kernel, by decide +kernel⟩, by decide +kernel⟩
theorem ml_D_32 : fv_ML (fk D dA) WA "FeedDesk" 32 m_D_isInstrument 1 := ⟨wa_good, co_D_isInstrument, wa_t 1 (by decide +kernel) rfl, Or.inl (wa_t 216 (by decide +kernel) rfl), ⟨by decide +kernel, by decide +kernel⟩, by decide +kernel⟩
theorem ml_D_36 : fv_ML (fk D dA) WA "FeedDesk" 36 m_D_isCount 1 := ⟨wa_good, co_D_isCount, wa_t 1 (by decide +kernel) rfl, Or.inl (wa_t 219 (by decide +kernel) rfl), ⟨by decide +kernel, by decide +kernel⟩, by decide +kernel⟩
theorem ml_D_39 : fv_ML (fk D dA) WA "FeedDesk" 39 m_D_isSide 1 := ⟨wa_good, co_D_isSide, wa_t 1 (by decide +kernel) rfl, Or.inl (wa_t 223 (by decide +kernel) rfl), ⟨by decide +kernel, by decide +kernel⟩, by decide +kernel⟩
theorem ml_D_44 : fv_ML (fk D dA) WA "FeedDesk" 44 m_P_offer 6 := ⟨wa_good, co_P_offer, wa_t 2 (by decide +kernel) rfl, Or.inl (wa_t 227 (by decide +kernel) rfl), ⟨by decide +kernel, by decide +kernel⟩, by decide +kernel⟩
theorem ml_P_45 : fv_ML (fk D dA) WA "FeedDesk$Publisher" 45 m_B_allows 3 := ⟨wa_good, co_B_allows, wa_t 3 (by decide +kernel) rfl, Or.inl (wa_t 231 (by decide +kernel) rfl), ⟨by decide +kernel, by decide +kernel⟩, by decide +kernel⟩
theorem ml_B_35 : fv_ML (fk D dA) WA "FeedDesk$Book" 35 m_B_placeOf 1 := ⟨wa_good, co_B_placeOf, wa_t 3 (by decide +kernel) rfl, Or.inl (wa_t 235 (by decide +kernel) rfl), ⟨by decide +kernel, by decide +kernel⟩, by decide +kernel⟩
theorem ml_B_39 : fv_ML (fk D dA) WA "FeedDesk$Book" 39 m_B_haltValue 0 := ⟨wa_good, co_B_haltValue, wa_t 3 (by decide +kernel) rfl, Or.inl (wa_t 239 (by decide +kernel) rfl), ⟨by decide +kernel, by decide +kernel⟩, by decide +kernel⟩
theorem ml_P_52 : fv_ML (fk D dA) WA "FeedDesk$Publisher" 52 m_E_init 7 := ⟨wa_good, co_E_init, wa_t 10 (by decide +kernel) rfl, Or.inl (wa_t 244 (by decide +kernel) rfl), ⟨by decide +kernel, by decide +kernel⟩, by decide +kernel⟩
theorem ml_P_55 : fv_ML (fk D dA) WA "FeedDesk$Publisher" 55 m_B_apply 1 := ⟨wa_good, co_B_apply, wa_t 3 (by decide +kernel) rfl, Or.inl (wa_t 278 (by decide +kernel) rfl), ⟨by decide +kernel, by decide +kernel⟩, by decide +kernel⟩
theorem ml_B_48 : fv_ML (fk D dA) WA "FeedDesk$Book" 48 m_B_insert 1 := ⟨wa_good, co_B_insert, wa_t 3 (by decide +kernel) rfl, Or.inl (wa_t 282 (by decide +kernel) rfl), ⟨by decide +kernel, by decide +kernel⟩, by decide +kernel⟩
theorem ml_B_65 : fv_ML (fk D dA) WA "FeedDesk$Book" 65 m_B_startOf 1 := ⟨wa_good, co_B_startOf, wa_t 3 (by decide +kernel) rfl, Or.inl (wa_t 286 (by decide +kernel) rfl), ⟨by decide +kernel, by decide +kernel⟩, by decide +kernel⟩
theorem ml_B_68 : fv_ML (fk D dA) WA "FeedDesk$Book" 68 m_B_endOf 1 := ⟨wa_good, co_B_endOf, wa_t 3 (by decide +kernel) rfl, Or.inl (wa_t 290 (by decide +kernel) rfl), ⟨by decide +kernel, by decide +kernel⟩, by decide +kernel⟩
theorem ml_B_58 : fv_ML (fk D dA) WA "FeedDesk$Book" 58 m_B_shrink 2 := ⟨wa_good, co_B_shrink, wa_t 3 (by decide +kernel) rfl, Or.inl (wa_t 297 (by decide +kernel) rfl), ⟨by decide +kernel, by decide +kernel⟩, by decide +kernel⟩
theorem ml_B_80 : fv_ML (fk D dA) WA "FeedDesk$Book" 80 m_B_sizeLeft 2 := ⟨wa_good, co_B_sizeLeft, wa_t 3 (by decide +kernel) rfl, Or.inl (wa_t 301 (by decide +kernel) rfl), ⟨by decide +kernel, by decide +kernel⟩, by decide +kernel⟩
theorem ml_L_18 : fv_ML (fk D dA) WA "FeedDeskLaw" 18 m_D_change 3 := ⟨wa_good, co_D_change, wa_t 1 (by decide +kernel) rfl, Or.inl (wa_t 304 (by decide +kernel) rfl), ⟨by decide +kernel, by decide +kernel⟩, by decide +kernel⟩
theorem ml_L_23 : fv_ML (fk D dA) WA "FeedDeskLaw" 23 m_D_execute 3 := ⟨wa_good, co_D_execute, wa_t 1 (by decide +kernel) rfl, Or.inl (wa_t 308 (by decide +kernel) rfl), ⟨by decide +kernel, by decide +kernel⟩, by decide +kernel⟩
theorem ml_L_27 : fv_ML (fk D dA) WA "FeedDeskLaw" 27 m_D_cancel 2 := ⟨wa_good, co_D_cancel, wa_t 1 (by decide +kernel) rfl, Or.inl (wa_t 312 (by decide +kernel) rfl), ⟨by decide +kernel, by decide +kernel⟩, by decide +kernel⟩
theorem ml_L_32 : fv_ML (fk D dA) WA "FeedDeskLaw" 32 m_D_halt 2 := ⟨wa_good, co_D_halt, wa_t 1 (by decide +kernel) rfl, Or.inl (wa_t 316 (by decide +kernel) rfl), ⟨by decide +kernel, by decide +kernel⟩, by decide +kernel⟩
theorem ml_L_37 : fv_ML (fk D dA) WA "FeedDeskLaw" 37 m_D_clear 1 := ⟨wa_good, co_D_clear, wa_t 1 (by decide +kernel) rfl, Or.inl (wa_t 320 (by decide +kernel) rfl), ⟨by decide +kernel, by decide +kernel⟩, by decide +kernel⟩
theorem ml_L_42 : fv_ML (fk D dA) WA "FeedDeskLaw" 42 m_D_publish 0 := ⟨wa_good, co_D_publish, wa_t 1 (by decide +kernel) rfl, Or.inl (wa_t 324 (by decide +kernel) rfl), ⟨by decide +kernel, by decide +kernel⟩, by decide +kernel⟩
theorem ml_D_48 : fv_ML (fk D dA) WA "FeedDesk" 48 m_P_closePacket 0 := ⟨wa_good, co_P_closePacket, wa_t 2 (by decide +kernel) rfl, Or.inl (wa_t 328 (by decide +kernel) rfl), ⟨by decide +kernel, by decide +kernel⟩, by decide +kernel⟩
theorem ml_L_47 : fv_ML (fk D dA) WA "FeedDeskLaw" 47 m_D_packetByte 2 := ⟨wa_good, co_D_packetByte, wa_t 1 (by decide +kernel) rfl, Or.inl (wa_t 332 (by decide +kernel) rfl), ⟨by decide +kernel, by decide +kernel⟩, by decide +kernel⟩
theorem ml_D_52 : fv_ML (fk D dA) WA "FeedDesk" 52 m_P_byteOfPacket 2 := ⟨wa_good, co_P_byteOfPacket, wa_t 2 (by decide +kernel) rfl, Or.inl (wa_t 336 (by decide +kernel) rfl), ⟨by decide +kernel, by decide +kernel⟩, by decide +kernel⟩
theorem ml_P_69 : fv_ML (fk D dA) WA "FeedDesk$Publisher" 69 m_P_isClosed 1 := ⟨wa_good, co_P_isClosed, wa_t 2 (by decide +kernel) rfl, Or.inl (wa_t 340 (by decide +kernel) rfl), ⟨by decide +kernel, by decide +kernel⟩, by decide +kernel⟩
theorem ml_P_73 : fv_ML (fk D dA) WA "FeedDesk$Publisher" 73 m_E_byteOf 2 := ⟨wa_good, co_E_byteOf, wa_t 10 (by decide +kernel) rfl, Or.inl (wa_t 344 (by decide +kernel) rfl), ⟨by decide +kernel, by decide +kernel⟩, by decide +kernel⟩
theorem ml_P_66 : fv_ML (fk D dA) WA "FeedDesk$Publisher" 66 m_P_endOf 1 := ⟨wa_good, co_P_endOf, wa_t 2 (by decide +kernel) rfl, Or.inl (wa_t 347 (by decide +kernel) rfl), ⟨by decide +kernel, by decide +kernel⟩, by decide +kernel⟩
theorem ml_P_62 : fv_ML (fk D dA) WA "FeedDesk$Publisher" 62 m_P_startOf 1 := ⟨wa_good, co_P_startOf, wa_t 2 (by decide +kernel) rfl, Or.inl (wa_t 351 (by decide +kernel) rfl), ⟨by decide +kernel, by decide +kernel⟩, by decide +kernel⟩
theorem ml_P_77 : fv_ML (fk D dA) WA "FeedDesk$Publisher" 77 m_E_byteAt 1 := ⟨wa_good, co_E_byteAt, wa_t 10 (by decide +kernel) rfl, Or.inl (wa_t 355 (by decide +kernel) rfl), ⟨by decide +kernel, by decide +kernel⟩, by decide +kernel⟩
theorem ml_E_31 : fv_ML (fk D dA) WA "FeedDesk$Event" 31 m_E_byteOf 2 := ⟨wa_good, co_E_byteOf, wa_t 10 (by decide +kernel) rfl, Or.inl (wa_t 359 (by decide +kernel) rfl), ⟨by decide +kernel, by decide +kernel⟩, by decide +kernel⟩
theorem ml_L_51 : fv_ML (fk D dA) WA "FeedDeskLaw" 51 m_D_line 3 := ⟨wa_good, co_D_line, wa_t 1 (by decide +kernel) rfl, Or.inl (wa_t 360 (by decide +kernel) rfl), ⟨by decide +kernel, by decide +kernel⟩, by decide +kernel⟩
theorem ml_D_56 : fv_ML (fk D dA) WA "FeedDesk" 56 m_P_isClosed 1 := ⟨wa_good, co_P_isClosed, wa_t 2 (by decide +kernel) rfl, Or.inl (wa_t 364 (by decide +kernel) rfl), ⟨by decide +kernel, by decide +kernel⟩, by decide +kernel⟩
theorem ml_D_59 : fv_ML (fk D dA) WA "FeedDesk" 59 m_D_isReceiver 1 := ⟨wa_good, co_D_isReceiver, wa_t 1 (by decide +kernel) rfl, Or.inl (wa_t 365 (by decide +kernel) rfl), ⟨by decide +kernel, by decide +kernel⟩, by decide +kernel⟩
theorem ml_D_62 : fv_ML (fk D dA) WA "FeedDesk" 62 m_V_hear 1 := ⟨wa_good, co_V_hear, wa_t 7 (by decide +kernel) rfl, Or.inl (wa_t 368 (by decide +kernel) rfl), ⟨by decide +kernel, by decide +kernel⟩, by decide +kernel⟩
theorem ml_V_44 : fv_ML (fk D dA) WA "FeedDesk$Receiver" 44 m_V_passThrough 1 := ⟨wa_good, co_V_passThrough, wa_t 7 (by decide +kernel) rfl, Or.inl (wa_t 375 (by decide +kernel) rfl), ⟨by decide +kernel, by decide +kernel⟩, by decide +kernel⟩
theorem ml_V_64 : fv_ML (fk D dA) WA "FeedDesk$Receiver" 64 m_P_endOf 1 := ⟨wa_good, co_P_endOf, wa_t 2 (by decide +kernel) rfl, Or.inl (wa_t 379 (by decide +kernel) rfl), ⟨by decide +kernel, by decide +kernel⟩, by decide +kernel⟩
theorem ml_V_68 : fv_ML (fk D dA) WA "FeedDesk$Receiver" 68 m_P_startOf 1 := ⟨wa_good, co_P_startOf, wa_t 2 (by decide +kernel) rfl, Or.inl (wa_t 380 (by decide +kernel) rfl), ⟨by decide +kernel, by decide +kernel⟩, by decide +kernel⟩
theorem ml_V_80 : fv_ML (fk D dA) WA "FeedDesk$Receiver" 80 m_T_take 1 := ⟨wa_good, co_T_take, wa_t 8 (by decide +kernel) rfl, Or.inl (wa_t 381 (by decide +kernel) rfl), ⟨by decide +kernel, by decide +kernel⟩, by decide +kernel⟩
theorem ml_T_52 : fv_ML (fk D dA) WA "FeedDesk$Track" 52 m_B_apply 1 := ⟨wa_good, co_B_apply, wa_t 3 (by decide +kernel) rfl, Or.inl (wa_t 385 (by decide +kernel) rfl), ⟨by decide +kernel, by decide +kernel⟩, by decide +kernel⟩
theorem ml_T_56 : fv_ML (fk D dA) WA "FeedDesk$Track" 56 m_T_follow 0 := ⟨wa_good, co_T_follow, wa_t 8 (by decide +kernel) rfl, Or.inl (wa_t 386 (by decide +kernel) rfl), ⟨by decide +kernel, by decide +kernel⟩, by decide +kernel⟩
theorem ml_T_75 : fv_ML (fk D dA) WA "FeedDesk$Track" 75 m_B_refresh 1 := ⟨wa_good, co_B_refresh, wa_t 3 (by decide +kernel) rfl, Or.inl (wa_t 390 (by decide +kernel) rfl), ⟨by decide +kernel, by decide +kernel⟩, by decide +kernel⟩
theorem ml_B_85 : fv_ML (fk D dA) WA "FeedDesk$Book" 85 m_B_levelValue 3 := ⟨wa_good, co_B_levelValue, wa_t 3 (by decide +kernel) rfl, Or.inl (wa_t 394 (by decide +kernel) rfl), ⟨by decide +kernel, by decide +kernel⟩, by decide +kernel⟩
theorem ml_T_79 : fv_ML (fk D dA) WA "FeedDesk$Track" 79 m_W_mark 1 := ⟨wa_good, co_W_mark, wa_t 5 (by decide +kernel) rfl, Or.inl (wa_t 399 (by decide +kernel) rfl), ⟨by decide +kernel, by decide +kernel⟩, by decide +kernel⟩
theorem ml_T_85 : fv_ML (fk D dA) WA "FeedDesk$Track" 85 m_T_takeHeld 1 := ⟨wa_good, co_T_takeHeld, wa_t 8 (by decide +kernel) rfl, Or.inl (wa_t 403 (by decide +kernel) rfl), ⟨by decide +kernel, by decide +kernel⟩, by decide +kernel⟩
theorem ml_T_59 : fv_ML (fk D dA) WA "FeedDesk$Track" 59 m_T_hold 1 := ⟨wa_good, co_T_hold, wa_t 8 (by decide +kernel) rfl, Or.inl (wa_t 407 (by decide +kernel) rfl), ⟨by decide +kernel, by decide +kernel⟩, by decide +kernel⟩
theorem ml_L_55 : fv_ML (fk D dA) WA "FeedDeskLaw" 55 m_D_askReplay 1 := ⟨wa_good, co_D_askReplay, wa_t 1 (by decide +kernel) rfl, Or.inl (wa_t 411 (by decide +kernel) rfl), ⟨by decide +kernel, by decide +kernel⟩, by decide +kernel⟩
theorem ml_D_66 : fv_ML (fk D dA) WA "FeedDesk" 66 m_V_ask 0 := ⟨wa_good, co_V_ask, wa_t 7 (by decide +kernel) rfl, Or.inl (wa_t 415 (by decide +kernel) rfl), ⟨by decide +kernel, by decide +kernel⟩, by decide +kernel⟩
theorem ml_V_48 : fv_ML (fk D dA) WA "FeedDesk$Receiver" 48 m_V_lastOfGap 0 := ⟨wa_good, co_V_lastOfGap, wa_t 7 (by decide +kernel) rfl, Or.inl (wa_t 419 (by decide +kernel) rfl), ⟨by decide +kernel, by decide +kernel⟩, by decide +kernel⟩
theorem ml_L_59 : fv_ML (fk D dA) WA "FeedDeskLaw" 59 m_D_serveReplay 1 := ⟨wa_good, co_D_serveReplay, wa_t 1 (by decide +kernel) rfl, Or.inl (wa_t 423 (by decide +kernel) rfl), ⟨by decide +kernel, by decide +kernel⟩, by decide +kernel⟩
theorem ml_D_69 : fv_ML (fk D dA) WA "FeedDesk" 69 m_V_takeAnswer 0 := ⟨wa_good, co_V_takeAnswer, wa_t 7 (by decide +kernel) rfl, Or.inl (wa_t 427 (by decide +kernel) rfl), ⟨by decide +kernel, by decide +kernel⟩, by decide +kernel⟩
theorem ml_V_52 : fv_ML (fk D dA) WA "FeedDesk$Receiver" 52 m_P_canReplayFrom 1 := ⟨wa_good, co_P_canReplayFrom, wa_t 2 (by decide +kernel) rfl, Or.inl (wa_t 431 (by decide +kernel) rfl), ⟨by decide +kernel, by decide +kernel⟩, by decide +kernel⟩
theorem ml_V_58 : fv_ML (fk D dA) WA "FeedDesk$Receiver" 58 m_V_giveUp 1 := ⟨wa_good, co_V_giveUp, wa_t 7 (by decide +kernel) rfl, Or.inl (wa_t 435 (by decide +kernel) rfl), ⟨by decide +kernel, by decide +kernel⟩, by decide +kernel⟩
theorem ml_L_63 : fv_ML (fk D dA) WA "FeedDeskLaw" 63 m_D_snapshotTurn 0 := ⟨wa_good, co_D_snapshotTurn, wa_t 1 (by decide +kernel) rfl, Or.inl (wa_t 439 (by decide +kernel) rfl), ⟨by decide +kernel, by decide +kernel⟩, by decide +kernel⟩
theorem ml_D_72 : fv_ML (fk D dA) WA "FeedDesk" 72 m_P_makeSnapshot 0 := ⟨wa_good, co_P_makeSnapshot, wa_t 2 (by decide +kernel) rfl, Or.inl (wa_t 443 (by decide +kernel) rfl), ⟨by decide +kernel, by decide +kernel⟩, by decide +kernel⟩
theorem ml_P_80 : fv_ML (fk D dA) WA "FeedDesk$Publisher" 80 m_P_snapshot 1 := ⟨wa_good, co_P_snapshot, wa_t 2 (by decide +kernel) rfl, Or.inl (wa_t 447 (by decide +kernel) rfl), ⟨by decide +kernel, by decide +kernel⟩, by decide +kernel⟩
theorem ml_P_84 : fv_ML (fk D dA) WA "FeedDesk$Publisher" 84 m_S_fix 3 := ⟨wa_good, co_S_fix, wa_t 4 (by decide +kernel) rfl, Or.inl (wa_t 451 (by decide +kernel) rfl), ⟨by decide +kernel, by decide +kernel⟩, by decide +kernel⟩
theorem ml_S_25 : fv_ML (fk D dA) WA "FeedDesk$Snapshot" 25 m_B_become 1 := ⟨wa_good, co_B_become, wa_t 3 (by decide +kernel) rfl, Or.inl (wa_t 455 (by decide +kernel) rfl), ⟨by decide +kernel, by decide +kernel⟩, by decide +kernel⟩
theorem ml_L_67 : fv_ML (fk D dA) WA "FeedDeskLaw" 67 m_D_hearSnapshot 3 := ⟨wa_good, co_D_hearSnapshot, wa_t 1 (by decide +kernel) rfl, Or.inl (wa_t 459 (by decide +kernel) rfl), ⟨by decide +kernel, by decide +kernel⟩, by decide +kernel⟩
theorem ml_D_75 : fv_ML (fk D dA) WA "FeedDesk" 75 m_P_canHear 1 := ⟨wa_good, co_P_canHear, wa_t 2 (by decide +kernel) rfl, Or.inl (wa_t 463 (by decide +kernel) rfl), ⟨by decide +kernel, by decide +kernel⟩, by decide +kernel⟩
theorem ml_D_78 : fv_ML (fk D dA) WA "FeedDesk" 78 m_P_snapshot 1 := ⟨wa_good, co_P_snapshot, wa_t 2 (by decide +kernel) rfl, Or.inl (wa_t 467 (by decide +kernel) rfl), ⟨by decide +kernel, by decide +kernel⟩, by decide +kernel⟩
theorem ml_D_82 : fv_ML (fk D dA) WA "FeedDesk" 82 m_S_hasPiece 1 := ⟨wa_good, co_S_hasPiece, wa_t 4 (by decide +kernel) rfl, Or.inl (wa_t 468 (by decide +kernel) rfl), ⟨by decide +kernel, by decide +kernel⟩, by decide +kernel⟩
theorem ml_D_95 : fv_ML (fk D dA) WA "FeedDesk" 95 m_T_restore 1 := ⟨wa_good, co_T_restore, wa_t 8 (by decide +kernel) rfl, Or.inl (wa_t 473 (by decide +kernel) rfl), ⟨by decide +kernel, by decide +kernel⟩, by decide +kernel⟩
theorem ml_T_68 : fv_ML (fk D dA) WA "FeedDesk$Track" 68 m_B_become 1 := ⟨wa_good, co_B_become, wa_t 3 (by decide +kernel) rfl, Or.inl (wa_t 477 (by decide +kernel) rfl), ⟨by decide +kernel, by decide +kernel⟩, by decide +kernel⟩
theorem ml_T_72 : fv_ML (fk D dA) WA "FeedDesk$Track" 72 m_T_forgetOldHeld 0 := ⟨wa_good, co_T_forgetOldHeld, wa_t 8 (by decide +kernel) rfl, Or.inl (wa_t 478 (by decide +kernel) rfl), ⟨by decide +kernel, by decide +kernel⟩, by decide +kernel⟩
theorem ml_L_71 : fv_ML (fk D dA) WA "FeedDeskLaw" 71 m_D_sound 2 := ⟨wa_good, co_D_sound, wa_t 1 (by decide +kernel) rfl, Or.inl (wa_t 482 (by decide +kernel) rfl), ⟨by decide +kernel, by decide +kernel⟩, by decide +kernel⟩
theorem ml_D_101 : fv_ML (fk D dA) WA "FeedDesk" 101 m_V_isSound 1 := ⟨wa_good, co_V_isSound, wa_t 7 (by decide +kernel) rfl, Or.inl (wa_t 486 (by decide +kernel) rfl), ⟨by decide +kernel, by decide +kernel⟩, by decide +kernel⟩
theorem ml_L_75 : fv_ML (fk D dA) WA "FeedDeskLaw" 75 m_D_at 2 := ⟨wa_good, co_D_at, wa_t 1 (by decide +kernel) rfl, Or.inl (wa_t 490 (by decide +kernel) rfl), ⟨by decide +kernel, by decide +kernel⟩, by decide +kernel⟩
theorem ml_D_104 : fv_ML (fk D dA) WA "FeedDesk" 104 m_D_hasBook 2 := ⟨wa_good, co_D_hasBook, wa_t 1 (by decide +kernel) rfl, Or.inl (wa_t 494 (by decide +kernel) rfl), ⟨by decide +kernel, by decide +kernel⟩, by decide +kernel⟩
theorem ml_D_108 : fv_ML (fk D dA) WA "FeedDesk" 108 m_D_book 2 := ⟨wa_good, co_D_book, wa_t 1 (by decide +kernel) rfl, Or.inl (wa_t 497 (by decide +kernel) rfl), ⟨by decide +kernel, by decide +kernel⟩, by decide +kernel⟩
theorem ml_L_79 : fv_ML (fk D dA) WA "FeedDeskLaw" 79 m_D_receiver 2 := ⟨wa_good, co_D_receiver, wa_t 1 (by decide +kernel) rfl, Or.inl (wa_t 501 (by decide +kernel) rfl), ⟨by decide +kernel, by decide +kernel⟩, by decide +kernel⟩
theorem ml_D_123 : fv_ML (fk D dA) WA "FeedDesk" 123 m_V_countKept 0 := ⟨wa_good, co_V_countKept, wa_t 7 (by decide +kernel) rfl, Or.inl (wa_t 505 (by decide +kernel) rfl), ⟨by decide +kernel, by decide +kernel⟩, by decide +kernel⟩
theorem ml_D_126 : fv_ML (fk D dA) WA "FeedDesk" 126 m_V_countHeld 0 := ⟨wa_good, co_V_countHeld, wa_t 7 (by decide +kernel) rfl, Or.inl (wa_t 509 (by decide +kernel) rfl), ⟨by decide +kernel, by decide +kernel⟩, by decide +kernel⟩
theorem ml_L_83 : fv_ML (fk D dA) WA "FeedDeskLaw" 83 m_D_best 5 := ⟨wa_good, co_D_best, wa_t 1 (by decide +kernel) rfl, Or.inl (wa_t 513 (by decide +kernel) rfl), ⟨by decide +kernel, by decide +kernel⟩, by decide +kernel⟩
theorem ml_D_129 : fv_ML (fk D dA) WA "FeedDesk" 129 m_D_isLevelValue 1 := ⟨wa_good, co_D_isLevelValue, wa_t 1 (by decide +kernel) rfl, Or.inl (wa_t 517 (by decide +kernel) rfl), ⟨by decide +kernel, by decide +kernel⟩, by decide +kernel⟩
theorem ml_D_133 : fv_ML (fk D dA) WA "FeedDesk" 133 m_B_levelValue 3 := ⟨wa_good, co_B_levelValue, wa_t 3 (by decide +kernel) rfl, Or.inl (wa_t 521 (by decide +kernel) rfl), ⟨by decide +kernel, by decide +kernel⟩, by decide +kernel⟩
theorem ml_L_87 : fv_ML (fk D dA) WA "FeedDeskLaw" 87 m_D_order 4 := ⟨wa_good, co_D_order, wa_t 1 (by decide +kernel) rfl, Or.inl (wa_t 522 (by decide +kernel) rfl), ⟨by decide +kernel, by decide +kernel⟩, by decide +kernel⟩
theorem ml_D_137 : fv_ML (fk D dA) WA "FeedDesk" 137 m_B_idAt 2 := ⟨wa_good, co_B_idAt, wa_t 3 (by decide +kernel) rfl, Or.inl (wa_t 526 (by decide +kernel) rfl), ⟨by decide +kernel, by decide +kernel⟩, by decide +kernel⟩
theorem ml_L_92 : fv_ML (fk D dA) WA "FeedDeskLaw" 92 m_D_halted 2 := ⟨wa_good, co_D_halted, wa_t 1 (by decide +kernel) rfl, Or.inl (wa_t 530 (by decide +kernel) rfl), ⟨by decide +kernel, by decide +kernel⟩, by decide +kernel⟩
theorem ml_D_140 : fv_ML (fk D dA) WA "FeedDesk" 140 m_B_haltValue 0 := ⟨wa_good, co_B_haltValue, wa_t 3 (by decide +kernel) rfl, Or.inl (wa_t 534 (by decide +kernel) rfl), ⟨by decide +kernel, by decide +kernel⟩, by decide +kernel⟩
theorem ml_L_96 : fv_ML (fk D dA) WA "FeedDeskLaw" 96 m_D_dirty 1 := ⟨wa_good, co_D_dirty, wa_t 1 (by decide +kernel) rfl, Or.inl (wa_t 535 (by decide +kernel) rfl), ⟨by decide +kernel, by decide +kernel⟩, by decide +kernel⟩
theorem ml_L_100 : fv_ML (fk D dA) WA "FeedDeskLaw" 100 m_D_read 1 := ⟨wa_good, co_D_read, wa_t 1 (by decide +kernel) rfl, Or.inl (wa_t 539 (by decide +kernel) rfl), ⟨by decide +kernel, by decide +kernel⟩, by decide +kernel⟩
theorem ml_D_146 : fv_ML (fk D dA) WA "FeedDesk" 146 m_W_takeFirst 0 := ⟨wa_good, co_W_takeFirst, wa_t 5 (by decide +kernel) rfl, Or.inl (wa_t 543 (by decide +kernel) rfl), ⟨by decide +kernel, by decide +kernel⟩, by decide +kernel⟩
theorem ml_D_153 : fv_ML (fk D dA) WA "FeedDesk" 153 m_B_refresh 1 := ⟨wa_good, co_B_refresh, wa_t 3 (by decide +kernel) rfl, Or.inl (wa_t 548 (by decide +kernel) rfl), ⟨by decide +kernel, by decide +kernel⟩, by decide +kernel⟩
theorem ml_L_104 : fv_ML (fk D dA) WA "FeedDeskLaw" 104 m_D_view 4 := ⟨wa_good, co_D_view, wa_t 1 (by decide +kernel) rfl, Or.inl (wa_t 549 (by decide +kernel) rfl), ⟨by decide +kernel, by decide +kernel⟩, by decide +kernel⟩
theorem ml_L_12 : fv_ML (fk D dA) WA "FeedDeskLaw" 12 m_M_init 0 := ⟨wa_good, co_M_init, wa_t 9 (by decide +kernel) rfl, Or.inl (wa_t 555 (by decide +kernel) rfl), ⟨by decide +kernel, by decide +kernel⟩, by decide +kernel⟩
theorem ml_L_17 : fv_ML (fk D dA) WA "FeedDeskLaw" 17 m_M_add 5 := ⟨wa_good, co_M_add, wa_t 9 (by decide +kernel) rfl, Or.inl (wa_t 665 (by decide +kernel) rfl), ⟨by decide +kernel, by decide +kernel⟩, by decide +kernel⟩
theorem ml_M_151 : fv_ML (fk D dA) WA "FeedDeskModel" 151 m_M_isInstrument 1 := ⟨wa_good, co_M_isInstrument, wa_t 9 (by decide +kernel) rfl, Or.inl (wa_t 669 (by decide +kernel) rfl), ⟨by decide +kernel, by decide +kernel⟩, by decide +kernel⟩
theorem ml_M_101 : fv_ML (fk D dA) WA "FeedDeskModel" 101 m_M_within 3 := ⟨wa_good, co_M_within, wa_t 9 (by decide +kernel) rfl, Or.inl (wa_t 672 (by decide +kernel) rfl), ⟨by decide +kernel, by decide +kernel⟩, by decide +kernel⟩
theorem ml_M_155 : fv_ML (fk D dA) WA "FeedDeskModel" 155 m_M_isId 1 := ⟨wa_good, co_M_isId, wa_t 9 (by decide +kernel) rfl, Or.inl (wa_t 675 (by decide +kernel) rfl), ⟨by decide +kernel, by decide +kernel⟩, by decide +kernel⟩
theorem ml_M_159 : fv_ML (fk D dA) WA "FeedDeskModel" 159 m_M_take 6 := ⟨wa_good, co_M_take, wa_t 9 (by decide +kernel) rfl, Or.inl (wa_t 680 (by decide +kernel) rfl), ⟨by decide +kernel, by decide +kernel⟩, by decide +kernel⟩
theorem ml_M_144 : fv_ML (fk D dA) WA "FeedDeskModel" 144 m_M_goOver 2 := ⟨wa_good, co_M_goOver, wa_t 9 (by decide +kernel) rfl, Or.inl (wa_t 684 (by decide +kernel) rfl), ⟨by decide +kernel, by decide +kernel⟩, by decide +kernel⟩
theorem ml_M_125 : fv_ML (fk D dA) WA "FeedDeskModel" 125 m_M_perform 1 := ⟨wa_good, co_M_perform, wa_t 9 (by decide +kernel) rfl, Or.inl (wa_t 688 (by decide +kernel) rfl), ⟨by decide +kernel, by decide +kernel⟩, by decide +kernel⟩
theorem ml_M_110 : fv_ML (fk D dA) WA "FeedDeskModel" 110 m_M_find 1 := ⟨wa_good, co_M_find, wa_t 9 (by decide +kernel) rfl, Or.inl (wa_t 692 (by decide +kernel) rfl), ⟨by decide +kernel, by decide +kernel⟩, by decide +kernel⟩
theorem ml_M_114 : fv_ML (fk D dA) WA "FeedDeskModel" 114 m_M_drop 1 := ⟨wa_good, co_M_drop, wa_t 9 (by decide +kernel) rfl, Or.inl (wa_t 696 (by decide +kernel) rfl), ⟨by decide +kernel, by decide +kernel⟩, by decide +kernel⟩
theorem ml_L_22 : fv_ML (fk D dA) WA "FeedDeskLaw" 22 m_M_change 3 := ⟨wa_good, co_M_change, wa_t 9 (by decide +kernel) rfl, Or.inl (wa_t 700 (by decide +kernel) rfl), ⟨by decide +kernel, by decide +kernel⟩, by decide +kernel⟩
theorem ml_L_26 : fv_ML (fk D dA) WA "FeedDeskLaw" 26 m_M_execute 3 := ⟨wa_good, co_M_execute, wa_t 9 (by decide +kernel) rfl, Or.inl (wa_t 704 (by decide +kernel) rfl), ⟨by decide +kernel, by decide +kernel⟩, by decide +kernel⟩
theorem ml_L_31 : fv_ML (fk D dA) WA "FeedDeskLaw" 31 m_M_cancel 2 := ⟨wa_good, co_M_cancel, wa_t 9 (by decide +kernel) rfl, Or.inl (wa_t 708 (by decide +kernel) rfl), ⟨by decide +kernel, by decide +kernel⟩, by decide +kernel⟩
theorem ml_L_36 : fv_ML (fk D dA) WA "FeedDeskLaw" 36 m_M_halt 2 := ⟨wa_good, co_M_halt, wa_t 9 (by decide +kernel) rfl, Or.inl (wa_t 712 (by decide +kernel) rfl), ⟨by decide +kernel, by decide +kernel⟩, by decide +kernel⟩
theorem ml_L_41 : fv_ML (fk D dA) WA "FeedDeskLaw" 41 m_M_clear 1 := ⟨wa_good, co_M_clear, wa_t 9 (by decide +kernel) rfl, Or.inl (wa_t 716 (by decide +kernel) rfl), ⟨by decide +kernel, by decide +kernel⟩, by decide +kernel⟩
theorem ml_L_46 : fv_ML (fk D dA) WA "FeedDeskLaw" 46 m_M_publish 0 := ⟨wa_good, co_M_publish, wa_t 9 (by decide +kernel) rfl, Or.inl (wa_t 720 (by decide +kernel) rfl), ⟨by decide +kernel, by decide +kernel⟩, by decide +kernel⟩
theorem ml_L_50 : fv_ML (fk D dA) WA "FeedDeskLaw" 50 m_M_packetByte 2 := ⟨wa_good, co_M_packetByte, wa_t 9 (by decide +kernel) rfl, Or.inl (wa_t 724 (by decide +kernel) rfl), ⟨by decide +kernel, by decide +kernel⟩, by decide +kernel⟩
theorem ml_M_163 : fv_ML (fk D dA) WA "FeedDeskModel" 163 m_M_byteOf 2 := ⟨wa_good, co_M_byteOf, wa_t 9 (by decide +kernel) rfl, Or.inl (wa_t 728 (by decide +kernel) rfl), ⟨by decide +kernel, by decide +kernel⟩, by decide +kernel⟩
theorem ml_M_166 : fv_ML (fk D dA) WA "FeedDeskModel" 166 m_M_eventByte 2 := ⟨wa_good, co_M_eventByte, wa_t 9 (by decide +kernel) rfl, Or.inl (wa_t 731 (by decide +kernel) rfl), ⟨by decide +kernel, by decide +kernel⟩, by decide +kernel⟩
theorem ml_L_54 : fv_ML (fk D dA) WA "FeedDeskLaw" 54 m_M_line 3 := ⟨wa_good, co_M_line, wa_t 9 (by decide +kernel) rfl, Or.inl (wa_t 735 (by decide +kernel) rfl), ⟨by decide +kernel, by decide +kernel⟩, by decide +kernel⟩
theorem ml_M_192 : fv_ML (fk D dA) WA "FeedDeskModel" 192 m_M_isReceiver 1 := ⟨wa_good, co_M_isReceiver, wa_t 9 (by decide +kernel) rfl, Or.inl (wa_t 739 (by decide +kernel) rfl), ⟨by decide +kernel, by decide +kernel⟩, by decide +kernel⟩
theorem ml_M_195 : fv_ML (fk D dA) WA "FeedDeskModel" 195 m_M_hear 2 := ⟨wa_good, co_M_hear, wa_t 9 (by decide +kernel) rfl, Or.inl (wa_t 742 (by decide +kernel) rfl), ⟨by decide +kernel, by decide +kernel⟩, by decide +kernel⟩
theorem ml_M_186 : fv_ML (fk D dA) WA "FeedDeskModel" 186 m_M_pass 1 := ⟨wa_good, co_M_pass, wa_t 9 (by decide +kernel) rfl, Or.inl (wa_t 746 (by decide +kernel) rfl), ⟨by decide +kernel, by decide +kernel⟩, by decide +kernel⟩
theorem ml_M_183 : fv_ML (fk D dA) WA "FeedDeskModel" 183 m_M_event 2 := ⟨wa_good, co_M_event, wa_t 9 (by decide +kernel) rfl, Or.inl (wa_t 750 (by decide +kernel) rfl), ⟨by decide +kernel, by decide +kernel⟩, by decide +kernel⟩
theorem ml_M_176 : fv_ML (fk D dA) WA "FeedDeskModel" 176 m_M_become 3 := ⟨wa_good, co_M_become, wa_t 9 (by decide +kernel) rfl, Or.inl (wa_t 754 (by decide +kernel) rfl), ⟨by decide +kernel, by decide +kernel⟩, by decide +kernel⟩
theorem ml_M_169 : fv_ML (fk D dA) WA "FeedDeskModel" 169 m_M_look 1 := ⟨wa_good, co_M_look, wa_t 9 (by decide +kernel) rfl, Or.inl (wa_t 758 (by decide +kernel) rfl), ⟨by decide +kernel, by decide +kernel⟩, by decide +kernel⟩
theorem ml_M_140 : fv_ML (fk D dA) WA "FeedDeskModel" 140 m_M_ofLevel 3 := ⟨wa_good, co_M_ofLevel, wa_t 9 (by decide +kernel) rfl, Or.inl (wa_t 762 (by decide +kernel) rfl), ⟨by decide +kernel, by decide +kernel⟩, by decide +kernel⟩
theorem ml_M_136 : fv_ML (fk D dA) WA "FeedDeskModel" 136 m_M_levelAt 2 := ⟨wa_good, co_M_levelAt, wa_t 9 (by decide +kernel) rfl, Or.inl (wa_t 766 (by decide +kernel) rfl), ⟨by decide +kernel, by decide +kernel⟩, by decide +kernel⟩
theorem ml_M_132 : fv_ML (fk D dA) WA "FeedDeskModel" 132 m_M_orderAt 2 := ⟨wa_good, co_M_orderAt, wa_t 9 (by decide +kernel) rfl, Or.inl (wa_t 770 (by decide +kernel) rfl), ⟨by decide +kernel, by decide +kernel⟩, by decide +kernel⟩
theorem ml_M_128 : fv_ML (fk D dA) WA "FeedDeskModel" 128 m_M_ahead 2 := ⟨wa_good, co_M_ahead, wa_t 9 (by decide +kernel) rfl, Or.inl (wa_t 774 (by decide +kernel) rfl), ⟨by decide +kernel, by decide +kernel⟩, by decide +kernel⟩
theorem ml_M_180 : fv_ML (fk D dA) WA "FeedDeskModel" 180 m_M_follow 2 := ⟨wa_good, co_M_follow, wa_t 9 (by decide +kernel) rfl, Or.inl (wa_t 779 (by decide +kernel) rfl), ⟨by decide +kernel, by decide +kernel⟩, by decide +kernel⟩
theorem ml_M_173 : fv_ML (fk D dA) WA "FeedDeskModel" 173 m_M_release 2 := ⟨wa_good, co_M_release, wa_t 9 (by decide +kernel) rfl, Or.inl (wa_t 783 (by decide +kernel) rfl), ⟨by decide +kernel, by decide +kernel⟩, by decide +kernel⟩
theorem ml_M_189 : fv_ML (fk D dA) WA "FeedDeskModel" 189 m_M_goOn 1 := ⟨wa_good, co_M_goOn, wa_t 9 (by decide +kernel) rfl, Or.inl (wa_t 787 (by decide +kernel) rfl), ⟨by decide +kernel, by decide +kernel⟩, by decide +kernel⟩
theorem ml_L_58 : fv_ML (fk D dA) WA "FeedDeskLaw" 58 m_M_askReplay 1 := ⟨wa_good, co_M_askReplay, wa_t 9 (by decide +kernel) rfl, Or.inl (wa_t 791 (by decide +kernel) rfl), ⟨by decide +kernel, by decide +kernel⟩, by decide +kernel⟩
theorem ml_M_198 : fv_ML (fk D dA) WA "FeedDeskModel" 198 m_M_gapEnd 1 := ⟨wa_good, co_M_gapEnd, wa_t 9 (by decide +kernel) rfl, Or.inl (wa_t 795 (by decide +kernel) rfl), ⟨by decide +kernel, by decide +kernel⟩, by decide +kernel⟩
theorem ml_L_62 : fv_ML (fk D dA) WA "FeedDeskLaw" 62 m_M_serveReplay 1 := ⟨wa_good, co_M_serveReplay, wa_t 9 (by decide +kernel) rfl, Or.inl (wa_t 799 (by decide +kernel) rfl), ⟨by decide +kernel, by decide +kernel⟩, by decide +kernel⟩
theorem ml_L_66 : fv_ML (fk D dA) WA "FeedDeskLaw" 66 m_M_snapshotTurn 0 := ⟨wa_good, co_M_snapshotTurn, wa_t 9 (by decide +kernel) rfl, Or.inl (wa_t 803 (by decide +kernel) rfl), ⟨by decide +kernel, by decide +kernel⟩, by decide +kernel⟩
theorem ml_L_70 : fv_ML (fk D dA) WA "FeedDeskLaw" 70 m_M_hearSnapshot 3 := ⟨wa_good, co_M_hearSnapshot, wa_t 9 (by decide +kernel) rfl, Or.inl (wa_t 807 (by decide +kernel) rfl), ⟨by decide +kernel, by decide +kernel⟩, by decide +kernel⟩
theorem ml_M_204 : fv_ML (fk D dA) WA "FeedDeskModel" 204 m_M_pieces 1 := ⟨wa_good, co_M_pieces, wa_t 9 (by decide +kernel) rfl, Or.inl (wa_t 811 (by decide +kernel) rfl), ⟨by decide +kernel, by decide +kernel⟩, by decide +kernel⟩
theorem ml_L_74 : fv_ML (fk D dA) WA "FeedDeskLaw" 74 m_M_sound 2 := ⟨wa_good, co_M_sound, wa_t 9 (by decide +kernel) rfl, Or.inl (wa_t 815 (by decide +kernel) rfl), ⟨by decide +kernel, by decide +kernel⟩, by decide +kernel⟩
theorem ml_L_78 : fv_ML (fk D dA) WA "FeedDeskLaw" 78 m_M_at 2 := ⟨wa_good, co_M_at, wa_t 9 (by decide +kernel) rfl, Or.inl (wa_t 819 (by decide +kernel) rfl), ⟨by decide +kernel, by decide +kernel⟩, by decide +kernel⟩
theorem ml_M_207 : fv_ML (fk D dA) WA "FeedDeskModel" 207 m_M_isBook 2 := ⟨wa_good, co_M_isBook, wa_t 9 (by decide +kernel) rfl, Or.inl (wa_t 823 (by decide +kernel) rfl), ⟨by decide +kernel, by decide +kernel⟩, by decide +kernel⟩
theorem ml_M_210 : fv_ML (fk D dA) WA "FeedDeskModel" 210 m_M_manyOf 2 := ⟨wa_good, co_M_manyOf, wa_t 9 (by decide +kernel) rfl, Or.inl (wa_t 826 (by decide +kernel) rfl), ⟨by decide +kernel, by decide +kernel⟩, by decide +kernel⟩
theorem ml_L_82 : fv_ML (fk D dA) WA "FeedDeskLaw" 82 m_M_receiver 2 := ⟨wa_good, co_M_receiver, wa_t 9 (by decide +kernel) rfl, Or.inl (wa_t 830 (by decide +kernel) rfl), ⟨by decide +kernel, by decide +kernel⟩, by decide +kernel⟩
theorem ml_L_86 : fv_ML (fk D dA) WA "FeedDeskLaw" 86 m_M_best 5 := ⟨wa_good, co_M_best, wa_t 9 (by decide +kernel) rfl, Or.inl (wa_t 834 (by decide +kernel) rfl), ⟨by decide +kernel, by decide +kernel⟩, by decide +kernel⟩
theorem ml_L_91 : fv_ML (fk D dA) WA "FeedDeskLaw" 91 m_M_order 4 := ⟨wa_good, co_M_order, wa_t 9 (by decide +kernel) rfl, Or.inl (wa_t 839 (by decide +kernel) rfl), ⟨by decide +kernel, by decide +kernel⟩, by decide +kernel⟩
theorem ml_L_95 : fv_ML (fk D dA) WA "FeedDeskLaw" 95 m_M_halted 2 := ⟨wa_good, co_M_halted, wa_t 9 (by decide +kernel) rfl, Or.inl (wa_t 843 (by decide +kernel) rfl), ⟨by decide +kernel, by decide +kernel⟩, by decide +kernel⟩
theorem ml_L_99 : fv_ML (fk D dA) WA "FeedDeskLaw" 99 m_M_dirty 1 := ⟨wa_good, co_M_dirty, wa_t 9 (by decide +kernel) rfl, Or.inl (wa_t 847 (by decide +kernel) rfl), ⟨by decide +kernel, by decide +kernel⟩, by decide +kernel⟩
theorem ml_L_103 : fv_ML (fk D dA) WA "FeedDeskLaw" 103 m_M_read 1 := ⟨wa_good, co_M_read, wa_t 9 (by decide +kernel) rfl, Or.inl (wa_t 851 (by decide +kernel) rfl), ⟨by decide +kernel, by decide +kernel⟩, by decide +kernel⟩
theorem ml_L_107 : fv_ML (fk D dA) WA "FeedDeskLaw" 107 m_M_view 4 := ⟨wa_good, co_M_view, wa_t 9 (by decide +kernel) rfl, Or.inl (wa_t 855 (by decide +kernel) rfl), ⟨by decide +kernel, by decide +kernel⟩, by decide +kernel⟩
theorem ml_P_43 : fv_ML (fk D dA) WA "FeedDesk$Publisher" 43 m_B_init 0 := ⟨wa_good, co_B_init, wa_t 3 (by decide +kernel) rfl, Or.inr ⟨"FeedDesk", by show _ ∈ fk_NM; decide +kernel⟩, ⟨by decide +kernel, by decide +kernel⟩, by decide +kernel⟩
theorem ml_P_44 : fv_ML (fk D dA) WA "FeedDesk$Publisher" 44 m_S_init 0 := ⟨wa_good, co_S_init, wa_t 4 (by decide +kernel) rfl, Or.inr ⟨"FeedDesk", by show _ ∈ fk_NM; decide +kernel⟩, ⟨by decide +kernel, by decide +kernel⟩, by decide +kernel⟩
theorem ml_S_11 : fv_ML (fk D dA) WA "FeedDesk$Snapshot" 11 m_B_init 0 := ⟨wa_good, co_B_init, wa_t 3 (by decide +kernel) rfl, Or.inr ⟨"FeedDesk", by show _ ∈ fk_NM; decide +kernel⟩, ⟨by decide +kernel, by decide +kernel⟩, by decide +kernel⟩
theorem ml_D_28 : fv_ML (fk D dA) WA "FeedDesk" 28 m_W_init 0 := ⟨wa_good, co_W_init, wa_t 5 (by decide +kernel) rfl, Or.inr ⟨"FeedDesk", by show _ ∈ fk_NM; decide +kernel⟩, ⟨by decide +kernel, by decide +kernel⟩, by decide +kernel⟩
theorem ml_W_19 : fv_ML (fk D dA) WA "FeedDesk$Reader" 19 m_D_emptyView 0 := ⟨wa_good, co_D_emptyView, wa_t 1 (by decide +kernel) rfl, Or.inr ⟨"FeedDesk", by show _ ∈ fk_NM; decide +kernel⟩, ⟨by decide +kernel, by decide +kernel⟩, by decide +kernel⟩
theorem ml_T_11 : fv_ML (fk D dA) WA "FeedDesk$Track" 11 m_B_init 0 := ⟨wa_good, co_B_init, wa_t 3 (by decide +kernel) rfl, Or.inr ⟨"FeedDesk", by show _ ∈ fk_NM; decide +kernel⟩, ⟨by decide +kernel, by decide +kernel⟩, by decide +kernel⟩
theorem ml_T_18 : fv_ML (fk D dA) WA "FeedDesk$Track" 18 m_D_emptyView 0 := ⟨wa_good, co_D_emptyView, wa_t 1 (by decide +kernel) rfl, Or.inr ⟨"FeedDesk", by show _ ∈ fk_NM; decide +kernel⟩, ⟨by decide +kernel, by decide +kernel⟩, by decide +kernel⟩
theorem nl_D_3 : Cond.methodLink "FeedDesk" 3 Lib.objectInit ∈ WA := wa_t 18 (by decide +kernel) rfl
theorem nl_P_3 : Cond.methodLink "FeedDesk$Publisher" 3 Lib.objectInit ∈ WA := wa_t 30 (by decide +kernel) rfl
theorem nl_B_3 : Cond.methodLink "FeedDesk$Book" 3 Lib.objectInit ∈ WA := wa_t 41 (by decide +kernel) rfl
theorem nl_S_3 : Cond.methodLink "FeedDesk$Snapshot" 3 Lib.objectInit ∈ WA := wa_t 73 (by decide +kernel) rfl
theorem nl_W_3 : Cond.methodLink "FeedDesk$Reader" 3 Lib.objectInit ∈ WA := wa_t 118 (by decide +kernel) rfl
theorem nl_V_3 : Cond.methodLink "FeedDesk$Receiver" 3 Lib.objectInit ∈ WA := wa_t 142 (by decide +kernel) rfl
theorem nl_T_3 : Cond.methodLink "FeedDesk$Track" 3 Lib.objectInit ∈ WA := wa_t 149 (by decide +kernel) rfl
theorem nl_E_1 : Cond.methodLink "FeedDesk$Event" 1 Lib.objectInit ∈ WA := wa_t 247 (by decide +kernel) rfl
theorem nl_B_74 : Cond.methodLink "FeedDesk$Book" 74 arraycopyName ∈ WA := wa_t 294 (by decide +kernel) rfl
theorem nl_V_38 : Cond.methodLink "FeedDesk$Receiver" 38 Lib.Math.max.name ∈ WA := wa_t 372 (by decide +kernel) rfl
theorem nl_S_32 : Cond.methodLink "FeedDesk$Snapshot" 32 Lib.Math.max.name ∈ WA := wa_t 472 (by decide +kernel) rfl
theorem nl_W_26 : Cond.methodLink "FeedDesk$Reader" 26 arraycopyName ∈ WA := wa_t 547 (by decide +kernel) rfl
theorem nl_M_1 : Cond.methodLink "FeedDeskModel" 1 Lib.objectInit ∈ WA := wa_t 558 (by decide +kernel) rfl
theorem n_oi : Cond.instanceMethod Lib.objectInit ∈ WA := wa_t 19 (by decide +kernel) rfl
theorem n_oc : Cond.code Lib.objectInit ⟨#[0xb1]⟩ 1 none ∈ WA := wa_t 20 (by decide +kernel) rfl
theorem n_ms : Cond.static Lib.Math.max.name ∈ WA := wa_t 373 (by decide +kernel) rfl
theorem n_mc : Cond.code Lib.Math.max.name Lib.Math.max.code 2 (some .int) ∈ WA := wa_t 374 (by decide +kernel) rfl
theorem n_mi : Cond.initialized "java/lang/Math" ∈ WA := wa_t 12 (by decide +kernel) rfl
theorem n_an : Cond.native arraycopyName ∈ WA := wa_t 296 (by decide +kernel) rfl
theorem n_as : Cond.static arraycopyName ∈ WA := wa_t 295 (by decide +kernel) rfl
theorem n_ai : Cond.initialized "java/lang/System" ∈ WA := wa_t 11 (by decide +kernel) rfl
theorem n_ci : Cond.arrayClass .int ∈ WA := wa_t 68 (by decide +kernel) rfl
theorem n_cz : Cond.arrayClass .boolean ∈ WA := wa_t 179 (by decide +kernel) rfl
theorem kl_L_7 : Cond.classLink "FeedDeskLaw" 7 "FeedDesk" ∈ WA := wa_t 13 (by decide +kernel) rfl
theorem kl_D_9 : Cond.classLink "FeedDesk" 9 "FeedDesk$Receiver" ∈ WA := wa_t 21 (by decide +kernel) rfl
theorem kl_D_15 : Cond.classLink "FeedDesk" 15 "FeedDesk$Reader" ∈ WA := wa_t 23 (by decide +kernel) rfl
theorem kl_D_21 : Cond.classLink "FeedDesk" 21 "FeedDesk$Publisher" ∈ WA := wa_t 25 (by decide +kernel) rfl
theorem kl_P_9 : Cond.classLink "FeedDesk$Publisher" 9 "FeedDesk$Book" ∈ WA := wa_t 31 (by decide +kernel) rfl
theorem kl_P_17 : Cond.classLink "FeedDesk$Publisher" 17 "FeedDesk$Event" ∈ WA := wa_t 33 (by decide +kernel) rfl
theorem kl_P_34 : Cond.classLink "FeedDesk$Publisher" 34 "FeedDesk$Snapshot" ∈ WA := wa_t 35 (by decide +kernel) rfl
theorem kl_S_9 : Cond.classLink "FeedDesk$Snapshot" 9 "FeedDesk$Book" ∈ WA := wa_t 74 (by decide +kernel) rfl
theorem kl_V_9 : Cond.classLink "FeedDesk$Receiver" 9 "FeedDesk$Track" ∈ WA := wa_t 143 (by decide +kernel) rfl
theorem kl_T_9 : Cond.classLink "FeedDesk$Track" 9 "FeedDesk$Book" ∈ WA := wa_t 150 (by decide +kernel) rfl
theorem kl_T_26 : Cond.classLink "FeedDesk$Track" 26 "FeedDesk$Event" ∈ WA := wa_t 153 (by decide +kernel) rfl
theorem kl_L_10 : Cond.classLink "FeedDeskLaw" 10 "FeedDeskModel" ∈ WA := wa_t 553 (by decide +kernel) rfl
theorem in_D : Cond.instantiable "FeedDesk" 3 ∈ WA := wa_t 14 (by decide +kernel) rfl
theorem ii_D : Cond.initialized "FeedDesk" ∈ WA := wa_t 1 (by decide +kernel) rfl
theorem in_B : Cond.instantiable "FeedDesk$Book" 7 ∈ WA := wa_t 37 (by decide +kernel) rfl
theorem ii_B : Cond.initialized "FeedDesk$Book" ∈ WA := wa_t 3 (by decide +kernel) rfl
theorem in_E : Cond.instantiable "FeedDesk$Event" 7 ∈ WA := wa_t 243 (by decide +kernel) rfl
theorem ii_E : Cond.initialized "FeedDesk$Event" ∈ WA := wa_t 10 (by decide +kernel) rfl
theorem in_P : Cond.instantiable "FeedDesk$Publisher" 7 ∈ WA := wa_t 26 (by decide +kernel) rfl
theorem ii_P : Cond.initialized "FeedDesk$Publisher" ∈ WA := wa_t 2 (by decide +kernel) rfl
theorem in_W : Cond.instantiable "FeedDesk$Reader" 3 ∈ WA := wa_t 114 (by decide +kernel) rfl
theorem ii_W : Cond.initialized "FeedDesk$Reader" ∈ WA := wa_t 5 (by decide +kernel) rfl
theorem in_V : Cond.instantiable "FeedDesk$Receiver" 6 ∈ WA := wa_t 138 (by decide +kernel) rfl
theorem ii_V : Cond.initialized "FeedDesk$Receiver" ∈ WA := wa_t 7 (by decide +kernel) rfl
theorem in_S : Cond.instantiable "FeedDesk$Snapshot" 3 ∈ WA := wa_t 69 (by decide +kernel) rfl
theorem ii_S : Cond.initialized "FeedDesk$Snapshot" ∈ WA := wa_t 4 (by decide +kernel) rfl
theorem in_T : Cond.instantiable "FeedDesk$Track" 7 ∈ WA := wa_t 145 (by decide +kernel) rfl
theorem ii_T : Cond.initialized "FeedDesk$Track" ∈ WA := wa_t 8 (by decide +kernel) rfl
theorem in_M : Cond.instantiable "FeedDeskModel" 35 ∈ WA := wa_t 554 (by decide +kernel) rfl
theorem ii_M : Cond.initialized "FeedDeskModel" ∈ WA := wa_t 9 (by decide +kernel) rfl
theorem kc_D_157 : Jvm.Cond.constant "FeedDesk" 157 (-2000000) ∈ WA := wa_t 122 (by decide +kernel) rfl
theorem kc_D_43 : Jvm.Cond.constant "FeedDesk" 43 (1000000) ∈ WA := wa_t 222 (by decide +kernel) rfl
theorem kc_D_42 : Jvm.Cond.constant "FeedDesk" 42 (-1000000) ∈ WA := wa_t 226 (by decide +kernel) rfl
theorem kc_B_84 : Jvm.Cond.constant "FeedDesk$Book" 84 (-2000000) ∈ WA := wa_t 398 (by decide +kernel) rfl
theorem kc_D_132 : Jvm.Cond.constant "FeedDesk" 132 (-4000000) ∈ WA := wa_t 520 (by decide +kernel) rfl
theorem kc_M_105 : Jvm.Cond.constant "FeedDeskModel" 105 (1000000) ∈ WA := wa_t 678 (by decide +kernel) rfl
theorem kc_M_158 : Jvm.Cond.constant "FeedDeskModel" 158 (-1000000) ∈ WA := wa_t 679 (by decide +kernel) rfl
theorem kc_M_139 : Jvm.Cond.constant "FeedDeskModel" 139 (-2000000) ∈ WA := wa_t 778 (by decide +kernel) rfl
theorem kc_M_213 : Jvm.Cond.constant "FeedDeskModel" 213 (-4000000) ∈ WA := wa_t 838 (by decide +kernel) rfl
end
section
/-! rows for numbers that are naturals (nI), and truth values -/
def fv_b (b : Bool) : Int32 := if b = true then 1 else 0
theorem fv_b_t : fv_b true = 1 := rfl
theorem fv_b_f : fv_b false = 0 := rfl
theorem fv_b_nI (b : Bool) : fv_b b = nI (if b = true then 1 else 0) := by cases b <;> decide +kernel
theorem fv_b_z (b : Bool) : fv_b b = 0 ↔ b = false := by cases b <;> decide +kernel
theorem fv_b_nar (b : Bool) : narrow .boolean (.int (fv_b b)) = .int (fv_b b) := by cases b <;> rfl
theorem fv_b_fit (b : Bool) : fits .boolean (.int (fv_b b)) = true := by cases b <;> rfl
theorem kI_0 : Int32.ofInt 0 = nI 0 := by decide +kernel
theorem kI_1 : Int32.ofInt 1 = nI 1 := by decide +kernel
theorem kI_2 : Int32.ofInt 2 = nI 2 := by decide +kernel
theorem kI_3 : Int32.ofInt 3 = nI 3 := by decide +kernel
theorem kI_4 : Int32.ofInt 4 = nI 4 := by decide +kernel
theorem kI_5 : Int32.ofInt 5 = nI 5 := by decide +kernel
theorem kI_m1 : Int32.ofInt (-1) = -1 := by decide +kernel
theorem kB_2 : (Int8.ofInt 2).toInt32 = nI 2 := by decide +kernel
theorem kB_3 : (Int8.ofInt 3).toInt32 = nI 3 := by decide +kernel
theorem kB_4 : (Int8.ofInt 4).toInt32 = nI 4 := by decide +kernel
theorem kB_5 : (Int8.ofInt 5).toInt32 = nI 5 := by decide +kernel
theorem kB_6 : (Int8.ofInt 6).toInt32 = nI 6 := by decide +kernel
theorem kB_7 : (Int8.ofInt 7).toInt32 = nI 7 := by decide +kernel
theorem kB_8 : (Int8.ofInt 8).toInt32 = nI 8 := by decide +kernel
theorem kB_9 : (Int8.ofInt 9).toInt32 = nI 9 := by decide +kernel
theorem kB_10 : (Int8.ofInt 10).toInt32 = nI 10 := by decide +kernel
theorem kB_11 : (Int8.ofInt 11).toInt32 = nI 11 := by decide +kernel
theorem kB_15 : (Int8.ofInt 15).toInt32 = nI 15 := by decide +kernel
theorem kB_18 : (Int8.ofInt 18).toInt32 = nI 18 := by decide +kernel
theorem kB_19 : (Int8.ofInt 19).toInt32 = nI 19 := by decide +kernel
theorem kB_24 : (Int8.ofInt 24).toInt32 = nI 24 := by decide +kernel
theorem kB_30 : (Int8.ofInt 30).toInt32 = nI 30 := by decide +kernel
theorem kB_31 : (Int8.ofInt 31).toInt32 = nI 31 := by decide +kernel
theorem kB_38 : (Int8.ofInt 38).toInt32 = nI 38 := by decide +kernel
theorem kB_40 : (Int8.ofInt 40).toInt32 = nI 40 := by decide +kernel
theorem kB_m2 : (Int8.ofInt (-2)).toInt32 = -2 := by decide +kernel
theorem kB_m3 : (Int8.ofInt (-3)).toInt32 = -3 := by decide +kernel
theorem kB_m4 : (Int8.ofInt (-4)).toInt32 = -4 := by decide +kernel
theorem kS_255 : (Int16.ofInt 255).toInt32 = nI 255 := by decide +kernel
theorem kS_400 : (Int16.ofInt 400).toInt32 = nI 400 := by decide +kernel
theorem kS_401 : (Int16.ofInt 401).toInt32 = nI 401 := by decide +kernel
theorem kS_402 : (Int16.ofInt 402).toInt32 = nI 402 := by decide +kernel
theorem kS_513 : (Int16.ofInt 513).toInt32 = nI 513 := by decide +kernel
theorem kS_804 : (Int16.ofInt 804).toInt32 = nI 804 := by decide +kernel
theorem kS_3208 : (Int16.ofInt 3208).toInt32 = nI 3208 := by decide +kernel
section FN
variable {K : fv_K} {Bs : Nat} {WA : List Cond} {X : fv_X} {M : fv_M} {mc ms nL : Nat} {Q : State → Prop} {pc n : Nat} {L L' : List (Option Value)} {st : List Value} {sz : Nat} {h : fv_H} {cells slots : Nat}
theorem fv_iaddN (C : fv_C K WA X M mc ms) {x y : Nat}  (hd : decode M.2.1 pc = .ok (.iadd, 1)) (hn : pc + 1 = n) (k : fv_V K Bs X nL Q n L (.int (nI (x + y)) :: st) sz h cells slots) : fv_V K Bs X nL Q pc L (.int (nI y) :: .int (nI x) :: st) sz h cells slots := by
  refine fv_iadd C hd hn ?_
  rw [nI_add]
  exact k
theorem fv_isubN (C : fv_C K WA X M mc ms) {x y : Nat} (hxy : y ≤ x) (hd : decode M.2.1 pc = .ok (.isub, 1)) (hn : pc + 1 = n) (k : fv_V K Bs X nL Q n L (.int (nI (x - y)) :: st) sz h cells slots) : fv_V K Bs X nL Q pc L (.int (nI y) :: .int (nI x) :: st) sz h cells slots := by
  refine fv_isub C hd hn ?_
  rw [pk_sub hxy]
  exact k
theorem fv_imulN (C : fv_C K WA X M mc ms) {x y : Nat}  (hd : decode M.2.1 pc = .ok (.imul, 1)) (hn : pc + 1 = n) (k : fv_V K Bs X nL Q n L (.int (nI (x * y)) :: st) sz h cells slots) : fv_V K Bs X nL Q pc L (.int (nI y) :: .int (nI x) :: st) sz h cells slots := by
  refine fv_imul C hd hn ?_
  rw [pk_mul]
  exact k
theorem fv_idivN (C : fv_C K WA X M mc ms) {x y : Nat} (hx : x < 2 ^ 31) (h0 : 0 < y) (hy : y < 2 ^ 31) (hd : decode M.2.1 pc = .ok (.idiv, 1)) (hn : pc + 1 = n) (k : fv_V K Bs X nL Q n L (.int (nI (x / y)) :: st) sz h cells slots) : fv_V K Bs X nL Q pc L (.int (nI y) :: .int (nI x) :: st) sz h cells slots := by
  refine fv_idiv C hd hn (nI_ne0 h0 hy) ?_
  rw [pk_div hx h0 hy]
  exact k
theorem fv_iremN (C : fv_C K WA X M mc ms) {x y : Nat} (hx : x < 2 ^ 31) (h0 : 0 < y) (hy : y < 2 ^ 31) (hd : decode M.2.1 pc = .ok (.irem, 1)) (hn : pc + 1 = n) (k : fv_V K Bs X nL Q n L (.int (nI (x % y)) :: st) sz h cells slots) : fv_V K Bs X nL Q pc L (.int (nI y) :: .int (nI x) :: st) sz h cells slots := by
  refine fv_irem C hd hn (nI_ne0 h0 hy) ?_
  rw [pk_rem hx h0 hy]
  exact k
theorem fv_iandN (C : fv_C K WA X M mc ms) {x : Nat} {m : Int32} (e : Nat) (hx : x < 2 ^ 32) (hm : m.toBitVec.toNat = 2 ^ e - 1) (hd : decode M.2.1 pc = .ok (.iand, 1)) (hn : pc + 1 = n) (k : fv_V K Bs X nL Q n L (.int (nI (x % 2 ^ e)) :: st) sz h cells slots) : fv_V K Bs X nL Q pc L (.int m :: .int (nI x) :: st) sz h cells slots := by
  refine fv_iand C hd hn ?_
  rw [pk_andN hx e hm]
  exact k
theorem fv_iincN (C : fv_C K WA X M mc ms) {i x : Nat} (hd : decode M.2.1 pc = .ok (.iinc i 1, 3)) (hn : pc + 3 = n) (hx : L[i]? = some (some (.int (nI x)))) (hnL : i < nL) (hL' : L.set i (some (.int (nI (x + 1)))) = L') (k : fv_V K Bs X nL Q n L' st sz h cells slots) : fv_V K Bs X nL Q pc L st sz h cells slots := by
  refine fv_iinc C hd hn hx ?_ hnL hL' k
  rw [kI_1, nI_add]
theorem fv_icmpN_lt (C : fv_C K WA X M mc ms) {x y : Nat} {off : Int} {tgt : Nat} (hx : x < 2 ^ 31) (hy : y < 2 ^ 31) (hd : decode M.2.1 pc = .ok (.if_icmp .lt off, 3)) (ht : (pc : Int) + off = (tgt : Int)) (hn : pc + 3 = n) (kt : x < y → fv_V K Bs X nL Q tgt L st sz h cells slots) (kf : y ≤ x → fv_V K Bs X nL Q n L st sz h cells slots) : fv_V K Bs X nL Q pc L (.int (nI y) :: .int (nI x) :: st) sz h cells slots := by
  have h1 := nI_ltI hx hy
  have h2 := nI_ltI hy hx
  have h3 := nI_leI hx hy
  have h4 := nI_leI hy hx
  have h5 := nI_eq hx hy
  refine fv_icmp_lt C hd ht hn (fun q => kt ?_) (fun q => kf ?_)
  · exact h1.mp q
  · exact Nat.le_of_not_lt fun z => q (h1.mpr z)
theorem fv_icmpN_ge (C : fv_C K WA X M mc ms) {x y : Nat} {off : Int} {tgt : Nat} (hx : x < 2 ^ 31) (hy : y < 2 ^ 31) (hd : decode M.2.1 pc = .ok (.if_icmp .ge off, 3)) (ht : (pc : Int) + off = (tgt : Int)) (hn : pc + 3 = n) (kt : y ≤ x → fv_V K Bs X nL Q tgt L st sz h cells slots) (kf : x < y → fv_V K Bs X nL Q n L st sz h cells slots) : fv_V K Bs X nL Q pc L (.int (nI y) :: .int (nI x) :: st) sz h cells slots := by
  have h1 := nI_ltI hx hy
  have h2 := nI_ltI hy hx
  have h3 := nI_leI hx hy
  have h4 := nI_leI hy hx
  have h5 := nI_eq hx hy
  refine fv_icmp_ge C hd ht hn (fun q => kt ?_) (fun q => kf ?_)
  · first | exact h4.mp q | exact Nat.le_of_not_lt fun z => q (h1.mpr z)
  · first | exact Nat.lt_of_not_le fun z => q (h4.mpr z) | exact h1.mp q
theorem fv_icmpN_gt (C : fv_C K WA X M mc ms) {x y : Nat} {off : Int} {tgt : Nat} (hx : x < 2 ^ 31) (hy : y < 2 ^ 31) (hd : decode M.2.1 pc = .ok (.if_icmp .gt off, 3)) (ht : (pc : Int) + off = (tgt : Int)) (hn : pc + 3 = n) (kt : y < x → fv_V K Bs X nL Q tgt L st sz h cells slots) (kf : x ≤ y → fv_V K Bs X nL Q n L st sz h cells slots) : fv_V K Bs X nL Q pc L (.int (nI y) :: .int (nI x) :: st) sz h cells slots := by
  have h1 := nI_ltI hx hy
  have h2 := nI_ltI hy hx
  have h3 := nI_leI hx hy
  have h4 := nI_leI hy hx
  have h5 := nI_eq hx hy
  refine fv_icmp_gt C hd ht hn (fun q => kt ?_) (fun q => kf ?_)
  · exact h2.mp q
  · exact Nat.le_of_not_lt fun z => q (h2.mpr z)
theorem fv_icmpN_le (C : fv_C K WA X M mc ms) {x y : Nat} {off : Int} {tgt : Nat} (hx : x < 2 ^ 31) (hy : y < 2 ^ 31) (hd : decode M.2.1 pc = .ok (.if_icmp .le off, 3)) (ht : (pc : Int) + off = (tgt : Int)) (hn : pc + 3 = n) (kt : x ≤ y → fv_V K Bs X nL Q tgt L st sz h cells slots) (kf : y < x → fv_V K Bs X nL Q n L st sz h cells slots) : fv_V K Bs X nL Q pc L (.int (nI y) :: .int (nI x) :: st) sz h cells slots := by
  have h1 := nI_ltI hx hy
  have h2 := nI_ltI hy hx
  have h3 := nI_leI hx hy
  have h4 := nI_leI hy hx
  have h5 := nI_eq hx hy
  refine fv_icmp_le C hd ht hn (fun q => kt ?_) (fun q => kf ?_)
  · first | exact h3.mp q | exact Nat.le_of_not_lt fun z => q (h2.mpr z)
  · first | exact Nat.lt_of_not_le fun z => q (h3.mpr z) | exact h2.mp q
theorem fv_icmpN_eq (C : fv_C K WA X M mc ms) {x y : Nat} {off : Int} {tgt : Nat} (hx : x < 2 ^ 31) (hy : y < 2 ^ 31) (hd : decode M.2.1 pc = .ok (.if_icmp .eq off, 3)) (ht : (pc : Int) + off = (tgt : Int)) (hn : pc + 3 = n) (kt : x = y → fv_V K Bs X nL Q tgt L st sz h cells slots) (kf : x ≠ y → fv_V K Bs X nL Q n L st sz h cells slots) : fv_V K Bs X nL Q pc L (.int (nI y) :: .int (nI x) :: st) sz h cells slots := by
  have h1 := nI_ltI hx hy
  have h2 := nI_ltI hy hx
  have h3 := nI_leI hx hy
  have h4 := nI_leI hy hx
  have h5 := nI_eq hx hy
  refine fv_icmp_eq C hd ht hn (fun q => kt ?_) (fun q => kf ?_)
  · exact h5.mp q
  · exact fun z => q (h5.mpr z)
theorem fv_icmpN_ne (C : fv_C K WA X M mc ms) {x y : Nat} {off : Int} {tgt : Nat} (hx : x < 2 ^ 31) (hy : y < 2 ^ 31) (hd : decode M.2.1 pc = .ok (.if_icmp .ne off, 3)) (ht : (pc : Int) + off = (tgt : Int)) (hn : pc + 3 = n) (kt : x ≠ y → fv_V K Bs X nL Q tgt L st sz h cells slots) (kf : x = y → fv_V K Bs X nL Q n L st sz h cells slots) : fv_V K Bs X nL Q pc L (.int (nI y) :: .int (nI x) :: st) sz h cells slots := by
  have h1 := nI_ltI hx hy
  have h2 := nI_ltI hy hx
  have h3 := nI_leI hx hy
  have h4 := nI_leI hy hx
  have h5 := nI_eq hx hy
  refine fv_icmp_ne C hd ht hn (fun q => kt ?_) (fun q => kf ?_)
  · exact fun z => q (h5.mpr z)
  · first | exact h5.mp q | exact Decidable.byContradiction fun z => q (fun w => z (h5.mp w))
theorem fv_ifB_eq (C : fv_C K WA X M mc ms) {b : Bool} {off : Int} {tgt : Nat} (hd : decode M.2.1 pc = .ok (.ifCond .eq off, 3)) (ht : (pc : Int) + off = (tgt : Int)) (hn : pc + 3 = n) (kt : b = false → fv_V K Bs X nL Q tgt L st sz h cells slots) (kf : b = true → fv_V K Bs X nL Q n L st sz h cells slots) : fv_V K Bs X nL Q pc L (.int (fv_b b) :: st) sz h cells slots := by
  refine fv_if_eq C hd ht hn (fun q => kt ((fv_b_z b).mp q)) (fun q => kf ?_)
  cases b with
  | true => rfl
  | false => exact absurd rfl q
theorem fv_ifB_ne (C : fv_C K WA X M mc ms) {b : Bool} {off : Int} {tgt : Nat} (hd : decode M.2.1 pc = .ok (.ifCond .ne off, 3)) (ht : (pc : Int) + off = (tgt : Int)) (hn : pc + 3 = n) (kt : b = true → fv_V K Bs X nL Q tgt L st sz h cells slots) (kf : b = false → fv_V K Bs X nL Q n L st sz h cells slots) : fv_V K Bs X nL Q pc L (.int (fv_b b) :: st) sz h cells slots := by
  refine fv_if_ne C hd ht hn (fun q => kt ?_) (fun q => kf ?_)
  · cases b with
    | true => rfl
    | false => exact absurd rfl q
  · cases b with
    | true => exact absurd q (by decide +kernel)
    | false => rfl
theorem fv_ifN_eq (C : fv_C K WA X M mc ms) {x : Nat} {off : Int} {tgt : Nat} (hx : x < 2 ^ 31) (hd : decode M.2.1 pc = .ok (.ifCond .eq off, 3)) (ht : (pc : Int) + off = (tgt : Int)) (hn : pc + 3 = n) (kt : x = 0 → fv_V K Bs X nL Q tgt L st sz h cells slots) (kf : x ≠ 0 → fv_V K Bs X nL Q n L st sz h cells slots) : fv_V K Bs X nL Q pc L (.int (nI x) :: st) sz h cells slots := by
  refine fv_if_eq C hd ht hn (fun q => kt ?_) (fun q => kf ?_)
  · exact Decidable.byContradiction fun z => nI_ne0 (Nat.pos_of_ne_zero z) hx q
  · intro z
    subst z
    exact q nI_0
theorem fv_ifN_ne (C : fv_C K WA X M mc ms) {x : Nat} {off : Int} {tgt : Nat} (hx : x < 2 ^ 31) (hd : decode M.2.1 pc = .ok (.ifCond .ne off, 3)) (ht : (pc : Int) + off = (tgt : Int)) (hn : pc + 3 = n) (kt : x ≠ 0 → fv_V K Bs X nL Q tgt L st sz h cells slots) (kf : x = 0 → fv_V K Bs X nL Q n L st sz h cells slots) : fv_V K Bs X nL Q pc L (.int (nI x) :: st) sz h cells slots := by
  by_cases hz : x = 0
  · exact fv_if_ne C hd ht hn (fun q => absurd (by rw [hz]; exact nI_0) q) (fun _ => kf hz)
  · exact fv_if_ne C hd ht hn (fun _ => kt hz) (fun q => absurd (show ¬ nI x = 0 from nI_ne0 (Nat.pos_of_ne_zero hz) hx) (by first | exact fun z => z q | exact q))
theorem fv_ifN_lt (C : fv_C K WA X M mc ms) {x : Nat} {off : Int} {tgt : Nat} (hx : x < 2 ^ 31) (hd : decode M.2.1 pc = .ok (.ifCond .lt off, 3)) (ht : (pc : Int) + off = (tgt : Int)) (hn : pc + 3 = n) (kf : fv_V K Bs X nL Q n L st sz h cells slots) : fv_V K Bs X nL Q pc L (.int (nI x) :: st) sz h cells slots := fv_if_lt C hd ht hn (fun q => absurd q (nI_pos hx)) (fun _ => kf)
theorem fv_ifN_ge (C : fv_C K WA X M mc ms) {x : Nat} {off : Int} {tgt : Nat} (hx : x < 2 ^ 31) (hd : decode M.2.1 pc = .ok (.ifCond .ge off, 3)) (ht : (pc : Int) + off = (tgt : Int)) (hn : pc + 3 = n) (kt : fv_V K Bs X nL Q tgt L st sz h cells slots) : fv_V K Bs X nL Q pc L (.int (nI x) :: st) sz h cells slots := fv_if_ge C hd ht hn (fun _ => kt) (fun q => absurd (show 0 ≤ nI x from nI_pos' hx) (by first | exact q | exact Int32.not_le.mpr q))
theorem fv_ifN_le (C : fv_C K WA X M mc ms) {x : Nat} {off : Int} {tgt : Nat} (hx : x < 2 ^ 31) (hd : decode M.2.1 pc = .ok (.ifCond .le off, 3)) (ht : (pc : Int) + off = (tgt : Int)) (hn : pc + 3 = n) (kt : x = 0 → fv_V K Bs X nL Q tgt L st sz h cells slots) (kf : 0 < x → fv_V K Bs X nL Q n L st sz h cells slots) : fv_V K Bs X nL Q pc L (.int (nI x) :: st) sz h cells slots := by
  by_cases hz : x = 0
  · exact fv_if_le C hd ht hn (fun _ => kt hz) (fun q => absurd (show nI x ≤ 0 by rw [hz]; decide +kernel) (by first | exact q | exact Int32.not_le.mpr q))
  · exact fv_if_le C hd ht hn (fun q => absurd q (nI_nle (Nat.pos_of_ne_zero hz) hx)) (fun _ => kf (Nat.pos_of_ne_zero hz))
theorem fv_ialdN (C : fv_C K WA X M mc ms) {a t0 j : Nat} {cA : ClassId} {N : Nat} {f : Nat → Int32} (ht : K.2.2.1[t0]? = some (cA, .int)) (hd : decode M.2.1 pc = .ok (.iaload, 1)) (hn : pc + 1 = n) (ha : h a = some (.inl (cA, N, .inl f))) (hj : j < N) (hN : N < 2 ^ 31) (kk : fv_V K Bs X nL Q n L (.int (f j) :: st) sz h cells slots) : fv_V K Bs X nL Q pc L (.int (nI j) :: .ref a :: st) sz h cells slots := by
  refine fv_iald C ht hd hn ha (vp_in_nI hj hN) ?_
  rw [nI_clamp (Nat.lt_trans hj hN)]
  exact kk
theorem fv_zaldN (C : fv_C K WA X M mc ms) {a t0 j : Nat} {cA : ClassId} {N : Nat} {f : Nat → Bool} (ht : K.2.2.1[t0]? = some (cA, .boolean)) (hd : decode M.2.1 pc = .ok (.baload, 1)) (hn : pc + 1 = n) (ha : h a = some (.inl (cA, N, .inl (fun i => fv_b (f i))))) (hj : j < N) (hN : N < 2 ^ 31) (kk : fv_V K Bs X nL Q n L (.int (fv_b (f j)) :: st) sz h cells slots) : fv_V K Bs X nL Q pc L (.int (nI j) :: .ref a :: st) sz h cells slots := by
  refine fv_zald C ht hd hn ha (vp_in_nI hj hN) ?_
  rw [nI_clamp (Nat.lt_trans hj hN)]
  exact kk
theorem fv_aaldN (C : fv_C K WA X M mc ms) {a t0 j : Nat} {cA : ClassId} {C0 : String} {N : Nat} {f : Nat → Option Nat} {v : Value} (ht : K.2.2.1[t0]? = some (cA, .object C0)) (hd : decode M.2.1 pc = .ok (.aaload, 1)) (hn : pc + 1 = n) (ha : h a = some (.inl (cA, N, .inr (.inr (.inr (.inr f)))))) (hj : j < N) (hN : N < 2 ^ 31) (hv : va_rf (f j) = v) (kk : fv_V K Bs X nL Q n L (v :: st) sz h cells slots) : fv_V K Bs X nL Q pc L (.int (nI j) :: .ref a :: st) sz h cells slots := by
  refine fv_aald C ht hd hn ha (vp_in_nI hj hN) ?_ kk
  rw [nI_clamp (Nat.lt_trans hj hN)]
  exact hv
theorem fv_iastN (C : fv_C K WA X M mc ms) {a t0 j : Nat} {cA : ClassId} {N : Nat} {f : Nat → Int32} {x : Int32} (ht : K.2.2.1[t0]? = some (cA, .int)) (hd : decode M.2.1 pc = .ok (.iastore, 1)) (hn : pc + 1 = n) (ha : h a = some (.inl (cA, N, .inl f))) (hB : Bs ≤ a) (hj : j < N) (hN : N < 2 ^ 31) (kk : fv_V K Bs X nL Q n L st sz (va_up h a (some (.inl (cA, N, .inl (upd f j x))))) cells slots) : fv_V K Bs X nL Q pc L (.int x :: .int (nI j) :: .ref a :: st) sz h cells slots := by
  refine fv_iast C ht hd hn ha hB (vp_in_nI hj hN) ?_
  rw [nI_clamp (Nat.lt_trans hj hN)]
  exact kk
theorem fv_zastN (C : fv_C K WA X M mc ms) {a t0 j : Nat} {cA : ClassId} {N : Nat} {f : Nat → Bool} {b : Bool} {x : Int32} (hx : x = fv_b b) (ht : K.2.2.1[t0]? = some (cA, .boolean)) (hd : decode M.2.1 pc = .ok (.bastore, 1)) (hn : pc + 1 = n) (ha : h a = some (.inl (cA, N, .inl (fun i => fv_b (f i))))) (hB : Bs ≤ a) (hj : j < N) (hN : N < 2 ^ 31) (kk : fv_V K Bs X nL Q n L st sz (va_up h a (some (.inl (cA, N, .inl (fun i => fv_b (va_up f j b i)))))) cells slots) : fv_V K Bs X nL Q pc L (.int x :: .int (nI j) :: .ref a :: st) sz h cells slots := by
  subst hx
  refine fv_zast C ht hd hn ha hB (vp_in_nI hj hN) (fv_b_nar b) ?_
  rw [nI_clamp (Nat.lt_trans hj hN)]
  have e : upd (fun i => fv_b (f i)) j (fv_b b) = fun i => fv_b (va_up f j b i) := by
    funext i
    unfold upd va_up
    split <;> rfl
  rw [e]
  exact kk
theorem fv_aastN1 (C : fv_C K WA X M mc ms) {a t0 ci v j : Nat} {cA : ClassId} {r : vw_C} {N : Nat} {vs : List Value} {f : Nat → Option Nat} (ht : K.2.2.1[t0]? = some (cA, .object r.1)) (hd : decode M.2.1 pc = .ok (.aastore, 1)) (hn : pc + 1 = n) (ha : h a = some (.inl (cA, N, .inr (.inr (.inr (.inr f)))))) (hv : h v = some (.inr (ci, vs))) (hc : K.2.1[ci]? = some r) (hB : Bs ≤ a) (hj : j < N) (hN : N < 2 ^ 31) (kk : fv_V K Bs X nL Q n L st sz (va_up h a (some (.inl (cA, N, .inr (.inr (.inr (.inr (va_up f j (some v))))))))) cells slots) : fv_V K Bs X nL Q pc L (.ref v :: .int (nI j) :: .ref a :: st) sz h cells slots := by
  refine fv_aast C ht hd hn ha hv hc hB (vp_in_nI hj hN) ?_
  rw [nI_clamp (Nat.lt_trans hj hN)]
  exact kk
theorem fv_aastN0 (C : fv_C K WA X M mc ms) {a t0 j : Nat} {cA : ClassId} {C0 : String} {N : Nat} {f : Nat → Option Nat} (ht : K.2.2.1[t0]? = some (cA, .object C0)) (hd : decode M.2.1 pc = .ok (.aastore, 1)) (hn : pc + 1 = n) (ha : h a = some (.inl (cA, N, .inr (.inr (.inr (.inr f)))))) (hB : Bs ≤ a) (hj : j < N) (hN : N < 2 ^ 31) (kk : fv_V K Bs X nL Q n L st sz (va_up h a (some (.inl (cA, N, .inr (.inr (.inr (.inr (va_up f j none)))))))) cells slots) : fv_V K Bs X nL Q pc L (.null :: .int (nI j) :: .ref a :: st) sz h cells slots := by
  refine fv_aastN C ht hd hn ha hB (vp_in_nI hj hN) ?_
  rw [nI_clamp (Nat.lt_trans hj hN)]
  exact kk
theorem fv_copyN (C : fv_C K WA X M mc ms) {idx a0 a t0 : Nat} {cA : ClassId} {n0 n1 : Nat} {f g : Nat → Int32} {sp dp z : Nat} (ht : K.2.2.1[t0]? = some (cA, .int)) (hw1 : Cond.methodLink M.1.cls idx arraycopyName ∈ WA) (hw2 : Cond.native arraycopyName ∈ WA) (hw3 : Cond.static arraycopyName ∈ WA) (hw4 : Cond.initialized "java/lang/System" ∈ WA) (hd : decode M.2.1 pc = .ok (.invokestatic idx, 3)) (hn : pc + 3 = n) (hm : nL = M.2.2.1) (ha0 : h a0 = some (.inl (cA, n0, .inl f))) (ha : h a = some (.inl (cA, n1, .inl g))) (hB : Bs ≤ a) (h4 : sp + z ≤ n0) (h5 : dp + z ≤ n1) (h0 : n0 < 2 ^ 31) (h1 : n1 < 2 ^ 31) (hf : 1 ≤ M.2.2.2.2.1) (hlo : (st.map fun v => v.category).sum + (nativeFrameWords "java/lang/System" "arraycopy" 5 + 11) ≤ M.2.2.2.2.2)
    (kk : fv_V K Bs X nL Q n L st sz (va_up h a (some (.inl (cA, n1, .inl (va_cpy f g sp dp z))))) cells slots) : fv_V K Bs X nL Q pc L (.int (nI z) :: .int (nI dp) :: .ref a :: .int (nI sp) :: .ref a0 :: st) sz h cells slots := by
  have e1 : (nI sp).toNatClampNeg = sp := nI_clamp (by omega)
  have e2 : (nI dp).toNatClampNeg = dp := nI_clamp (by omega)
  have e3 : (nI z).toNatClampNeg = z := nI_clamp (by omega)
  refine fv_copyi C ht hw1 hw2 hw3 hw4 hd hn hm ha0 ha hB (nI_pos (by omega)) (nI_pos (by omega)) (nI_pos (by omega)) (by rw [e1, e3]; exact h4) (by rw [e2, e3]; exact h5) hf hlo ?_
  rw [e1, e2, e3]
  exact kk
/-- a contract whose answer and heap are known -/
def fv_rd (v0 : Option Value) (sz0 : Nat) (h0 : fv_H) : Option Value → Nat → fv_H → Prop := fun v sz' h' => v = v0 ∧ sz' = sz0 ∧ h' = h0
end FN
end
section
/-! Orders and books as lists: a book is its orders as they came, and whether it is halted; a side in book order is its stable sorting. -/
theorem bo_snoc {α : Type} (l : List α) : l = [] ∨ ∃ (L : List α) (o : α), l = L ++ [o] := by
  rcases List.eq_nil_or_concat l with h | ⟨L, o, h⟩
  · exact Or.inl h
  · exact Or.inr ⟨L, o, by rw [h, List.concat_eq_append]⟩
/-- id, side, price, size -/
abbrev bo_O : Type := Int32 × Nat × Int32 × Int32
def bo_ge (s : Nat) (a o : bo_O) : Bool := if s = 0 then decide (o.2.2.1 ≤ a.2.2.1) else decide (a.2.2.1 ≤ o.2.2.1)
theorem bo_ge_trans {s : Nat} {a b c : bo_O} (h1 : bo_ge s a b = true) (h2 : bo_ge s b c = true) : bo_ge s a c = true := by
  by_cases hs : s = 0
  · simp only [bo_ge, hs, if_true, decide_eq_true_eq, Int32.le_iff_toInt_le] at *
    omega
  · simp only [bo_ge, hs, if_false, decide_eq_true_eq, Int32.le_iff_toInt_le] at *
    omega
theorem bo_ge_total {s : Nat} {a b : bo_O} (h : ¬ bo_ge s a b = true) : bo_ge s b a = true := by
  by_cases hs : s = 0
  · simp only [bo_ge, hs, if_true, decide_eq_true_eq, Int32.le_iff_toInt_le] at *
    omega
  · simp only [bo_ge, hs, if_false, decide_eq_true_eq, Int32.le_iff_toInt_le] at *
    omega
theorem bo_ge_price {s : Nat} {a a' o o' : bo_O} (h1 : a'.2.2.1 = a.2.2.1) (h2 : o'.2.2.1 = o.2.2.1) : bo_ge s a' o' = bo_ge s a o := by
  simp only [bo_ge, h1, h2]
def bo_ins (s : Nat) (o : bo_O) : List bo_O → List bo_O
  | [] => [o]
  | a :: t => if bo_ge s a o = true then a :: bo_ins s o t else o :: a :: t
def bo_srt (s : Nat) (l : List bo_O) : List bo_O := l.foldl (fun acc o => if o.2.1 = s then bo_ins s o acc else acc) []
def bo_S (s : Nat) (l : List bo_O) : Prop := l.Pairwise (fun a b => bo_ge s a b = true)
theorem bo_ins_mem {s : Nat} {o x : bo_O} : ∀ {l : List bo_O}, x ∈ bo_ins s o l ↔ x = o ∨ x ∈ l
  | [] => by simp [bo_ins]
  | a :: t => by
    unfold bo_ins
    split
    · rw [List.mem_cons, bo_ins_mem, List.mem_cons]
      constructor
      · rintro (h | h | h)
        · exact Or.inr (Or.inl h)
        · exact Or.inl h
        · exact Or.inr (Or.inr h)
      · rintro (h | h | h)
        · exact Or.inr (Or.inl h)
        · exact Or.inl h
        · exact Or.inr (Or.inr h)
    · rw [List.mem_cons]
theorem bo_ins_len {s : Nat} {o : bo_O} : ∀ {l : List bo_O}, (bo_ins s o l).length = l.length + 1
  | [] => rfl
  | a :: t => by
    unfold bo_ins
    split
    · rw [List.length_cons, bo_ins_len, List.length_cons]
    · rfl
theorem bo_ins_S {s : Nat} {o : bo_O} : ∀ {l : List bo_O}, bo_S s l → bo_S s (bo_ins s o l)
  | [], _ => List.pairwise_singleton _ _
  | a :: t, h => by
    obtain ⟨h1, h2⟩ := List.pairwise_cons.mp h
    unfold bo_ins
    split
    · rename_i hg
      refine List.pairwise_cons.mpr ⟨fun b hb => ?_, bo_ins_S h2⟩
      rcases bo_ins_mem.mp hb with rfl | hb
      · exact hg
      · exact h1 b hb
    · rename_i hg
      have hoa := bo_ge_total hg
      refine List.pairwise_cons.mpr ⟨fun b hb => ?_, h⟩
      rcases List.mem_cons.mp hb with rfl | hb
      · exact hoa
      · exact bo_ge_trans hoa (h1 b hb)
theorem bo_ins_none {s : Nat} {o : bo_O} {l : List bo_O} (h : ∀ x ∈ l, ¬ bo_ge s x o = true) : bo_ins s o l = o :: l := by
  cases l with
  | nil => rfl
  | cons a t => rw [bo_ins, if_neg (h a List.mem_cons_self)]
theorem bo_ins_filter {s : Nat} {o : bo_O} (p : bo_O → Bool) : ∀ {l : List bo_O}, bo_S s l → (bo_ins s o l).filter p = if p o = true then bo_ins s o (l.filter p) else l.filter p
  | [], _ => by
    by_cases hp : p o = true <;> simp [bo_ins, hp]
  | a :: t, h => by
    obtain ⟨h1, h2⟩ := List.pairwise_cons.mp h
    by_cases hg : bo_ge s a o = true
    · rw [bo_ins, if_pos hg, List.filter_cons, bo_ins_filter p h2, List.filter_cons]
      by_cases ha : p a = true
      · rw [if_pos ha, if_pos ha]
        by_cases hp : p o = true
        · rw [if_pos hp, if_pos hp, bo_ins, if_pos hg]
        · rw [if_neg hp, if_neg hp]
      · rw [if_neg ha, if_neg ha]
    · rw [bo_ins, if_neg hg, List.filter_cons]
      by_cases hp : p o = true
      · rw [if_pos hp, if_pos hp]
        refine (bo_ins_none (fun x hx => ?_)).symm
        have hx2 := (List.mem_filter.mp hx).1
        rcases List.mem_cons.mp hx2 with rfl | hx3
        · exact hg
        · exact fun q => hg (bo_ge_trans (h1 x hx3) q)
      · rw [if_neg hp, if_neg hp]
theorem bo_ins_map {s : Nat} {o : bo_O} (f : bo_O → bo_O) (hf : ∀ x, (f x).2.2.1 = x.2.2.1) : ∀ {l : List bo_O}, (bo_ins s o l).map f = bo_ins s (f o) (l.map f)
  | [] => rfl
  | a :: t => by
    have e : bo_ge s (f a) (f o) = bo_ge s a o := bo_ge_price (hf a) (hf o)
    by_cases hg : bo_ge s a o = true
    · rw [bo_ins, if_pos hg, List.map_cons, bo_ins_map f hf, List.map_cons, bo_ins, if_pos (e.trans hg)]
    · rw [bo_ins, if_neg hg, List.map_cons, List.map_cons, bo_ins, if_neg (by rw [e]; exact hg)]
def bo_st (s : Nat) (acc : List bo_O) (o : bo_O) : List bo_O := if o.2.1 = s then bo_ins s o acc else acc
theorem bo_srt_eq (s : Nat) (l : List bo_O) : bo_srt s l = l.foldl (bo_st s) [] := rfl
theorem bo_srt_nil (s : Nat) : bo_srt s [] = [] := rfl
theorem bo_srt_app (s : Nat) (l : List bo_O) (o : bo_O) : bo_srt s (l ++ [o]) = if o.2.1 = s then bo_ins s o (bo_srt s l) else bo_srt s l := by
  simp [bo_srt, List.foldl_append]
theorem bo_st_S {s : Nat} {acc : List bo_O} {o : bo_O} (h : bo_S s acc) : bo_S s (bo_st s acc o) := by
  unfold bo_st
  split
  · exact bo_ins_S h
  · exact h
theorem bo_fold_S {s : Nat} : ∀ (l : List bo_O) {acc : List bo_O}, bo_S s acc → bo_S s (l.foldl (bo_st s) acc)
  | [], _, h => h
  | o :: t, _, h => bo_fold_S t (bo_st_S h)
theorem bo_srt_S (s : Nat) (l : List bo_O) : bo_S s (bo_srt s l) := bo_fold_S l List.Pairwise.nil
theorem bo_fold_filter {s : Nat} (p : bo_O → Bool) : ∀ (l : List bo_O) {acc : List bo_O}, bo_S s acc → (l.foldl (bo_st s) acc).filter p = (l.filter p).foldl (bo_st s) (acc.filter p)
  | [], _, _ => rfl
  | o :: t, acc, h => by
    rw [List.foldl_cons, bo_fold_filter p t (bo_st_S h), List.filter_cons]
    have e : (bo_st s acc o).filter p = if p o = true then bo_st s (acc.filter p) o else acc.filter p := by
      unfold bo_st
      by_cases hs : o.2.1 = s
      · rw [if_pos hs, if_pos hs, bo_ins_filter p h]
      · rw [if_neg hs, if_neg hs]
        split <;> rfl
    rw [e]
    by_cases hp : p o = true
    · rw [if_pos hp, if_pos hp, List.foldl_cons]
    · rw [if_neg hp, if_neg hp]
theorem bo_srt_filter (s : Nat) (p : bo_O → Bool) (l : List bo_O) : bo_srt s (l.filter p) = (bo_srt s l).filter p := (bo_fold_filter p l List.Pairwise.nil).symm
theorem bo_fold_map {s : Nat} (f : bo_O → bo_O) (hf : ∀ x, (f x).2.2.1 = x.2.2.1) (hs : ∀ x, (f x).2.1 = x.2.1) : ∀ (l : List bo_O) (acc : List bo_O), (l.foldl (bo_st s) acc).map f = (l.map f).foldl (bo_st s) (acc.map f)
  | [], _ => rfl
  | o :: t, acc => by
    rw [List.foldl_cons, bo_fold_map f hf hs t, List.map_cons, List.foldl_cons]
    congr 1
    unfold bo_st
    rw [hs o]
    split
    · exact bo_ins_map f hf
    · rfl
theorem bo_srt_map (s : Nat) (f : bo_O → bo_O) (hf : ∀ x, (f x).2.2.1 = x.2.2.1) (hs : ∀ x, (f x).2.1 = x.2.1) (l : List bo_O) : bo_srt s (l.map f) = (bo_srt s l).map f := (bo_fold_map f hf hs l []).symm
theorem bo_fold_mem {s : Nat} {x : bo_O} : ∀ (l : List bo_O) (acc : List bo_O), x ∈ l.foldl (bo_st s) acc ↔ (x ∈ l ∧ x.2.1 = s) ∨ x ∈ acc
  | [], acc => by simp
  | o :: t, acc => by
    rw [List.foldl_cons, bo_fold_mem t, List.mem_cons]
    unfold bo_st
    by_cases hs : o.2.1 = s
    · rw [if_pos hs, bo_ins_mem]
      constructor
      · rintro (⟨h1, h2⟩ | h | h)
        · exact Or.inl ⟨Or.inr h1, h2⟩
        · exact Or.inl ⟨Or.inl h, by rw [h]; exact hs⟩
        · exact Or.inr h
      · rintro (⟨h | h, h2⟩ | h)
        · exact Or.inr (Or.inl h)
        · exact Or.inl ⟨h, h2⟩
        · exact Or.inr (Or.inr h)
    · rw [if_neg hs]
      constructor
      · rintro (⟨h1, h2⟩ | h)
        · exact Or.inl ⟨Or.inr h1, h2⟩
        · exact Or.inr h
      · rintro (⟨h | h, h2⟩ | h)
        · exact absurd (by rw [← h]; exact h2) hs
        · exact Or.inl ⟨h, h2⟩
        · exact Or.inr h
theorem bo_srt_mem {s : Nat} {x : bo_O} {l : List bo_O} : x ∈ bo_srt s l ↔ x ∈ l ∧ x.2.1 = s := by
  rw [bo_srt_eq, bo_fold_mem]
  simp
theorem bo_fold_len {s : Nat} : ∀ (l : List bo_O) (acc : List bo_O), (l.foldl (bo_st s) acc).length = (l.filter (fun o => decide (o.2.1 = s))).length + acc.length
  | [], acc => by simp
  | o :: t, acc => by
    rw [List.foldl_cons, bo_fold_len t, List.filter_cons]
    unfold bo_st
    by_cases hs : o.2.1 = s
    · rw [if_pos hs, if_pos (by simp [hs]), bo_ins_len, List.length_cons]
      omega
    · rw [if_neg hs, if_neg (by simp [hs])]
theorem bo_srt_len (s : Nat) (l : List bo_O) : (bo_srt s l).length = (l.filter (fun o => decide (o.2.1 = s))).length := by
  rw [bo_srt_eq, bo_fold_len]
  simp
/-- a book's both sides in book order, buys first -/
def bo_arr (l : List bo_O) : List bo_O := bo_srt 0 l ++ bo_srt 1 l
def bo_two (l : List bo_O) : Prop := ∀ o ∈ l, o.2.1 = 0 ∨ o.2.1 = 1
theorem bo_two_len : ∀ (l : List bo_O), bo_two l → (l.filter (fun o => decide (o.2.1 = 0))).length + (l.filter (fun o => decide (o.2.1 = 1))).length = l.length
  | [], _ => rfl
  | o :: t, h => by
    have ih := bo_two_len t (fun x hx => h x (List.mem_cons_of_mem _ hx))
    rw [List.filter_cons, List.filter_cons]
    rcases h o List.mem_cons_self with h0 | h0 <;> simp [h0] <;> omega
theorem bo_arr_len {l : List bo_O} (h : bo_two l) : (bo_arr l).length = l.length := by
  rw [bo_arr, List.length_append, bo_srt_len, bo_srt_len]
  exact bo_two_len l h
theorem bo_arr_mem {x : bo_O} {l : List bo_O} (h : bo_two l) : x ∈ bo_arr l ↔ x ∈ l := by
  rw [bo_arr, List.mem_append, bo_srt_mem, bo_srt_mem]
  constructor
  · rintro (h | h) <;> exact h.1
  · intro hx
    rcases h x hx with h0 | h0
    · exact Or.inl ⟨hx, h0⟩
    · exact Or.inr ⟨hx, h0⟩
theorem bo_arr_filter (p : bo_O → Bool) (l : List bo_O) : bo_arr (l.filter p) = (bo_arr l).filter p := by
  rw [bo_arr, bo_srt_filter, bo_srt_filter, bo_arr, List.filter_append]
theorem bo_arr_map (f : bo_O → bo_O) (hf : ∀ x, (f x).2.2.1 = x.2.2.1) (hs : ∀ x, (f x).2.1 = x.2.1) (l : List bo_O) : bo_arr (l.map f) = (bo_arr l).map f := by
  rw [bo_arr, bo_srt_map _ f hf hs, bo_srt_map _ f hf hs, bo_arr, List.map_append]
/-- how many stand ahead of a new order -/
def bo_pl (s : Nat) (o : bo_O) : List bo_O → Nat
  | [] => 0
  | a :: t => if bo_ge s a o = true then bo_pl s o t + 1 else 0
theorem bo_pl_le {s : Nat} {o : bo_O} : ∀ {l : List bo_O}, bo_pl s o l ≤ l.length
  | [] => Nat.le_refl _
  | a :: t => by
    unfold bo_pl
    split
    · exact Nat.succ_le_succ bo_pl_le
    · exact Nat.zero_le _
theorem bo_ins_pl {s : Nat} {o : bo_O} : ∀ {l : List bo_O}, bo_ins s o l = l.take (bo_pl s o l) ++ o :: l.drop (bo_pl s o l)
  | [] => rfl
  | a :: t => by
    by_cases hg : bo_ge s a o = true
    · rw [bo_ins, if_pos hg, bo_pl, if_pos hg, List.take_succ_cons, List.drop_succ_cons, List.cons_append, ← bo_ins_pl]
    · rw [bo_ins, if_neg hg, bo_pl, if_neg hg]
      rfl
theorem bo_pl_lt {s : Nat} {o a : bo_O} : ∀ {l : List bo_O} {j : Nat}, j < bo_pl s o l → l[j]? = some a → bo_ge s a o = true
  | [], j, h, _ => by simp [bo_pl] at h
  | b :: t, j, h, ha => by
    unfold bo_pl at h
    split at h
    · rename_i hg
      cases j with
      | zero =>
        rw [List.getElem?_cons_zero] at ha
        cases ha
        exact hg
      | succ j =>
        rw [List.getElem?_cons_succ] at ha
        exact bo_pl_lt (by omega) ha
    · omega
theorem bo_pl_at {s : Nat} {o a : bo_O} : ∀ {l : List bo_O}, l[bo_pl s o l]? = some a → ¬ bo_ge s a o = true
  | [], ha => by simp at ha
  | b :: t, ha => by
    unfold bo_pl at ha
    split at ha
    · rw [List.getElem?_cons_succ] at ha
      exact bo_pl_at ha
    · rename_i hg
      rw [List.getElem?_cons_zero] at ha
      cases ha
      exact hg
/-- the first place where the scan from j on ends -/
theorem bo_pl_unique {s : Nat} {o : bo_O} {l : List bo_O} {j : Nat} (hj : j ≤ l.length) (h1 : ∀ i a, i < j → l[i]? = some a → bo_ge s a o = true) (h2 : ∀ a, l[j]? = some a → ¬ bo_ge s a o = true) : bo_pl s o l = j := by
  rcases Nat.lt_trichotomy (bo_pl s o l) j with h | h | h
  · have hl : bo_pl s o l < l.length := by omega
    have e := List.getElem?_eq_getElem hl
    exact absurd (h1 _ _ h e) (bo_pl_at e)
  · exact h
  · have hl : j < l.length := Nat.lt_of_lt_of_le h bo_pl_le
    have e := List.getElem?_eq_getElem hl
    exact absurd (bo_pl_lt h e) (h2 _ e)
/-! ranks: the place of an order in book order is the number of those ahead of it -/
def bo_ah (l : List bo_O) (s j k : Nat) : Bool := match l[j]?, l[k]? with
  | some a, some b => decide (a.2.1 = s) && (if a.2.2.1 = b.2.2.1 then decide (j < k) else if s = 0 then decide (b.2.2.1 < a.2.2.1) else decide (a.2.2.1 < b.2.2.1))
  | _, _ => false
def bo_rk (l : List bo_O) (s k : Nat) : Nat := ((List.range l.length).filter (fun j => bo_ah l s j k)).length
theorem bo_count (q : bo_O → Bool) : ∀ (l : List bo_O), ((List.range l.length).filter (fun j => match l[j]? with | some a => q a | none => false)).length = (l.filter q).length := by
  intro l
  generalize hn : l.length = n
  induction n generalizing l with
  | zero =>
    cases l with
    | nil => rfl
    | cons a t => simp at hn
  | succ n ih =>
    rcases bo_snoc l with rfl | ⟨L, o, rfl⟩
    · simp at hn
    · simp only [List.length_append, List.length_cons, List.length_nil, Nat.zero_add] at hn
      have hL : L.length = n := by omega
      rw [List.range_succ, List.filter_append, List.filter_append, List.length_append, List.length_append]
      congr 1
      · rw [← ih L hL]
        congr 1
        apply List.filter_congr
        intro j hj
        have hj2 := List.mem_range.mp hj
        rw [List.getElem?_append_left (by omega)]
      · rw [← hL]
        simp [List.filter_cons]
        split <;> rfl
theorem bo_filter_len {α : Type} (p : α → Bool) (l : List α) : (l.filter p).length = (l.filter p).length := rfl
theorem bo_ah_old {L : List bo_O} {o : bo_O} {s j k : Nat} (hj : j < L.length) (hk : k < L.length) : bo_ah (L ++ [o]) s j k = bo_ah L s j k := by
  unfold bo_ah
  rw [List.getElem?_append_left hj, List.getElem?_append_left hk]
theorem bo_ah_new {L : List bo_O} {o b : bo_O} {s k : Nat} (hb : L[k]? = some b) (hs : o.2.1 = s) : bo_ah (L ++ [o]) s L.length k = !(bo_ge s b o) := by
  have hk : k < L.length := (List.getElem?_eq_some_iff.mp hb).1
  unfold bo_ah
  rw [List.getElem?_append_left hk, hb, List.getElem?_append_right (Nat.le_refl _), Nat.sub_self, List.getElem?_cons_zero]
  simp only [hs, decide_true, Bool.true_and]
  unfold bo_ge
  by_cases he : o.2.2.1 = b.2.2.1
  · rw [if_pos he]
    have h1 : ¬ L.length < k := by omega
    by_cases h0 : s = 0
    · rw [if_pos h0, he]
      simp [h1]
    · rw [if_neg h0, he]
      simp [h1]
  · rw [if_neg he]
    have hne : o.2.2.1.toInt ≠ b.2.2.1.toInt := fun q => he (Int32.toInt_inj.mp q)
    by_cases h0 : s = 0
    · rw [if_pos h0, if_pos h0]
      by_cases hlt : b.2.2.1 < o.2.2.1
      · have : ¬ o.2.2.1 ≤ b.2.2.1 := by rw [Int32.le_iff_toInt_le]; rw [Int32.lt_iff_toInt_lt] at hlt; omega
        simp [hlt, this]
      · have : o.2.2.1 ≤ b.2.2.1 := by rw [Int32.le_iff_toInt_le]; rw [Int32.lt_iff_toInt_lt] at hlt; omega
        simp [hlt, this]
    · rw [if_neg h0, if_neg h0]
      by_cases hlt : o.2.2.1 < b.2.2.1
      · have : ¬ b.2.2.1 ≤ o.2.2.1 := by rw [Int32.le_iff_toInt_le]; rw [Int32.lt_iff_toInt_lt] at hlt; omega
        simp [hlt, this]
      · have : b.2.2.1 ≤ o.2.2.1 := by rw [Int32.le_iff_toInt_le]; rw [Int32.lt_iff_toInt_lt] at hlt; omega
        simp [hlt, this]
theorem bo_ah_side {L : List bo_O} {o : bo_O} {s k : Nat} (hs : ¬ o.2.1 = s) : bo_ah (L ++ [o]) s L.length k = false := by
  unfold bo_ah
  rw [List.getElem?_append_right (Nat.le_refl _), Nat.sub_self, List.getElem?_cons_zero]
  cases (L ++ [o])[k]? with
  | none => rfl
  | some b => simp [hs]
theorem bo_ah_self {L : List bo_O} {o a : bo_O} {s j : Nat} (ha : L[j]? = some a) : bo_ah (L ++ [o]) s j L.length = (decide (a.2.1 = s) && bo_ge s a o) := by
  have hj : j < L.length := (List.getElem?_eq_some_iff.mp ha).1
  unfold bo_ah
  rw [List.getElem?_append_left hj, ha, List.getElem?_append_right (Nat.le_refl _), Nat.sub_self, List.getElem?_cons_zero]
  simp only
  congr 1
  unfold bo_ge
  by_cases he : a.2.2.1 = o.2.2.1
  · rw [if_pos he]
    by_cases h0 : s = 0
    · rw [if_pos h0, he]
      simp [hj]
    · rw [if_neg h0, he]
      simp [hj]
  · rw [if_neg he]
    have hne : a.2.2.1.toInt ≠ o.2.2.1.toInt := fun q => he (Int32.toInt_inj.mp q)
    by_cases h0 : s = 0
    · rw [if_pos h0, if_pos h0]
      congr 1
      rw [eq_iff_iff, Int32.le_iff_toInt_le, Int32.lt_iff_toInt_lt]
      omega
    · rw [if_neg h0, if_neg h0]
      congr 1
      rw [eq_iff_iff, Int32.le_iff_toInt_le, Int32.lt_iff_toInt_lt]
      omega
theorem bo_rk_old {L : List bo_O} {o b : bo_O} {s k : Nat} (hb : L[k]? = some b) : bo_rk (L ++ [o]) s k = bo_rk L s k + (if o.2.1 = s ∧ ¬ bo_ge s b o = true then 1 else 0) := by
  have hk : k < L.length := (List.getElem?_eq_some_iff.mp hb).1
  unfold bo_rk
  rw [List.length_append, List.length_cons, List.length_nil, Nat.zero_add, List.range_succ, List.filter_append, List.length_append]
  congr 1
  · congr 1
    apply List.filter_congr
    intro j hj
    exact bo_ah_old (List.mem_range.mp hj) hk
  · by_cases hs : o.2.1 = s
    · rw [List.filter_cons, bo_ah_new hb hs]
      by_cases hg : bo_ge s b o = true
      · simp [hg]
      · simp [hg, hs]
    · rw [List.filter_cons, bo_ah_side hs]
      simp [hs]
theorem bo_pl_filter {s : Nat} {o : bo_O} : ∀ {l : List bo_O}, bo_S s l → bo_pl s o l = (l.filter (fun a => bo_ge s a o)).length
  | [], _ => rfl
  | a :: t, h => by
    obtain ⟨h1, h2⟩ := List.pairwise_cons.mp h
    unfold bo_pl
    rw [List.filter_cons]
    by_cases hg : bo_ge s a o = true
    · rw [if_pos hg, if_pos hg, List.length_cons, bo_pl_filter h2]
    · rw [if_neg hg, if_neg hg]
      have : t.filter (fun a => bo_ge s a o) = [] := by
        apply List.filter_eq_nil_iff.mpr
        intro x hx q
        exact hg (bo_ge_trans (h1 x hx) q)
      rw [this]
      rfl
theorem bo_rk_self {L : List bo_O} {o : bo_O} {s : Nat} : bo_rk (L ++ [o]) s L.length = bo_pl s o (bo_srt s L) := by
  rw [bo_pl_filter (bo_srt_S s L), ← bo_srt_filter, bo_srt_len, List.filter_filter, ← bo_count]
  unfold bo_rk
  rw [List.length_append, List.length_cons, List.length_nil, Nat.zero_add, List.range_succ, List.filter_append, List.length_append]
  have h0 : bo_ah (L ++ [o]) s L.length L.length = false := by
    unfold bo_ah
    rw [List.getElem?_append_right (Nat.le_refl _), Nat.sub_self, List.getElem?_cons_zero]
    simp
  rw [List.filter_cons, h0]
  simp only [Bool.false_eq_true, if_false, List.filter_nil, List.length_nil, Nat.add_zero]
  congr 1
  apply List.filter_congr
  intro j hj
  have hj2 := List.mem_range.mp hj
  have e := List.getElem?_eq_getElem hj2
  rw [bo_ah_self e, e]
theorem bo_S_at {s : Nat} {l : List bo_O} (h : bo_S s l) {i j : Nat} {a b : bo_O} (hij : i < j) (ha : l[i]? = some a) (hb : l[j]? = some b) : bo_ge s a b = true := by
  obtain ⟨h1, h2⟩ := List.getElem?_eq_some_iff.mp ha
  obtain ⟨h3, h4⟩ := List.getElem?_eq_some_iff.mp hb
  have := List.pairwise_iff_getElem.mp h i j h1 h3 hij
  rwa [h2, h4] at this
theorem bo_ins_lo {s : Nat} {o : bo_O} {l : List bo_O} {i : Nat} (h : i < bo_pl s o l) : (bo_ins s o l)[i]? = l[i]? := by
  rw [bo_ins_pl, List.getElem?_append_left (by rw [List.length_take]; have := bo_pl_le (s := s) (o := o) (l := l); omega), List.getElem?_take_of_lt h]
theorem bo_ins_mid {s : Nat} {o : bo_O} {l : List bo_O} : (bo_ins s o l)[bo_pl s o l]? = some o := by
  have := bo_pl_le (s := s) (o := o) (l := l)
  rw [bo_ins_pl, List.getElem?_append_right (by rw [List.length_take]; omega), List.length_take, Nat.min_eq_left this, Nat.sub_self, List.getElem?_cons_zero]
theorem bo_ins_hi {s : Nat} {o : bo_O} {l : List bo_O} {i : Nat} (h : bo_pl s o l ≤ i) : (bo_ins s o l)[i + 1]? = l[i]? := by
  have := bo_pl_le (s := s) (o := o) (l := l)
  rw [bo_ins_pl, List.getElem?_append_right (by rw [List.length_take]; omega), List.length_take, Nat.min_eq_left this, show i + 1 - bo_pl s o l = (i - bo_pl s o l) + 1 by omega, List.getElem?_cons_succ, List.getElem?_drop]
  congr 1
  omega
theorem bo_rank (s : Nat) : ∀ (n : Nat) (l : List bo_O), l.length = n → (∀ k b, l[k]? = some b → b.2.1 = s → (bo_srt s l)[bo_rk l s k]? = some b) ∧ ∀ i, i < (bo_srt s l).length → ∃ k b, l[k]? = some b ∧ b.2.1 = s ∧ bo_rk l s k = i
  | 0, l, hn => by
    have : l = [] := List.eq_nil_of_length_eq_zero hn
    subst this
    exact ⟨fun k b h => by simp at h, fun i h => by simp [bo_srt_nil] at h⟩
  | n + 1, l, hn => by
    rcases bo_snoc l with rfl | ⟨L, o, rfl⟩
    · simp at hn
    · have hL : L.length = n := by simpa using hn
      obtain ⟨ih1, ih2⟩ := bo_rank s n L hL
      have last : ∀ k b, (L ++ [o])[k]? = some b → (k < L.length ∧ L[k]? = some b) ∨ (k = L.length ∧ b = o) := by
        intro k b hb
        by_cases hk : k < L.length
        · rw [List.getElem?_append_left hk] at hb
          exact Or.inl ⟨hk, hb⟩
        · rw [List.getElem?_append_right (by omega)] at hb
          have hz : k - L.length < 1 := (List.getElem?_eq_some_iff.mp hb).1
          have hz2 : k - L.length = 0 := by omega
          rw [hz2, List.getElem?_cons_zero] at hb
          cases hb
          exact Or.inr ⟨by omega, rfl⟩
      rw [bo_srt_app]
      by_cases hs : o.2.1 = s
      · rw [if_pos hs]
        refine ⟨fun k b hb hbs => ?_, fun i hi => ?_⟩
        · rcases last k b hb with ⟨hk, hb2⟩ | ⟨rfl, rfl⟩
          · have h3 := ih1 k b hb2 hbs
            rw [bo_rk_old hb2]
            by_cases hg : bo_ge s b o = true
            · rw [if_neg (fun q => q.2 hg), Nat.add_zero, bo_ins_lo, h3]
              refine Nat.lt_of_not_le (fun hle => ?_)
              have hlt : bo_pl s o (bo_srt s L) < (bo_srt s L).length := Nat.lt_of_le_of_lt hle (List.getElem?_eq_some_iff.mp h3).1
              have e := List.getElem?_eq_getElem hlt
              rcases Nat.lt_or_eq_of_le hle with hlt2 | heq
              · exact bo_pl_at e (bo_ge_trans (bo_S_at (bo_srt_S s L) hlt2 e h3) hg)
              · rw [← heq] at h3
                exact bo_pl_at h3 hg
            · rw [if_pos ⟨hs, hg⟩, bo_ins_hi, h3]
              exact Nat.le_of_not_lt (fun hlt => hg (bo_pl_lt hlt h3))
          · rw [bo_rk_self, bo_ins_mid]
        · rw [bo_ins_len] at hi
          rcases Nat.lt_trichotomy i (bo_pl s o (bo_srt s L)) with h | h | h
          · obtain ⟨k, b, hb, hbs, hr⟩ := ih2 i (Nat.lt_of_lt_of_le h bo_pl_le)
            have hk : k < L.length := (List.getElem?_eq_some_iff.mp hb).1
            refine ⟨k, b, by rw [List.getElem?_append_left hk]; exact hb, hbs, ?_⟩
            have h3 := ih1 k b hb hbs
            rw [hr] at h3
            rw [bo_rk_old hb, if_neg (fun q => q.2 (bo_pl_lt h h3)), hr, Nat.add_zero]
          · exact ⟨L.length, o, by rw [List.getElem?_append_right (Nat.le_refl _), Nat.sub_self, List.getElem?_cons_zero], hs, by rw [bo_rk_self, h]⟩
          · obtain ⟨j, rfl⟩ : ∃ j, i = j + 1 := ⟨i - 1, by omega⟩
            obtain ⟨k, b, hb, hbs, hr⟩ := ih2 j (by omega)
            have hk : k < L.length := (List.getElem?_eq_some_iff.mp hb).1
            refine ⟨k, b, by rw [List.getElem?_append_left hk]; exact hb, hbs, ?_⟩
            have h3 := ih1 k b hb hbs
            rw [hr] at h3
            have hng : ¬ bo_ge s b o = true := by
              intro hg
              have hlt : bo_pl s o (bo_srt s L) < (bo_srt s L).length := by omega
              have e := List.getElem?_eq_getElem hlt
              rcases Nat.lt_or_eq_of_le (show bo_pl s o (bo_srt s L) ≤ j by omega) with hlt2 | heq
              · exact bo_pl_at e (bo_ge_trans (bo_S_at (bo_srt_S s L) hlt2 e h3) hg)
              · rw [← heq] at h3
                exact bo_pl_at h3 hg
            rw [bo_rk_old hb, if_pos ⟨hs, hng⟩, hr]
      · rw [if_neg hs]
        refine ⟨fun k b hb hbs => ?_, fun i hi => ?_⟩
        · rcases last k b hb with ⟨hk, hb2⟩ | ⟨rfl, rfl⟩
          · rw [bo_rk_old hb2, if_neg (fun q => hs q.1)]
            exact ih1 k b hb2 hbs
          · exact absurd hbs hs
        · obtain ⟨k, b, hb, hbs, hr⟩ := ih2 i hi
          have hk : k < L.length := (List.getElem?_eq_some_iff.mp hb).1
          exact ⟨k, b, by rw [List.getElem?_append_left hk]; exact hb, hbs, by rw [bo_rk_old hb, if_neg (fun q => hs q.1)]; exact hr⟩
end
section
/-! levels of a side: the prices in book order, each once; sums and counts of a price -/
def bo_dps (acc : List Int32) (o : bo_O) : List Int32 := if acc.getLast? = some o.2.2.1 then acc else acc ++ [o.2.2.1]
def bo_dp (l : List bo_O) : List Int32 := l.foldl bo_dps []
def bo_sum (p : Int32) (l : List bo_O) : Int32 := l.foldl (fun acc o => if o.2.2.1 = p then acc + o.2.2.2 else acc) 0
def bo_cnt (p : Int32) (l : List bo_O) : Nat := (l.filter (fun o => decide (o.2.2.1 = p))).length
/-- level's value of a side in book order: 0 price, 1 sum, 2 how many -/
def bo_lv (l : List bo_O) (lev what : Nat) : Int32 := match (bo_dp l)[lev]? with
  | none => -2000000
  | some p => if what = 0 then p else if what = 1 then bo_sum p l else nI (bo_cnt p l)
theorem bo_dp_nil : bo_dp [] = [] := rfl
theorem bo_dp_app (l : List bo_O) (o : bo_O) : bo_dp (l ++ [o]) = bo_dps (bo_dp l) o := by simp [bo_dp, List.foldl_append]
theorem bo_sum_app (p : Int32) (l : List bo_O) (o : bo_O) : bo_sum p (l ++ [o]) = if o.2.2.1 = p then bo_sum p l + o.2.2.2 else bo_sum p l := by simp [bo_sum, List.foldl_append]
theorem bo_cnt_app (p : Int32) (l : List bo_O) (o : bo_O) : bo_cnt p (l ++ [o]) = if o.2.2.1 = p then bo_cnt p l + 1 else bo_cnt p l := by
  by_cases h : o.2.2.1 = p <;> simp [bo_cnt, List.filter_append, h]
theorem bo_dp_last (l : List bo_O) : (bo_dp l).getLast? = l.getLast?.map (fun o => o.2.2.1) := by
  rcases bo_snoc l with rfl | ⟨L, o, rfl⟩
  · rfl
  · rw [bo_dp_app]
    unfold bo_dps
    split
    · rename_i h
      rw [h]
      simp
    · simp
theorem bo_dp_len (l : List bo_O) : (bo_dp l).length ≤ l.length := by
  generalize hn : l.length = n
  induction n generalizing l with
  | zero =>
    have : l = [] := List.eq_nil_of_length_eq_zero hn
    subst this
    exact Nat.le_refl _
  | succ n ih =>
    rcases bo_snoc l with rfl | ⟨L, o, rfl⟩
    · simp at hn
    · have hL : L.length = n := by simpa using hn
      have := ih L hL
      rw [bo_dp_app]
      unfold bo_dps
      split
      · omega
      · rw [List.length_append]
        simp
        omega
theorem bo_dps_pre (acc : List Int32) (o : bo_O) : ∃ r, bo_dps acc o = acc ++ r := by
  unfold bo_dps
  split
  · exact ⟨[], by simp⟩
  · exact ⟨_, rfl⟩
theorem bo_dp_fold_pre : ∀ (r : List bo_O) (acc : List Int32), ∃ q, r.foldl bo_dps acc = acc ++ q
  | [], acc => ⟨[], by simp⟩
  | o :: t, acc => by
    obtain ⟨r1, h1⟩ := bo_dps_pre acc o
    obtain ⟨r2, h2⟩ := bo_dp_fold_pre t (bo_dps acc o)
    exact ⟨r1 ++ r2, by rw [List.foldl_cons, h2, h1, List.append_assoc]⟩
/-- what stands in a beginning's levels stands in the whole's -/
theorem bo_dp_ext {l r : List bo_O} {i : Nat} {p : Int32} (h : (bo_dp l)[i]? = some p) : (bo_dp (l ++ r))[i]? = some p := by
  obtain ⟨q, hq⟩ := bo_dp_fold_pre r (bo_dp l)
  have e : bo_dp (l ++ r) = bo_dp l ++ q := by
    rw [← hq]
    simp [bo_dp, List.foldl_append]
  rw [e, List.getElem?_append_left (List.getElem?_eq_some_iff.mp h).1, h]
def bo_gt (s : Nat) (p q : Int32) : Prop := if s = 0 then q < p else p < q
theorem bo_gt_trans {s : Nat} {p q r : Int32} (h1 : bo_gt s p q) (h2 : bo_gt s q r) : bo_gt s p r := by
  by_cases hs : s = 0
  · simp only [bo_gt, hs, if_true, Int32.lt_iff_toInt_lt] at *
    omega
  · simp only [bo_gt, hs, if_false, Int32.lt_iff_toInt_lt] at *
    omega
theorem bo_gt_ne {s : Nat} {p q : Int32} (h : bo_gt s p q) : p ≠ q := by
  intro e
  subst e
  by_cases hs : s = 0
  · simp only [bo_gt, hs, if_true, Int32.lt_iff_toInt_lt] at h
    omega
  · simp only [bo_gt, hs, if_false, Int32.lt_iff_toInt_lt] at h
    omega
theorem bo_ge_gt {s : Nat} {a b : bo_O} (h : bo_ge s a b = true) (hne : a.2.2.1 ≠ b.2.2.1) : bo_gt s a.2.2.1 b.2.2.1 := by
  have hn : a.2.2.1.toInt ≠ b.2.2.1.toInt := fun q => hne (Int32.toInt_inj.mp q)
  by_cases hs : s = 0
  · simp only [bo_ge, bo_gt, hs, if_true, decide_eq_true_eq, Int32.lt_iff_toInt_lt, Int32.le_iff_toInt_le] at *
    omega
  · simp only [bo_ge, bo_gt, hs, if_false, decide_eq_true_eq, Int32.lt_iff_toInt_lt, Int32.le_iff_toInt_le] at *
    omega
theorem bo_S_app {s : Nat} {l : List bo_O} {o : bo_O} (h : bo_S s (l ++ [o])) : bo_S s l ∧ ∀ a ∈ l, bo_ge s a o = true := by
  obtain ⟨h1, -, h3⟩ := List.pairwise_append.mp h
  exact ⟨h1, fun a ha => h3 a ha o (List.mem_singleton.mpr rfl)⟩
theorem bo_last_mem {l : List bo_O} {x : Int32} (h : (bo_dp l).getLast? = some x) : ∃ b ∈ l, b.2.2.1 = x ∧ ∀ s, bo_S s l → ∀ a ∈ l, a = b ∨ bo_ge s a b = true := by
  rcases bo_snoc l with rfl | ⟨L, o, rfl⟩
  · simp [bo_dp] at h
  · rw [bo_dp_last] at h
    simp at h
    refine ⟨o, List.mem_append_right _ (List.mem_singleton.mpr rfl), h, fun s hS a ha => ?_⟩
    rcases List.mem_append.mp ha with ha | ha
    · exact Or.inr ((bo_S_app hS).2 a ha)
    · exact Or.inl (List.mem_singleton.mp ha)
theorem bo_dp_S (s : Nat) : ∀ (n : Nat) (l : List bo_O), l.length = n → bo_S s l → (bo_dp l).Pairwise (bo_gt s) ∧ ∀ p, p ∈ bo_dp l ↔ ∃ a ∈ l, a.2.2.1 = p
  | 0, l, hn, _ => by
    have : l = [] := List.eq_nil_of_length_eq_zero hn
    subst this
    exact ⟨List.Pairwise.nil, fun p => by simp [bo_dp]⟩
  | n + 1, l, hn, hS => by
    rcases bo_snoc l with rfl | ⟨L, o, rfl⟩
    · simp at hn
    · have hL : L.length = n := by simpa using hn
      obtain ⟨hS1, hS2⟩ := bo_S_app hS
      obtain ⟨ih1, ih2⟩ := bo_dp_S s n L hL hS1
      rw [bo_dp_app]
      unfold bo_dps
      by_cases hl : (bo_dp L).getLast? = some o.2.2.1
      · rw [if_pos hl]
        refine ⟨ih1, fun p => ?_⟩
        rw [ih2]
        constructor
        · rintro ⟨a, ha, e⟩
          exact ⟨a, List.mem_append_left _ ha, e⟩
        · rintro ⟨a, ha, e⟩
          rcases List.mem_append.mp ha with ha | ha
          · exact ⟨a, ha, e⟩
          · rw [List.mem_singleton.mp ha] at e
            obtain ⟨b, hb, hb2, -⟩ := bo_last_mem hl
            exact ⟨b, hb, hb2.trans e⟩
      · rw [if_neg hl]
        refine ⟨List.pairwise_append.mpr ⟨ih1, List.pairwise_singleton _ _, fun p hp q hq => ?_⟩, fun p => ?_⟩
        · rw [List.mem_singleton.mp hq]
          obtain ⟨a, ha, e⟩ := (ih2 p).mp hp
          subst e
          refine bo_ge_gt (hS2 a ha) (fun he => hl ?_)
          cases hx : (bo_dp L).getLast? with
          | none =>
            rw [List.getLast?_eq_none_iff.mp hx] at hp
            cases hp
          | some x =>
            obtain ⟨b, hb, hb2, hb3⟩ := bo_last_mem hx
            rw [← hb2]
            congr 1
            rcases hb3 s hS1 a ha with e | e
            · rw [← e]; exact he
            · by_cases hbo : b.2.2.1 = o.2.2.1
              · exact hbo
              · have g1 := bo_ge_gt (hS2 b hb) hbo
                by_cases hab : a.2.2.1 = b.2.2.1
                · exact hab.symm.trans he
                · exact absurd he (bo_gt_ne (bo_gt_trans (bo_ge_gt e hab) g1))
        · rw [List.mem_append, List.mem_singleton, ih2]
          constructor
          · rintro (⟨a, ha, e⟩ | e)
            · exact ⟨a, List.mem_append_left _ ha, e⟩
            · exact ⟨o, List.mem_append_right _ (List.mem_singleton.mpr rfl), e.symm⟩
          · rintro ⟨a, ha, e⟩
            rcases List.mem_append.mp ha with ha | ha
            · exact Or.inl ⟨a, ha, e⟩
            · rw [List.mem_singleton.mp ha] at e
              exact Or.inr e.symm
/-- a new price is on none of those before it -/
theorem bo_new_price {s : Nat} {l : List bo_O} {o : bo_O} (hS : bo_S s (l ++ [o])) (h : ¬ (bo_dp l).getLast? = some o.2.2.1) : ∀ a ∈ l, a.2.2.1 ≠ o.2.2.1 := by
  have h1 := (bo_dp_S s _ _ rfl hS).1
  rw [bo_dp_app, bo_dps, if_neg h] at h1
  obtain ⟨-, -, h3⟩ := List.pairwise_append.mp h1
  intro a ha
  exact bo_gt_ne (h3 _ (((bo_dp_S s _ _ rfl (bo_S_app hS).1).2 _).mpr ⟨a, ha, rfl⟩) _ (List.mem_singleton.mpr rfl))
theorem bo_sum_zero {p : Int32} {l : List bo_O} (h : ∀ a ∈ l, a.2.2.1 ≠ p) : bo_sum p l = 0 ∧ bo_cnt p l = 0 := by
  refine ⟨?_, ?_⟩
  · unfold bo_sum
    have : ∀ (l : List bo_O) (z : Int32), (∀ a ∈ l, a.2.2.1 ≠ p) → l.foldl (fun acc o => if o.2.2.1 = p then acc + o.2.2.2 else acc) z = z := by
      intro l
      induction l with
      | nil => intro z _; rfl
      | cons a t ih =>
        intro z hz
        rw [List.foldl_cons, if_neg (hz a List.mem_cons_self)]
        exact ih z (fun x hx => hz x (List.mem_cons_of_mem _ hx))
    exact this l 0 h
  · unfold bo_cnt
    rw [List.length_eq_zero_iff, List.filter_eq_nil_iff]
    intro a ha
    simp [h a ha]
theorem bo_sum_more {p : Int32} {l r : List bo_O} (h : ∀ a ∈ r, a.2.2.1 ≠ p) : bo_sum p (l ++ r) = bo_sum p l ∧ bo_cnt p (l ++ r) = bo_cnt p l := by
  refine ⟨?_, ?_⟩
  · unfold bo_sum
    rw [List.foldl_append]
    have : ∀ (l : List bo_O) (z : Int32), (∀ a ∈ l, a.2.2.1 ≠ p) → l.foldl (fun acc o => if o.2.2.1 = p then acc + o.2.2.2 else acc) z = z := by
      intro l
      induction l with
      | nil => intro z _; rfl
      | cons a t ih =>
        intro z hz
        rw [List.foldl_cons, if_neg (hz a List.mem_cons_self)]
        exact ih z (fun x hx => hz x (List.mem_cons_of_mem _ hx))
    exact this r _ h
  · unfold bo_cnt
    rw [List.filter_append, List.length_append, (List.filter_eq_nil_iff (l := r)).mpr (fun a ha => by simp [h a ha])]
    rfl
/-- the scan of a side from its best order on, as the class does it: after the orders l, at level lev -/
def bo_tri (lev : Nat) (l : List bo_O) : Int32 × Int32 × Nat := match (bo_dp l)[lev]? with
  | none => (0, 0, 0)
  | some p => (p, bo_sum p l, bo_cnt p l)
theorem bo_cnt_pos {p : Int32} {l : List bo_O} (h : ∃ a ∈ l, a.2.2.1 = p) : 0 < bo_cnt p l := by
  obtain ⟨a, ha, e⟩ := h
  unfold bo_cnt
  exact List.length_pos_of_mem (List.mem_filter.mpr ⟨ha, by simp [e]⟩)
theorem bo_get_last {α : Type} {l : List α} {n : Nat} (h : l.length = n + 1) : l.getLast? = l[n]? := by
  rw [List.getLast?_eq_getElem?, h]
  rfl
theorem bo_tri_step {s lev : Nat} {l : List bo_O} {o : bo_O} (hS : bo_S s (l ++ [o])) (hd : (bo_dp l).length ≤ lev + 1) :
    bo_tri lev (l ++ [o]) = if (bo_dp (l ++ [o])).length = lev + 1 then (o.2.2.1, (bo_tri lev l).2.1 + o.2.2.2, (bo_tri lev l).2.2 + 1) else bo_tri lev l := by
  have hlast : (bo_dp (l ++ [o])).getLast? = some o.2.2.1 := by rw [bo_dp_last]; simp
  by_cases hg : (bo_dp l).getLast? = some o.2.2.1
  · have e : bo_dp (l ++ [o]) = bo_dp l := by rw [bo_dp_app, bo_dps, if_pos hg]
    by_cases hL : (bo_dp l).length = lev + 1
    · rw [e, if_pos hL]
      have hget : (bo_dp l)[lev]? = some o.2.2.1 := by rw [← bo_get_last hL]; exact hg
      unfold bo_tri
      rw [e, hget]
      simp only [bo_sum_app, bo_cnt_app, if_true]
    · rw [e, if_neg hL]
      have hget : (bo_dp l)[lev]? = none := by rw [List.getElem?_eq_none_iff]; omega
      unfold bo_tri
      rw [e, hget]
  · have e : bo_dp (l ++ [o]) = bo_dp l ++ [o.2.2.1] := by rw [bo_dp_app, bo_dps, if_neg hg]
    have hnew := bo_new_price hS hg
    have hlen : (bo_dp (l ++ [o])).length = (bo_dp l).length + 1 := by rw [e]; simp
    by_cases hL : (bo_dp l).length = lev
    · rw [if_pos (by omega)]
      have h1 : (bo_dp (l ++ [o]))[lev]? = some o.2.2.1 := by rw [← bo_get_last (by omega)]; exact hlast
      have h2 : (bo_dp l)[lev]? = none := by rw [List.getElem?_eq_none_iff]; omega
      obtain ⟨z1, z2⟩ := bo_sum_zero hnew
      unfold bo_tri
      rw [h1, h2]
      simp only [bo_sum_app, bo_cnt_app, if_true, z1, z2]
    · rw [if_neg (by omega)]
      by_cases hL2 : (bo_dp l).length = lev + 1
      · obtain ⟨p, hp⟩ : ∃ p, (bo_dp l)[lev]? = some p := ⟨_, List.getElem?_eq_getElem (by omega)⟩
        have hp2 : (bo_dp (l ++ [o]))[lev]? = some p := bo_dp_ext hp
        have hpl : (bo_dp l).getLast? = some p := by rw [bo_get_last hL2]; exact hp
        have hne : ¬ o.2.2.1 = p := fun q => hg (by rw [hpl, q])
        unfold bo_tri
        rw [hp2, hp]
        simp only [bo_sum_app, bo_cnt_app, if_neg hne]
      · have h1 : (bo_dp (l ++ [o]))[lev]? = none := by rw [List.getElem?_eq_none_iff]; omega
        have h2 : (bo_dp l)[lev]? = none := by rw [List.getElem?_eq_none_iff]; omega
        unfold bo_tri
        rw [h1, h2]
theorem bo_dp_grow (l : List bo_O) (o : bo_O) : (bo_dp (l ++ [o])).length = if (bo_dp l).getLast? = some o.2.2.1 then (bo_dp l).length else (bo_dp l).length + 1 := by
  rw [bo_dp_app, bo_dps]
  split
  · rfl
  · simp
/-- once the scan is past the level, the rest adds nothing -/
theorem bo_tri_past {s lev : Nat} {l r : List bo_O} (hS : bo_S s (l ++ r)) (hd : lev + 1 < (bo_dp l).length) : bo_tri lev (l ++ r) = bo_tri lev l := by
  obtain ⟨h1, -, h3⟩ := List.pairwise_append.mp hS
  obtain ⟨p, hp⟩ : ∃ p, (bo_dp l)[lev]? = some p := ⟨_, List.getElem?_eq_getElem (by omega)⟩
  have hp2 : (bo_dp (l ++ r))[lev]? = some p := bo_dp_ext hp
  have hP := (bo_dp_S s _ _ rfl h1).1
  obtain ⟨x, hx⟩ : ∃ x, (bo_dp l).getLast? = some x := by
    cases hc : (bo_dp l).getLast? with
    | none =>
      rw [List.getLast?_eq_none_iff.mp hc] at hd
      simp at hd
    | some x => exact ⟨x, rfl⟩
  have hgt : bo_gt s p x := by
    obtain ⟨i1, i2⟩ := List.getElem?_eq_some_iff.mp hp
    rw [List.getLast?_eq_getElem?] at hx
    obtain ⟨j1, j2⟩ := List.getElem?_eq_some_iff.mp hx
    have := List.pairwise_iff_getElem.mp hP lev _ i1 j1 (by omega)
    rwa [i2, j2] at this
  obtain ⟨b, hb, hb2, -⟩ := bo_last_mem hx
  have hr : ∀ a ∈ r, a.2.2.1 ≠ p := by
    intro a ha e
    have hge := h3 b hb a ha
    by_cases hba : b.2.2.1 = a.2.2.1
    · exact bo_gt_ne hgt (by rw [← hb2, hba, e])
    · have g := bo_ge_gt hge hba
      rw [hb2, e] at g
      exact bo_gt_ne (bo_gt_trans hgt g) rfl
  obtain ⟨z1, z2⟩ := bo_sum_more (l := l) hr
  unfold bo_tri
  rw [hp2, hp]
  simp only [z1, z2]
theorem bo_tri_lv {s lev what : Nat} {l : List bo_O} (hS : bo_S s l) : bo_lv l lev what = if (bo_tri lev l).2.2 = 0 then -2000000 else if what = 0 then (bo_tri lev l).1 else if what = 1 then (bo_tri lev l).2.1 else nI (bo_tri lev l).2.2 := by
  unfold bo_lv bo_tri
  cases hp : (bo_dp l)[lev]? with
  | none => rfl
  | some p =>
    have hpos : 0 < bo_cnt p l := bo_cnt_pos (((bo_dp_S s _ _ rfl hS).2 p).mp (List.mem_of_getElem? hp))
    simp only
    rw [if_neg (show ¬ bo_cnt p l = 0 by omega)]
theorem bo_cnt_le (p : Int32) (l : List bo_O) : bo_cnt p l ≤ l.length := List.length_filter_le _ _
theorem bo_tri_cnt (lev : Nat) (l : List bo_O) : (bo_tri lev l).2.2 ≤ l.length := by
  unfold bo_tri
  cases (bo_dp l)[lev]? with
  | none => exact Nat.zero_le _
  | some p => exact bo_cnt_le p l
/-! sums and counts over the orders as they came -/
def bo_asum (s : Nat) (p : Int32) (l : List bo_O) : Int32 := l.foldl (fun acc o => if o.2.1 = s ∧ o.2.2.1 = p then acc + o.2.2.2 else acc) 0
def bo_acnt (s : Nat) (p : Int32) (l : List bo_O) : Nat := (l.filter (fun o => decide (o.2.1 = s ∧ o.2.2.1 = p))).length
theorem bo_asum_app (s : Nat) (p : Int32) (l : List bo_O) (o : bo_O) : bo_asum s p (l ++ [o]) = if o.2.1 = s ∧ o.2.2.1 = p then bo_asum s p l + o.2.2.2 else bo_asum s p l := by simp [bo_asum, List.foldl_append]
theorem bo_acnt_app (s : Nat) (p : Int32) (l : List bo_O) (o : bo_O) : bo_acnt s p (l ++ [o]) = if o.2.1 = s ∧ o.2.2.1 = p then bo_acnt s p l + 1 else bo_acnt s p l := by
  by_cases h : o.2.1 = s ∧ o.2.2.1 = p <;> simp [bo_acnt, List.filter_append, h]
theorem bo_fold_add (p : Int32) : ∀ (l : List bo_O) (z w : Int32), l.foldl (fun acc o => if o.2.2.1 = p then acc + o.2.2.2 else acc) (z + w) = l.foldl (fun acc o => if o.2.2.1 = p then acc + o.2.2.2 else acc) z + w
  | [], z, w => rfl
  | a :: t, z, w => by
    rw [List.foldl_cons, List.foldl_cons]
    split
    · rw [show z + w + a.2.2.2 = (z + a.2.2.2) + w by rw [Int32.add_assoc, Int32.add_comm w, ← Int32.add_assoc], bo_fold_add p t]
    · exact bo_fold_add p t z w
theorem bo_sum_ins (s : Nat) (p : Int32) (o : bo_O) : ∀ (l : List bo_O) (z : Int32), (bo_ins s o l).foldl (fun acc o => if o.2.2.1 = p then acc + o.2.2.2 else acc) z = if o.2.2.1 = p then l.foldl (fun acc o => if o.2.2.1 = p then acc + o.2.2.2 else acc) z + o.2.2.2 else l.foldl (fun acc o => if o.2.2.1 = p then acc + o.2.2.2 else acc) z
  | [], z => rfl
  | a :: t, z => by
    unfold bo_ins
    split
    · rw [List.foldl_cons, bo_sum_ins s p o t, List.foldl_cons]
    · rw [List.foldl_cons]
      by_cases h : o.2.2.1 = p
      · rw [if_pos h, if_pos h, bo_fold_add]
      · rw [if_neg h, if_neg h]
theorem bo_sum_srt (s : Nat) (p : Int32) : ∀ (n : Nat) (l : List bo_O), l.length = n → bo_sum p (bo_srt s l) = bo_asum s p l ∧ bo_cnt p (bo_srt s l) = bo_acnt s p l
  | 0, l, hn => by
    have : l = [] := List.eq_nil_of_length_eq_zero hn
    subst this
    exact ⟨rfl, rfl⟩
  | n + 1, l, hn => by
    rcases bo_snoc l with rfl | ⟨L, o, rfl⟩
    · simp at hn
    · have hL : L.length = n := by simpa using hn
      obtain ⟨ih1, ih2⟩ := bo_sum_srt s p n L hL
      rw [bo_srt_app, bo_asum_app, bo_acnt_app]
      by_cases hs : o.2.1 = s
      · rw [if_pos hs]
        have hc : bo_cnt p (bo_ins s o (bo_srt s L)) = if o.2.2.1 = p then bo_cnt p (bo_srt s L) + 1 else bo_cnt p (bo_srt s L) := by
          unfold bo_cnt
          rw [bo_ins_filter _ (bo_srt_S s L)]
          by_cases h : o.2.2.1 = p
          · rw [if_pos h, if_pos (by simp [h]), bo_ins_len]
          · rw [if_neg h, if_neg (by simp [h])]
        refine ⟨?_, ?_⟩
        · rw [bo_sum, bo_sum_ins, ← bo_sum, ih1]
          by_cases h : o.2.2.1 = p
          · rw [if_pos h, if_pos ⟨hs, h⟩]
          · rw [if_neg h, if_neg (fun q => h q.2)]
        · rw [hc, ih2]
          by_cases h : o.2.2.1 = p
          · rw [if_pos h, if_pos ⟨hs, h⟩]
          · rw [if_neg h, if_neg (fun q => h q.2)]
      · rw [if_neg hs, if_neg (fun q => hs q.1), if_neg (fun q => hs q.1)]
        exact ⟨ih1, ih2⟩
end
section
/-! events, and what they make of a book -/
/-- sort, instrument, number, id, side, price, size -/
abbrev bo_E : Type := Nat × Nat × Nat × Int32 × Nat × Int32 × Int32
abbrev bo_B : Type := List bo_O × Bool
def bo_e0 : bo_E := (0, 0, 0, 0, 0, 0, 0)
def bo_fi (l : List bo_O) (x : Int32) : Option bo_O := l.find? (fun o => decide (o.1 = x))
def bo_del (l : List bo_O) (x : Int32) : List bo_O := l.filter (fun o => decide (o.1 ≠ x))
def bo_siz (l : List bo_O) (x v : Int32) : List bo_O := l.map (fun o => if o.1 = x then (o.1, o.2.1, o.2.2.1, v) else o)
def bo_szo (l : List bo_O) (x : Int32) : Int32 := match bo_fi l x with
  | some o => o.2.2.2
  | none => 0
def bo_apl (b : bo_B) (e : bo_E) : bo_B :=
  if e.1 = 0 then (b.1 ++ [(e.2.2.2.1, e.2.2.2.2.1, e.2.2.2.2.2.1, e.2.2.2.2.2.2)], b.2)
  else if e.1 = 1 then (bo_siz b.1 e.2.2.2.1 e.2.2.2.2.2.2, b.2)
  else if e.1 = 2 then (if bo_szo b.1 e.2.2.2.1 = e.2.2.2.2.2.2 then bo_del b.1 e.2.2.2.1 else bo_siz b.1 e.2.2.2.1 (bo_szo b.1 e.2.2.2.1 - e.2.2.2.2.2.2), b.2)
  else if e.1 = 3 then (bo_del b.1 e.2.2.2.1, b.2)
  else if e.1 = 4 then (b.1, decide (e.2.2.2.2.2.2 = 1))
  else ([], b.2)
/-- does the book allow it -/
def bo_ok (b : bo_B) (sort : Nat) (x v : Int32) : Bool :=
  if sort = 0 then (bo_fi b.1 x).isNone && decide (b.1.length < 24)
  else if sort = 1 then (match bo_fi b.1 x with | some o => decide (v < o.2.2.2) | none => false)
  else if sort = 2 then (match bo_fi b.1 x with | some o => !b.2 && decide (v ≤ o.2.2.2) | none => false)
  else if sort = 3 then (bo_fi b.1 x).isSome
  else if sort = 4 then decide ((v = 1) ≠ (b.2 = true))
  else true
/-- ids differ, sides are two, sizes are above 0, at most 24 -/
def bo_wf (l : List bo_O) : Prop := (l.map (fun o => o.1)).Nodup ∧ bo_two l ∧ (∀ o ∈ l, 0 < o.2.2.2) ∧ l.length ≤ 24
def bo_ewf (e : bo_E) : Prop := e.1 ≤ 5 ∧ e.2.1 < 4 ∧ (e.2.2.2.2.1 = 0 ∨ e.2.2.2.2.1 = 1) ∧ (e.1 ≤ 2 → 0 < e.2.2.2.2.2.2)
theorem bo_fi_some {l : List bo_O} {x : Int32} {o : bo_O} (h : bo_fi l x = some o) : o ∈ l ∧ o.1 = x := ⟨List.mem_of_find?_eq_some h, by simpa using List.find?_some h⟩
theorem bo_fi_none {l : List bo_O} {x : Int32} : bo_fi l x = none ↔ ∀ o ∈ l, o.1 ≠ x := by
  unfold bo_fi
  rw [List.find?_eq_none]
  simp
theorem bo_nodup_eq {l : List bo_O} (h : (l.map (fun o => o.1)).Nodup) {a b : bo_O} (ha : a ∈ l) (hb : b ∈ l) (e : a.1 = b.1) : a = b := by
  obtain ⟨i, hi⟩ := List.getElem?_of_mem ha
  obtain ⟨j, hj⟩ := List.getElem?_of_mem hb
  have h1 : (l.map (fun o => o.1))[i]? = some a.1 := by rw [List.getElem?_map, hi]; rfl
  have h2 : (l.map (fun o => o.1))[j]? = some a.1 := by rw [List.getElem?_map, hj, e]; rfl
  have hij : i = j := by
    obtain ⟨g1, g2⟩ := List.getElem?_eq_some_iff.mp h1
    obtain ⟨g3, g4⟩ := List.getElem?_eq_some_iff.mp h2
    rcases Nat.lt_trichotomy i j with q | q | q
    · exact absurd (g2.trans g4.symm) (List.pairwise_iff_getElem.mp h i j g1 g3 q)
    · exact q
    · exact absurd (g4.trans g2.symm) (List.pairwise_iff_getElem.mp h j i g3 g1 q)
  subst hij
  exact Option.some.inj (hi.symm.trans hj)
theorem bo_fi_of {l : List bo_O} (h : (l.map (fun o => o.1)).Nodup) {o : bo_O} (ho : o ∈ l) : bo_fi l o.1 = some o := by
  cases hf : bo_fi l o.1 with
  | none => exact absurd rfl (bo_fi_none.mp hf o ho)
  | some a =>
    obtain ⟨h1, h2⟩ := bo_fi_some hf
    rw [bo_nodup_eq h h1 ho h2]
theorem bo_map_ids {l : List bo_O} {x v : Int32} : (bo_siz l x v).map (fun o => o.1) = l.map (fun o => o.1) := by
  unfold bo_siz
  rw [List.map_map]
  apply List.map_congr_left
  intro o _
  simp only [Function.comp]
  split <;> rfl
theorem bo_wf_del {l : List bo_O} {x : Int32} (h : bo_wf l) : bo_wf (bo_del l x) := by
  obtain ⟨h1, h2, h3, h4⟩ := h
  unfold bo_del
  refine ⟨?_, fun o ho => h2 o (List.mem_filter.mp ho).1, fun o ho => h3 o (List.mem_filter.mp ho).1, Nat.le_trans (List.length_filter_le _ _) h4⟩
  exact List.Nodup.sublist (List.Sublist.map _ List.filter_sublist) h1
theorem bo_wf_siz {l : List bo_O} {x v : Int32} (h : bo_wf l) (hv : 0 < v) : bo_wf (bo_siz l x v) := by
  obtain ⟨h1, h2, h3, h4⟩ := h
  refine ⟨by rw [bo_map_ids]; exact h1, fun o ho => ?_, fun o ho => ?_, by unfold bo_siz; rw [List.length_map]; exact h4⟩
  · unfold bo_siz at ho
    obtain ⟨a, ha, rfl⟩ := List.mem_map.mp ho
    split
    · exact h2 a ha
    · exact h2 a ha
  · unfold bo_siz at ho
    obtain ⟨a, ha, rfl⟩ := List.mem_map.mp ho
    split
    · exact hv
    · exact h3 a ha
theorem bo_sub_pos {a b : Int32} (ha : 0 < a) (hb : 0 < b) (hle : b ≤ a) (hne : a ≠ b) : 0 < a - b := by
  rw [Int32.lt_iff_toInt_lt] at *
  rw [Int32.le_iff_toInt_le] at hle
  have h1 := a.toInt_lt
  have hn : a.toInt ≠ b.toInt := fun q => hne (Int32.toInt_inj.mp q)
  rw [Int32.toInt_zero] at *
  have e : (a - b).toInt = a.toInt - b.toInt := by
    rw [Int32.toInt_sub]
    apply Int.bmod_eq_of_le <;> omega
  rw [e]
  omega
theorem bo_wf_apl {b : bo_B} {e : bo_E} (h : bo_wf b.1) (he : bo_ewf e) (hok : bo_ok b e.1 e.2.2.2.1 e.2.2.2.2.2.2 = true) : bo_wf (bo_apl b e).1 := by
  obtain ⟨e1, e2, e3, e4⟩ := he
  unfold bo_apl
  unfold bo_ok at hok
  by_cases c0 : e.1 = 0
  · rw [if_pos c0]
    rw [if_pos c0] at hok
    simp only [Bool.and_eq_true, Option.isNone_iff_eq_none, decide_eq_true_eq] at hok
    obtain ⟨h1, h2, h3, h4⟩ := h
    refine ⟨?_, fun o ho => ?_, fun o ho => ?_, by simp; omega⟩
    · rw [List.map_append, List.nodup_append]
      refine ⟨h1, by simp, fun a ha c hc => ?_⟩
      simp only [List.map_cons, List.map_nil, List.mem_singleton] at hc
      obtain ⟨o, ho, rfl⟩ := List.mem_map.mp ha
      rw [hc]
      exact bo_fi_none.mp hok.1 o ho
    · rcases List.mem_append.mp ho with ho | ho
      · exact h2 o ho
      · rw [List.mem_singleton.mp ho]; exact e3
    · rcases List.mem_append.mp ho with ho | ho
      · exact h3 o ho
      · rw [List.mem_singleton.mp ho]; exact e4 (by omega)
  · rw [if_neg c0]
    rw [if_neg c0] at hok
    by_cases c1 : e.1 = 1
    · rw [if_pos c1]
      exact bo_wf_siz h (e4 (by omega))
    · rw [if_neg c1]
      rw [if_neg c1] at hok
      by_cases c2 : e.1 = 2
      · rw [if_pos c2]
        rw [if_pos c2] at hok
        by_cases hz : bo_szo b.1 e.2.2.2.1 = e.2.2.2.2.2.2
        · simp only [if_pos hz]
          exact bo_wf_del h
        · simp only [if_neg hz]
          refine bo_wf_siz h ?_
          cases hf : bo_fi b.1 e.2.2.2.1 with
          | none => rw [hf] at hok; simp at hok
          | some o =>
            rw [hf] at hok
            simp only [Bool.and_eq_true, decide_eq_true_eq] at hok
            have hs : bo_szo b.1 e.2.2.2.1 = o.2.2.2 := by simp [bo_szo, hf]
            rw [hs] at hz ⊢
            exact bo_sub_pos (h.2.2.1 o (bo_fi_some hf).1) (e4 (by omega)) hok.2 hz
      · rw [if_neg c2]
        by_cases c3 : e.1 = 3
        · rw [if_pos c3]
          exact bo_wf_del h
        · rw [if_neg c3]
          by_cases c4 : e.1 = 4
          · rw [if_pos c4]
            exact h
          · rw [if_neg c4]
            exact ⟨List.nodup_nil, fun o ho => (by cases ho), fun o ho => (by cases ho), Nat.zero_le _⟩
/-! arrays that hold a list of orders -/
def bo_AR (ids pri siz : Nat → Int32) (a : List bo_O) : Prop := ∀ (j : Nat) (o : bo_O), a[j]? = some o → ids j = o.1 ∧ pri j = o.2.2.1 ∧ siz j = o.2.2.2
theorem bo_AR_ins {ids pri siz : Nat → Int32} {a : List bo_O} {p : Nat} {o : bo_O} (h : bo_AR ids pri siz a) (hp : p ≤ a.length) :
    bo_AR (upd (va_cpy ids ids p (p + 1) (a.length - p)) p o.1) (upd (va_cpy pri pri p (p + 1) (a.length - p)) p o.2.2.1) (upd (va_cpy siz siz p (p + 1) (a.length - p)) p o.2.2.2) (a.take p ++ o :: a.drop p) := by
  intro j q hq
  rcases Nat.lt_trichotomy j p with hj | hj | hj
  · rw [List.getElem?_append_left (by rw [List.length_take]; omega), List.getElem?_take_of_lt hj] at hq
    obtain ⟨h1, h2, h3⟩ := h j q hq
    have n1 : ¬ j = p := by omega
    have n2 : ¬ (p + 1 ≤ j ∧ j < p + 1 + (a.length - p)) := by omega
    simp only [upd, va_cpy, if_neg n1, if_neg n2]
    exact ⟨h1, h2, h3⟩
  · subst hj
    rw [List.getElem?_append_right (by rw [List.length_take]; omega), List.length_take, Nat.min_eq_left hp, Nat.sub_self, List.getElem?_cons_zero] at hq
    cases hq
    simp [upd]
  · obtain ⟨i, rfl⟩ : ∃ i, j = i + 1 := ⟨j - 1, by omega⟩
    rw [List.getElem?_append_right (by rw [List.length_take]; omega), List.length_take, Nat.min_eq_left hp, show i + 1 - p = (i - p) + 1 by omega, List.getElem?_cons_succ, List.getElem?_drop, show p + (i - p) = i by omega] at hq
    have hl : i < a.length := (List.getElem?_eq_some_iff.mp hq).1
    obtain ⟨h1, h2, h3⟩ := h i q hq
    have n1 : ¬ i + 1 = p := by omega
    have n2 : p + 1 ≤ i + 1 ∧ i + 1 < p + 1 + (a.length - p) := by omega
    simp only [upd, va_cpy, if_neg n1, if_pos n2]
    rw [show p + (i + 1 - (p + 1)) = i by omega]
    exact ⟨h1, h2, h3⟩
theorem bo_AR_del {ids pri siz : Nat → Int32} {a : List bo_O} {k : Nat} (h : bo_AR ids pri siz a) (hk : k < a.length) :
    bo_AR (va_cpy ids ids (k + 1) k (a.length - 1 - k)) (va_cpy pri pri (k + 1) k (a.length - 1 - k)) (va_cpy siz siz (k + 1) k (a.length - 1 - k)) (a.eraseIdx k) := by
  intro j q hq
  rw [List.getElem?_eraseIdx] at hq
  by_cases hj : j < k
  · rw [if_pos hj] at hq
    have n2 : ¬ (k ≤ j ∧ j < k + (a.length - 1 - k)) := by omega
    simp only [va_cpy, if_neg n2]
    exact h j q hq
  · rw [if_neg hj] at hq
    have hl : j + 1 < a.length := (List.getElem?_eq_some_iff.mp hq).1
    have n2 : k ≤ j ∧ j < k + (a.length - 1 - k) := by omega
    simp only [va_cpy, if_pos n2]
    rw [show k + 1 + (j - k) = j + 1 by omega]
    exact h (j + 1) q hq
theorem bo_AR_set {ids pri siz : Nat → Int32} {a : List bo_O} {k : Nat} {o : bo_O} {v : Int32} (h : bo_AR ids pri siz a) (hk : a[k]? = some o) : bo_AR ids pri (upd siz k v) (a.set k (o.1, o.2.1, o.2.2.1, v)) := by
  intro j q hq
  have hl : k < a.length := (List.getElem?_eq_some_iff.mp hk).1
  by_cases hj : j = k
  · subst hj
    rw [List.getElem?_set_self hl] at hq
    cases hq
    obtain ⟨h1, h2, h3⟩ := h j o hk
    exact ⟨h1, h2, by simp [upd]⟩
  · rw [List.getElem?_set_ne (Ne.symm hj)] at hq
    obtain ⟨h1, h2, h3⟩ := h j q hq
    exact ⟨h1, h2, by simp [upd, hj]; exact h3⟩
theorem bo_erase_del : ∀ {a : List bo_O} {k : Nat} {o : bo_O}, (a.map (fun o => o.1)).Nodup → a[k]? = some o → a.eraseIdx k = bo_del a o.1
  | [], k, o, _, h => by simp at h
  | b :: t, 0, o, hn, h => by
    rw [List.getElem?_cons_zero] at h
    cases h
    rw [List.map_cons, List.nodup_cons] at hn
    unfold bo_del
    rw [List.eraseIdx_cons_zero, List.filter_cons, if_neg (by simp)]
    symm
    apply List.filter_eq_self.mpr
    intro x hx
    simp only [decide_eq_true_eq]
    exact fun q => hn.1 (List.mem_map.mpr ⟨x, hx, q⟩)
  | b :: t, k + 1, o, hn, h => by
    rw [List.getElem?_cons_succ] at h
    rw [List.map_cons, List.nodup_cons] at hn
    have hne : b.1 ≠ o.1 := fun q => hn.1 (List.mem_map.mpr ⟨o, List.mem_of_getElem? h, q.symm⟩)
    have ih := bo_erase_del hn.2 h
    unfold bo_del at ih ⊢
    rw [List.eraseIdx_cons_succ, ih, List.filter_cons, if_pos (by simp [hne])]
theorem bo_set_siz : ∀ {a : List bo_O} {k : Nat} {o : bo_O} {v : Int32}, (a.map (fun o => o.1)).Nodup → a[k]? = some o → a.set k (o.1, o.2.1, o.2.2.1, v) = bo_siz a o.1 v
  | [], k, o, v, _, h => by simp at h
  | b :: t, 0, o, v, hn, h => by
    rw [List.getElem?_cons_zero] at h
    cases h
    rw [List.map_cons, List.nodup_cons] at hn
    unfold bo_siz
    rw [List.set_cons_zero, List.map_cons, if_pos rfl]
    congr 1
    symm
    have : t.map (fun o => if o.1 = b.1 then (o.1, o.2.1, o.2.2.1, v) else o) = t.map id := by
      apply List.map_congr_left
      intro x hx
      rw [if_neg (fun q => hn.1 (List.mem_map.mpr ⟨x, hx, q⟩))]
      rfl
    rw [this, List.map_id]
  | b :: t, k + 1, o, v, hn, h => by
    rw [List.getElem?_cons_succ] at h
    rw [List.map_cons, List.nodup_cons] at hn
    have hne : b.1 ≠ o.1 := fun q => hn.1 (List.mem_map.mpr ⟨o, List.mem_of_getElem? h, q.symm⟩)
    have ih := bo_set_siz (v := v) hn.2 h
    unfold bo_siz at ih ⊢
    rw [List.set_cons_succ, ih, List.map_cons, if_neg hne]
theorem bo_arr_siz (l : List bo_O) (x v : Int32) : bo_arr (bo_siz l x v) = bo_siz (bo_arr l) x v := by
  unfold bo_siz
  apply bo_arr_map
  · intro o
    split <;> rfl
  · intro o
    split <;> rfl
theorem bo_arr_del (l : List bo_O) (x : Int32) : bo_arr (bo_del l x) = bo_del (bo_arr l) x := bo_arr_filter _ l
theorem bo_fold_ids {s : Nat} {x : Int32} : ∀ (l acc : List bo_O), x ∈ (l.foldl (bo_st s) acc).map (fun o => o.1) → x ∈ l.map (fun o => o.1) ∨ x ∈ acc.map (fun o => o.1) := by
  intro l acc h
  obtain ⟨o, ho, rfl⟩ := List.mem_map.mp h
  rcases (bo_fold_mem l acc).mp ho with h | h
  · exact Or.inl (List.mem_map.mpr ⟨o, h.1, rfl⟩)
  · exact Or.inr (List.mem_map.mpr ⟨o, h, rfl⟩)
theorem bo_ins_perm (s : Nat) (o : bo_O) : ∀ (l : List bo_O), (bo_ins s o l).Perm (o :: l)
  | [] => List.Perm.refl _
  | a :: t => by
    unfold bo_ins
    split
    · exact ((bo_ins_perm s o t).cons a).trans (List.Perm.swap o a t)
    · exact List.Perm.refl _
theorem bo_arr_perm : ∀ (n : Nat) (l : List bo_O), l.length = n → bo_two l → (bo_arr l).Perm l
  | 0, l, hn, _ => by
    have : l = [] := List.eq_nil_of_length_eq_zero hn
    subst this
    exact List.Perm.refl _
  | n + 1, l, hn, h2 => by
    rcases bo_snoc l with rfl | ⟨L, o, rfl⟩
    · simp at hn
    · have hL : L.length = n := by simpa using hn
      have ih := bo_arr_perm n L hL (fun x hx => h2 x (List.mem_append_left _ hx))
      have key : (bo_arr (L ++ [o])).Perm (o :: bo_arr L) := by
        unfold bo_arr
        rw [bo_srt_app, bo_srt_app]
        rcases h2 o (List.mem_append_right _ (List.mem_singleton.mpr rfl)) with h0 | h0
        · rw [if_pos h0, if_neg (by omega)]
          exact ((bo_ins_perm 0 o _).append_right _)
        · rw [if_neg (by omega), if_pos h0]
          exact ((bo_ins_perm 1 o _).append_left _).trans List.perm_middle
      refine key.trans ((ih.cons o).trans ?_)
      exact (List.perm_append_singleton o L).symm
theorem bo_arr_nodup {l : List bo_O} (h : bo_wf l) : ((bo_arr l).map (fun o => o.1)).Nodup := ((bo_arr_perm _ l rfl h.2.1).map _).nodup_iff.mpr h.1
theorem bo_arr_fi {l : List bo_O} (h : bo_wf l) (x : Int32) : bo_fi (bo_arr l) x = bo_fi l x := by
  cases hf : bo_fi l x with
  | none =>
    rw [bo_fi_none] at hf ⊢
    exact fun o ho => hf o ((bo_arr_mem h.2.1).mp ho)
  | some o =>
    obtain ⟨h1, rfl⟩ := bo_fi_some hf
    exact bo_fi_of (bo_arr_nodup h) ((bo_arr_mem h.2.1).mpr h1)
end
section
/-! the log, books after so many events of an instrument, views; what a receiver does with an event -/
def fe_li (log : List bo_E) (i : Nat) : List bo_E := log.filter (fun e => decide (e.2.1 = i))
def fe_bk (log : List bo_E) (i n : Nat) : bo_B := ((fe_li log i).take n).foldl bo_apl ([], false)
def fe_vw (b : bo_B) : Nat → Int32 := fun c => if c < 18 then bo_lv (bo_srt (c / 9) b.1) (c % 9 / 3) (c % 3) else if b.2 = true then 1 else 0
/-- every event was allowed as it came, is well made, and bears its number -/
def fe_ok (log : List bo_E) : Prop := ∀ (i j : Nat) (e : bo_E), (fe_li log i)[j]? = some e → e.2.2.1 = j + 1 ∧ bo_ewf e ∧ bo_ok (fe_bk log i j) e.1 e.2.2.2.1 e.2.2.2.2.2.2 = true
theorem fe_li_app (log : List bo_E) (e : bo_E) (i : Nat) : fe_li (log ++ [e]) i = if e.2.1 = i then fe_li log i ++ [e] else fe_li log i := by
  unfold fe_li
  rw [List.filter_append]
  by_cases h : e.2.1 = i <;> simp [h]
theorem fe_li_len (log : List bo_E) (i : Nat) : (fe_li log i).length ≤ log.length := List.length_filter_le _ _
theorem fe_bk_0 (log : List bo_E) (i : Nat) : fe_bk log i 0 = ([], false) := rfl
theorem fe_bk_succ {log : List bo_E} {i n : Nat} {e : bo_E} (h : (fe_li log i)[n]? = some e) : fe_bk log i (n + 1) = bo_apl (fe_bk log i n) e := by
  unfold fe_bk
  rw [List.take_succ, h]
  simp [List.foldl_append]
theorem fe_bk_app {log : List bo_E} {e : bo_E} {i n : Nat} (hn : n ≤ (fe_li log i).length) : fe_bk (log ++ [e]) i n = fe_bk log i n := by
  unfold fe_bk
  rw [fe_li_app]
  by_cases h : e.2.1 = i
  · rw [if_pos h, List.take_append_of_le_length hn]
  · rw [if_neg h]
theorem fe_bk_wf {log : List bo_E} (h : fe_ok log) (i : Nat) : ∀ n, n ≤ (fe_li log i).length → bo_wf (fe_bk log i n).1
  | 0, _ => ⟨List.nodup_nil, fun o ho => (by cases ho), fun o ho => (by cases ho), Nat.zero_le _⟩
  | n + 1, hn => by
    have hl : n < (fe_li log i).length := by omega
    have e := List.getElem?_eq_getElem hl
    obtain ⟨-, h2, h3⟩ := h i n _ e
    rw [fe_bk_succ e]
    exact bo_wf_apl (fe_bk_wf h i n (by omega)) h2 h3
theorem fe_ok_nil : fe_ok [] := fun i j e h => by simp [fe_li] at h
theorem fe_ok_app {log : List bo_E} {e : bo_E} (h : fe_ok log) (h1 : e.2.2.1 = (fe_li log e.2.1).length + 1) (h2 : bo_ewf e) (h3 : bo_ok (fe_bk log e.2.1 (fe_li log e.2.1).length) e.1 e.2.2.2.1 e.2.2.2.2.2.2 = true) : fe_ok (log ++ [e]) := by
  intro i j x hx
  rw [fe_li_app] at hx
  by_cases hi : e.2.1 = i
  · rw [if_pos hi] at hx
    subst hi
    by_cases hj : j < (fe_li log e.2.1).length
    · rw [List.getElem?_append_left hj] at hx
      obtain ⟨g1, g2, g3⟩ := h _ j x hx
      exact ⟨g1, g2, by rw [fe_bk_app (by omega)]; exact g3⟩
    · rw [List.getElem?_append_right (by omega)] at hx
      have hz : j - (fe_li log e.2.1).length < 1 := (List.getElem?_eq_some_iff.mp hx).1
      have hz2 : j = (fe_li log e.2.1).length := by omega
      subst hz2
      rw [Nat.sub_self, List.getElem?_cons_zero] at hx
      cases hx
      exact ⟨h1, h2, by rw [fe_bk_app (Nat.le_refl _)]; exact h3⟩
  · rw [if_neg hi] at hx
    obtain ⟨g1, g2, g3⟩ := h i j x hx
    have hj : j < (fe_li log i).length := (List.getElem?_eq_some_iff.mp hx).1
    exact ⟨g1, g2, by rw [fe_bk_app (by omega)]; exact g3⟩
/-! one instrument of a receiver: how many events are applied, the numbers held, the reader's row -/
abbrev tr_T : Type := Nat × List Nat × List Nat
def tr_mark (i : Nat) (row : List Nat) : List Nat := if i ∈ row then row else row ++ [i]
def tr_dif (f g : Nat → Int32) : Bool := (List.range 19).any (fun c => decide (f c ≠ g c))
def tr_bec (log : List bo_E) (i m : Nat) (t : tr_T) : tr_T := (m, t.2.1, if tr_dif (fe_vw (fe_bk log i t.1)) (fe_vw (fe_bk log i m)) = true then tr_mark i t.2.2 else t.2.2)
def tr_fol (log : List bo_E) (i : Nat) : Nat → tr_T → tr_T
  | 0, t => t
  | k + 1, t => if t.1 + 1 ∈ t.2.1 then tr_fol log i k (tr_bec log i (t.1 + 1) (t.1, t.2.1.erase (t.1 + 1), t.2.2)) else t
def tr_take (log : List bo_E) (i num : Nat) (t : tr_T) : tr_T := if num = t.1 + 1 then tr_fol log i t.2.1.length (tr_bec log i num t) else if t.1 + 1 < num ∧ num ∉ t.2.1 ∧ t.2.1.length < 30 then (t.1, t.2.1 ++ [num], t.2.2) else t
/-- what holds of it -/
def tr_I (log : List bo_E) (i : Nat) (t : tr_T) : Prop := t.1 ≤ (fe_li log i).length ∧ t.2.1.Nodup ∧ (∀ n ∈ t.2.1, t.1 + 1 < n ∧ n ≤ (fe_li log i).length) ∧ t.2.1.length ≤ 30 ∧ t.2.2.Nodup ∧ ∀ j ∈ t.2.2, j < 4
/-- the same while events are being applied: the next may be held -/
def tr_J (log : List bo_E) (i : Nat) (t : tr_T) : Prop := t.1 ≤ (fe_li log i).length ∧ t.2.1.Nodup ∧ (∀ n ∈ t.2.1, t.1 < n ∧ n ≤ (fe_li log i).length) ∧ t.2.1.length ≤ 30 ∧ t.2.2.Nodup ∧ ∀ j ∈ t.2.2, j < 4
theorem tr_mark_I {i : Nat} {row : List Nat} (hi : i < 4) (h1 : row.Nodup) (h2 : ∀ j ∈ row, j < 4) : (tr_mark i row).Nodup ∧ ∀ j ∈ tr_mark i row, j < 4 := by
  unfold tr_mark
  split
  · exact ⟨h1, h2⟩
  · rename_i hn
    refine ⟨List.nodup_append.mpr ⟨h1, by simp, fun a ha b hb => ?_⟩, fun j hj => ?_⟩
    · rw [List.mem_singleton.mp hb]
      exact fun q => hn (by rw [← q]; exact ha)
    · rcases List.mem_append.mp hj with hj | hj
      · exact h2 j hj
      · rw [List.mem_singleton.mp hj]; exact hi
theorem tr_bec_J {log : List bo_E} {i m : Nat} {t : tr_T} (hi : i < 4) (hm : m ≤ (fe_li log i).length) (h : tr_J log i t) (hl : ∀ n ∈ t.2.1, m < n) : tr_J log i (tr_bec log i m t) := by
  obtain ⟨h1, h2, h3, h4, h5, h6⟩ := h
  unfold tr_bec
  refine ⟨hm, h2, fun n hn => ⟨hl n hn, (h3 n hn).2⟩, h4, ?_⟩
  dsimp only
  split
  · exact tr_mark_I hi h5 h6
  · exact ⟨h5, h6⟩
theorem tr_fol_I {log : List bo_E} {i : Nat} (hi : i < 4) : ∀ (k : Nat) (t : tr_T), t.2.1.length ≤ k → tr_J log i t → tr_I log i (tr_fol log i k t)
  | 0, t, hk, h => by
    obtain ⟨h1, h2, h3, h4, h5, h6⟩ := h
    have e : t.2.1 = [] := List.eq_nil_of_length_eq_zero (by omega)
    unfold tr_fol
    exact ⟨h1, h2, fun n hn => (by rw [e] at hn; cases hn), h4, h5, h6⟩
  | k + 1, t, hk, h => by
    unfold tr_fol
    by_cases hc : t.1 + 1 ∈ t.2.1
    · rw [if_pos hc]
      obtain ⟨h1, h2, h3, h4, h5, h6⟩ := h
      have hlen := List.length_erase_of_mem hc
      have hpos : 0 < t.2.1.length := List.length_pos_of_mem hc
      refine tr_fol_I hi k _ (by show (t.2.1.erase (t.1 + 1)).length ≤ k; omega) (tr_bec_J hi (h3 _ hc).2 ⟨h1, h2.erase _, fun n hn => h3 n (List.mem_of_mem_erase hn), by show (t.2.1.erase (t.1 + 1)).length ≤ 30; omega, h5, h6⟩ (fun n hn => ?_))
      have hn1 := h3 n (List.mem_of_mem_erase hn)
      have hn2 : n ≠ t.1 + 1 := fun q => by
        rw [q] at hn
        exact (List.Nodup.not_mem_erase h2) hn
      omega
    · rw [if_neg hc]
      obtain ⟨h1, h2, h3, h4, h5, h6⟩ := h
      refine ⟨h1, h2, fun n hn => ⟨?_, (h3 n hn).2⟩, h4, h5, h6⟩
      have hn1 := (h3 n hn).1
      have hn2 : n ≠ t.1 + 1 := fun q => hc (by rw [← q]; exact hn)
      omega
theorem tr_I.J {log : List bo_E} {i : Nat} {t : tr_T} (h : tr_I log i t) : tr_J log i t := ⟨h.1, h.2.1, fun n hn => ⟨by have := (h.2.2.1 n hn).1; omega, (h.2.2.1 n hn).2⟩, h.2.2.2⟩
theorem tr_take_I {log : List bo_E} {i num : Nat} {t : tr_T} (hi : i < 4) (hm : num ≤ (fe_li log i).length) (h : tr_I log i t) : tr_I log i (tr_take log i num t) := by
  unfold tr_take
  by_cases hc : num = t.1 + 1
  · rw [if_pos hc]
    exact tr_fol_I hi _ _ (Nat.le_refl _) (tr_bec_J hi hm h.J (fun n hn => by have := (h.2.2.1 n hn).1; omega))
  · rw [if_neg hc]
    by_cases hd : t.1 + 1 < num ∧ num ∉ t.2.1 ∧ t.2.1.length < 30
    · rw [if_pos hd]
      obtain ⟨h1, h2, h3, h4, h5, h6⟩ := h
      refine ⟨h1, List.nodup_append.mpr ⟨h2, by simp, fun a ha b hb => ?_⟩, fun n hn => ?_, by simp; omega, h5, h6⟩
      · rw [List.mem_singleton.mp hb]
        exact fun q => hd.2.1 (by rw [← q]; exact ha)
      · rcases List.mem_append.mp hn with hn | hn
        · exact h3 n hn
        · rw [List.mem_singleton.mp hn]; exact ⟨hd.1, hm⟩
    · rw [if_neg hd]
      exact h
end
section
/-! ends of contracts, and calls by them -/
def fp_r (v0 : Value) (sz0 : Nat) (h0 : fv_H) : Option Value → Nat → fv_H → Prop := fun v sz' h' => v = some v0 ∧ sz' = sz0 ∧ h' = h0
def fp_v (sz0 : Nat) (P : fv_H → Prop) : Option Value → Nat → fv_H → Prop := fun v sz' h' => v = none ∧ sz' = sz0 ∧ P h'
def fp_i (sz0 : Nat) (P : Int32 → fv_H → Prop) : Option Value → Nat → fv_H → Prop := fun v sz' h' => ∃ r : Int32, v = some (.int r) ∧ sz' = sz0 ∧ P r h'
def fp_a (sz0 : Nat) (P : Option Nat → fv_H → Prop) : Option Value → Nat → fv_H → Prop := fun v sz' h' => ∃ r : Option Nat, v = some (va_rf r) ∧ sz' = sz0 ∧ P r h'
/-- nothing but the n cells from a on has changed -/
def fr (h h' : fv_H) (a n : Nat) : Prop := ∀ x : Nat, ¬ (a ≤ x ∧ x < a + n) → h' x = h x
theorem fr_rf (h : fv_H) (a n : Nat) : fr h h a n := fun _ _ => rfl
theorem fr_up {h : fv_H} {a n x : Nat} {e : Option va_E} (h1 : a ≤ x) (h2 : x < a + n) : fr h (va_up h x e) a n := fun y hy => va_up_ne _ _ (fun q => hy (by omega))
theorem fr.tr {h h1 h2 : fv_H} {a n : Nat} (q1 : fr h h1 a n) (q2 : fr h1 h2 a n) : fr h h2 a n := fun x hx => (q2 x hx).trans (q1 x hx)
theorem fr.wide {h h' : fv_H} {a n b m : Nat} (q : fr h h' a n) (h1 : b ≤ a) (h2 : a + n ≤ b + m) : fr h h' b m := fun x hx => q x (fun z => hx (by omega))
theorem fr.at {h h1 : fv_H} {a n x : Nat} (q : fr h h1 a n) (hx : x < a ∨ a + n ≤ x) : h1 x = h x := q x (by omega)
section FC
variable {K : fv_K} {Bs : Nat} {WA : List Cond} {X : fv_X} {M : fv_M} {mc ms nL : Nat} {Q : State → Prop} {pc n : Nat} {L L' : List (Option Value)} {st : List Value} {sz : Nat} {h : fv_H} {cells slots : Nat}
theorem fv_callV_r (C : fv_C K WA X M mc ms) {idx np : Nat} {M' : fv_M} {b : Nat} {As rest : List Value} {v0 : Value} (Lk : fv_ML K WA M.1.cls idx M' np) (hw1 : Cond.instanceMethod M'.1 ∈ WA) (hw2 : Cond.selects M'.1.cls M'.1 M'.1 ∈ WA) {ci : Nat} {fs : List Value} {r : u_T × Nat} (hb : h b = some (.inr (ci, fs))) (hc : K.2.1[ci]? = some (M'.1.cls, r)) (hM : fv_T X.2.1 K Bs WA M' (.ref b :: As) sz h 0 0 (fp_r v0 sz h)) (hd : decode M.2.1 pc = .ok (.invokevirtual idx, 3)) (hn : pc + 3 = n) (hm : nL = M.2.2.1) (hnp : As.length = np) (hst : st = (As.reverse ++ .ref b :: rest)) (hW : (rest.map fun v => v.category).sum ≤ 8) (hfr : M'.2.2.2.2.1 + 1 ≤ M.2.2.2.2.1) (hlo : 8 + (M'.2.2.1 + 11) + M'.2.2.2.2.2 ≤ M.2.2.2.2.2) (hcl : cells ≤ mc) (hsl : slots ≤ ms)
    (kk : fv_V K Bs X nL Q n L (v0 :: rest) sz h cells slots) : fv_V K Bs X nL Q pc L st sz h cells slots := by
  refine fv_callV C Lk hw1 hw2 hb hc hM hd hn hm hnp hst hW hfr hlo hcl hsl (fun v sz' h' hp => ?_)
  obtain ⟨rfl, rfl, rfl⟩ := hp
  exact kk
theorem fv_callV_i (C : fv_C K WA X M mc ms) {idx np : Nat} {M' : fv_M} {b : Nat} {As rest : List Value} {P : Int32 → fv_H → Prop} (Lk : fv_ML K WA M.1.cls idx M' np) (hw1 : Cond.instanceMethod M'.1 ∈ WA) (hw2 : Cond.selects M'.1.cls M'.1 M'.1 ∈ WA) {ci : Nat} {fs : List Value} {r : u_T × Nat} (hb : h b = some (.inr (ci, fs))) (hc : K.2.1[ci]? = some (M'.1.cls, r)) (hM : fv_T X.2.1 K Bs WA M' (.ref b :: As) sz h 0 0 (fp_i sz P)) (hd : decode M.2.1 pc = .ok (.invokevirtual idx, 3)) (hn : pc + 3 = n) (hm : nL = M.2.2.1) (hnp : As.length = np) (hst : st = (As.reverse ++ .ref b :: rest)) (hW : (rest.map fun v => v.category).sum ≤ 8) (hfr : M'.2.2.2.2.1 + 1 ≤ M.2.2.2.2.1) (hlo : 8 + (M'.2.2.1 + 11) + M'.2.2.2.2.2 ≤ M.2.2.2.2.2) (hcl : cells ≤ mc) (hsl : slots ≤ ms)
    (kk : ∀ (r0 : Int32) (h' : fv_H), P r0 h' → fv_V K Bs X nL Q n L (.int r0 :: rest) sz h' cells slots) : fv_V K Bs X nL Q pc L st sz h cells slots := by
  refine fv_callV C Lk hw1 hw2 hb hc hM hd hn hm hnp hst hW hfr hlo hcl hsl (fun v sz' h' hp => ?_)
  obtain ⟨r0, rfl, rfl, hp⟩ := hp
  exact kk r0 h' hp
theorem fv_callV_a (C : fv_C K WA X M mc ms) {idx np : Nat} {M' : fv_M} {b : Nat} {As rest : List Value} {P : Option Nat → fv_H → Prop} (Lk : fv_ML K WA M.1.cls idx M' np) (hw1 : Cond.instanceMethod M'.1 ∈ WA) (hw2 : Cond.selects M'.1.cls M'.1 M'.1 ∈ WA) {ci : Nat} {fs : List Value} {r : u_T × Nat} (hb : h b = some (.inr (ci, fs))) (hc : K.2.1[ci]? = some (M'.1.cls, r)) (hM : fv_T X.2.1 K Bs WA M' (.ref b :: As) sz h 0 0 (fp_a sz P)) (hd : decode M.2.1 pc = .ok (.invokevirtual idx, 3)) (hn : pc + 3 = n) (hm : nL = M.2.2.1) (hnp : As.length = np) (hst : st = (As.reverse ++ .ref b :: rest)) (hW : (rest.map fun v => v.category).sum ≤ 8) (hfr : M'.2.2.2.2.1 + 1 ≤ M.2.2.2.2.1) (hlo : 8 + (M'.2.2.1 + 11) + M'.2.2.2.2.2 ≤ M.2.2.2.2.2) (hcl : cells ≤ mc) (hsl : slots ≤ ms)
    (kk : ∀ (r0 : Option Nat) (h' : fv_H), P r0 h' → fv_V K Bs X nL Q n L (va_rf r0 :: rest) sz h' cells slots) : fv_V K Bs X nL Q pc L st sz h cells slots := by
  refine fv_callV C Lk hw1 hw2 hb hc hM hd hn hm hnp hst hW hfr hlo hcl hsl (fun v sz' h' hp => ?_)
  obtain ⟨r0, rfl, rfl, hp⟩ := hp
  exact kk r0 h' hp
theorem fv_callV_v (C : fv_C K WA X M mc ms) {idx np : Nat} {M' : fv_M} {b : Nat} {As rest : List Value} {P : fv_H → Prop} (Lk : fv_ML K WA M.1.cls idx M' np) (hw1 : Cond.instanceMethod M'.1 ∈ WA) (hw2 : Cond.selects M'.1.cls M'.1 M'.1 ∈ WA) {ci : Nat} {fs : List Value} {r : u_T × Nat} (hb : h b = some (.inr (ci, fs))) (hc : K.2.1[ci]? = some (M'.1.cls, r)) (hM : fv_T X.2.1 K Bs WA M' (.ref b :: As) sz h 0 0 (fp_v sz P)) (hd : decode M.2.1 pc = .ok (.invokevirtual idx, 3)) (hn : pc + 3 = n) (hm : nL = M.2.2.1) (hnp : As.length = np) (hst : st = (As.reverse ++ .ref b :: rest)) (hW : (rest.map fun v => v.category).sum ≤ 8) (hfr : M'.2.2.2.2.1 + 1 ≤ M.2.2.2.2.1) (hlo : 8 + (M'.2.2.1 + 11) + M'.2.2.2.2.2 ≤ M.2.2.2.2.2) (hcl : cells ≤ mc) (hsl : slots ≤ ms)
    (kk : ∀ h' : fv_H, P h' → fv_V K Bs X nL Q n L rest sz h' cells slots) : fv_V K Bs X nL Q pc L st sz h cells slots := by
  refine fv_callV C Lk hw1 hw2 hb hc hM hd hn hm hnp hst hW hfr hlo hcl hsl (fun v sz' h' hp => ?_)
  obtain ⟨rfl, rfl, hp⟩ := hp
  exact kk h' hp
theorem fv_callS_r (C : fv_C K WA X M mc ms) {idx np : Nat} {M' : fv_M}  {As rest : List Value} {v0 : Value} (Lk : fv_ML K WA M.1.cls idx M' np) (hw1 : Cond.static M'.1 ∈ WA) (hM : fv_T X.2.1 K Bs WA M' As sz h 0 0 (fp_r v0 sz h)) (hd : decode M.2.1 pc = .ok (.invokestatic idx, 3)) (hn : pc + 3 = n) (hm : nL = M.2.2.1) (hnp : As.length = np) (hst : st = (As.reverse ++ rest)) (hW : (rest.map fun v => v.category).sum ≤ 8) (hfr : M'.2.2.2.2.1 + 1 ≤ M.2.2.2.2.1) (hlo : 8 + (M'.2.2.1 + 11) + M'.2.2.2.2.2 ≤ M.2.2.2.2.2) (hcl : cells ≤ mc) (hsl : slots ≤ ms)
    (kk : fv_V K Bs X nL Q n L (v0 :: rest) sz h cells slots) : fv_V K Bs X nL Q pc L st sz h cells slots := by
  refine fv_callS C Lk hw1 hM hd hn hm hnp hst hW hfr hlo hcl hsl (fun v sz' h' hp => ?_)
  obtain ⟨rfl, rfl, rfl⟩ := hp
  exact kk
theorem fv_callS_i (C : fv_C K WA X M mc ms) {idx np : Nat} {M' : fv_M}  {As rest : List Value} {P : Int32 → fv_H → Prop} (Lk : fv_ML K WA M.1.cls idx M' np) (hw1 : Cond.static M'.1 ∈ WA) (hM : fv_T X.2.1 K Bs WA M' As sz h 0 0 (fp_i sz P)) (hd : decode M.2.1 pc = .ok (.invokestatic idx, 3)) (hn : pc + 3 = n) (hm : nL = M.2.2.1) (hnp : As.length = np) (hst : st = (As.reverse ++ rest)) (hW : (rest.map fun v => v.category).sum ≤ 8) (hfr : M'.2.2.2.2.1 + 1 ≤ M.2.2.2.2.1) (hlo : 8 + (M'.2.2.1 + 11) + M'.2.2.2.2.2 ≤ M.2.2.2.2.2) (hcl : cells ≤ mc) (hsl : slots ≤ ms)
    (kk : ∀ (r0 : Int32) (h' : fv_H), P r0 h' → fv_V K Bs X nL Q n L (.int r0 :: rest) sz h' cells slots) : fv_V K Bs X nL Q pc L st sz h cells slots := by
  refine fv_callS C Lk hw1 hM hd hn hm hnp hst hW hfr hlo hcl hsl (fun v sz' h' hp => ?_)
  obtain ⟨r0, rfl, rfl, hp⟩ := hp
  exact kk r0 h' hp
theorem fv_callS_a (C : fv_C K WA X M mc ms) {idx np : Nat} {M' : fv_M}  {As rest : List Value} {P : Option Nat → fv_H → Prop} (Lk : fv_ML K WA M.1.cls idx M' np) (hw1 : Cond.static M'.1 ∈ WA) (hM : fv_T X.2.1 K Bs WA M' As sz h 0 0 (fp_a sz P)) (hd : decode M.2.1 pc = .ok (.invokestatic idx, 3)) (hn : pc + 3 = n) (hm : nL = M.2.2.1) (hnp : As.length = np) (hst : st = (As.reverse ++ rest)) (hW : (rest.map fun v => v.category).sum ≤ 8) (hfr : M'.2.2.2.2.1 + 1 ≤ M.2.2.2.2.1) (hlo : 8 + (M'.2.2.1 + 11) + M'.2.2.2.2.2 ≤ M.2.2.2.2.2) (hcl : cells ≤ mc) (hsl : slots ≤ ms)
    (kk : ∀ (r0 : Option Nat) (h' : fv_H), P r0 h' → fv_V K Bs X nL Q n L (va_rf r0 :: rest) sz h' cells slots) : fv_V K Bs X nL Q pc L st sz h cells slots := by
  refine fv_callS C Lk hw1 hM hd hn hm hnp hst hW hfr hlo hcl hsl (fun v sz' h' hp => ?_)
  obtain ⟨r0, rfl, rfl, hp⟩ := hp
  exact kk r0 h' hp
theorem fv_callS_v (C : fv_C K WA X M mc ms) {idx np : Nat} {M' : fv_M}  {As rest : List Value} {P : fv_H → Prop} (Lk : fv_ML K WA M.1.cls idx M' np) (hw1 : Cond.static M'.1 ∈ WA) (hM : fv_T X.2.1 K Bs WA M' As sz h 0 0 (fp_v sz P)) (hd : decode M.2.1 pc = .ok (.invokestatic idx, 3)) (hn : pc + 3 = n) (hm : nL = M.2.2.1) (hnp : As.length = np) (hst : st = (As.reverse ++ rest)) (hW : (rest.map fun v => v.category).sum ≤ 8) (hfr : M'.2.2.2.2.1 + 1 ≤ M.2.2.2.2.1) (hlo : 8 + (M'.2.2.1 + 11) + M'.2.2.2.2.2 ≤ M.2.2.2.2.2) (hcl : cells ≤ mc) (hsl : slots ≤ ms)
    (kk : ∀ h' : fv_H, P h' → fv_V K Bs X nL Q n L rest sz h' cells slots) : fv_V K Bs X nL Q pc L st sz h cells slots := by
  refine fv_callS C Lk hw1 hM hd hn hm hnp hst hW hfr hlo hcl hsl (fun v sz' h' hp => ?_)
  obtain ⟨rfl, rfl, hp⟩ := hp
  exact kk h' hp
theorem fv_callI_v (C : fv_C K WA X M mc ms) {idx np : Nat} {M' : fv_M} {b : Nat} {As rest : List Value} {P : fv_H → Prop} (Lk : fv_ML K WA M.1.cls idx M' np) (hw1 : Cond.instanceMethod M'.1 ∈ WA) (hini : M'.1.name = "<init>") (hret : M'.2.2.2.1 = none) (hM : fv_T X.2.1 K Bs WA M' (.ref b :: As) sz h 0 0 (fp_v sz P)) (hd : decode M.2.1 pc = .ok (.invokespecial idx, 3)) (hn : pc + 3 = n) (hm : nL = M.2.2.1) (hnp : As.length = np) (hst : st = (As.reverse ++ .ref b :: rest)) (hW : (rest.map fun v => v.category).sum ≤ 8) (hfr : M'.2.2.2.2.1 + 1 ≤ M.2.2.2.2.1) (hlo : 8 + (M'.2.2.1 + 11) + M'.2.2.2.2.2 ≤ M.2.2.2.2.2) (hcl : cells ≤ mc) (hsl : slots ≤ ms)
    (kk : ∀ h' : fv_H, P h' → fv_V K Bs X nL Q n L rest sz h' cells slots) : fv_V K Bs X nL Q pc L st sz h cells slots := by
  refine fv_callI C Lk hw1 hini hret hM hd hn hm hnp hst hW hfr hlo hcl hsl (fun v sz' h' hp => ?_)
  obtain ⟨rfl, rfl, hp⟩ := hp
  exact kk h' hp
end FC
/-! a book's cells -/
def BK (dA : Nat → ClassId) (h : fv_H) (a : Nat) (ids pri siz : Nat → Int32) (buys tot : Nat) (hlt : Bool) (app : Nat) : Prop :=
  h a = some (.inr (1, [.ref (a + 1), .ref (a + 2), .ref (a + 3), .int (nI buys), .int (nI tot), .int (fv_b hlt), .int (nI app)])) ∧ h (a + 1) = some (.inl (dA 0, 24, .inl ids)) ∧ h (a + 2) = some (.inl (dA 0, 24, .inl pri)) ∧ h (a + 3) = some (.inl (dA 0, 24, .inl siz))
theorem BK.fr {dA : Nat → ClassId} {h h' : fv_H} {a : Nat} {ids pri siz : Nat → Int32} {buys tot app : Nat} {hlt : Bool} {b n : Nat} (q : BK dA h a ids pri siz buys tot hlt app) (hf : fr h h' b n) (hd : a + 4 ≤ b ∨ b + n ≤ a) : BK dA h' a ids pri siz buys tot hlt app :=
  ⟨(hf.at (by omega)).trans q.1, (hf.at (by omega)).trans q.2.1, (hf.at (by omega)).trans q.2.2.1, (hf.at (by omega)).trans q.2.2.2⟩
/-- an event's cell -/
def EV (h : fv_H) (a : Nat) (e : bo_E) : Prop := h a = some (.inr (2, [.int (nI e.1), .int (nI e.2.1), .int (nI e.2.2.1), .int e.2.2.2.1, .int (nI e.2.2.2.2.1), .int e.2.2.2.2.2.1, .int e.2.2.2.2.2.2]))
theorem EV.fr {h h' : fv_H} {a : Nat} {e : bo_E} {b n : Nat} (q : EV h a e) (hf : fr h h' b n) (hd : a < b ∨ b + n ≤ a) : EV h' a e := (hf.at hd).trans q
section BKR
variable {D : va_G} {dA : Nat → ClassId} {Bs : Nat} {X : fv_X} {M : fv_M} {mc ms nL : Nat} {Q : State → Prop} {pc n : Nat} {L L' : List (Option Value)} {st : List Value} {sz : Nat} {h : fv_H} {cells slots : Nat} {a : Nat} {ids pri siz : Nat → Int32} {buys tot app : Nat} {hlt : Bool}
theorem bk_pbuys (C : fv_C (fk D dA) WA X M mc ms) {idx : Nat} {v : Nat} (F : fv_FL (fk D dA) WA M.1.cls idx 1 3 .int false) (hd : decode M.2.1 pc = .ok (.putfield idx, 3)) (hn : pc + 3 = n) (hB : BK dA h a ids pri siz buys tot hlt app) (hBs : Bs ≤ a) (kk : ∀ h' : fv_H, BK dA h' a ids pri siz v tot hlt app → fr h h' a 4 → fv_V (fk D dA) Bs X nL Q n L st sz h' cells slots) : fv_V (fk D dA) Bs X nL Q pc L (.int (nI v) :: .ref a :: st) sz h cells slots := by
  refine fv_put C F (Or.inl rfl) hd hn hB.1 hBs rfl rfl (Nat.le_of_ble_eq_true rfl) ?_
  refine kk _ ⟨va_up_self _ _ _, ?_, ?_, ?_⟩ (fr_up (by omega) (by omega))
  · rw [va_up_ne _ _ (by omega)]; exact hB.2.1
  · rw [va_up_ne _ _ (by omega)]; exact hB.2.2.1
  · rw [va_up_ne _ _ (by omega)]; exact hB.2.2.2
theorem bk_ptot (C : fv_C (fk D dA) WA X M mc ms) {idx : Nat} {v : Nat} (F : fv_FL (fk D dA) WA M.1.cls idx 1 4 .int false) (hd : decode M.2.1 pc = .ok (.putfield idx, 3)) (hn : pc + 3 = n) (hB : BK dA h a ids pri siz buys tot hlt app) (hBs : Bs ≤ a) (kk : ∀ h' : fv_H, BK dA h' a ids pri siz buys v hlt app → fr h h' a 4 → fv_V (fk D dA) Bs X nL Q n L st sz h' cells slots) : fv_V (fk D dA) Bs X nL Q pc L (.int (nI v) :: .ref a :: st) sz h cells slots := by
  refine fv_put C F (Or.inl rfl) hd hn hB.1 hBs rfl rfl (Nat.le_of_ble_eq_true rfl) ?_
  refine kk _ ⟨va_up_self _ _ _, ?_, ?_, ?_⟩ (fr_up (by omega) (by omega))
  · rw [va_up_ne _ _ (by omega)]; exact hB.2.1
  · rw [va_up_ne _ _ (by omega)]; exact hB.2.2.1
  · rw [va_up_ne _ _ (by omega)]; exact hB.2.2.2
theorem bk_phlt (C : fv_C (fk D dA) WA X M mc ms) {idx : Nat} {v : Bool} (F : fv_FL (fk D dA) WA M.1.cls idx 1 5 .boolean false) (hd : decode M.2.1 pc = .ok (.putfield idx, 3)) (hn : pc + 3 = n) (hB : BK dA h a ids pri siz buys tot hlt app) (hBs : Bs ≤ a) (kk : ∀ h' : fv_H, BK dA h' a ids pri siz buys tot v app → fr h h' a 4 → fv_V (fk D dA) Bs X nL Q n L st sz h' cells slots) : fv_V (fk D dA) Bs X nL Q pc L (.int (fv_b v) :: .ref a :: st) sz h cells slots := by
  refine fv_put C F (Or.inl rfl) hd hn hB.1 hBs (fv_b_nar v) (fv_b_fit v) (Nat.le_of_ble_eq_true rfl) ?_
  refine kk _ ⟨va_up_self _ _ _, ?_, ?_, ?_⟩ (fr_up (by omega) (by omega))
  · rw [va_up_ne _ _ (by omega)]; exact hB.2.1
  · rw [va_up_ne _ _ (by omega)]; exact hB.2.2.1
  · rw [va_up_ne _ _ (by omega)]; exact hB.2.2.2
theorem bk_papp (C : fv_C (fk D dA) WA X M mc ms) {idx : Nat} {v : Nat} (F : fv_FL (fk D dA) WA M.1.cls idx 1 6 .int false) (hd : decode M.2.1 pc = .ok (.putfield idx, 3)) (hn : pc + 3 = n) (hB : BK dA h a ids pri siz buys tot hlt app) (hBs : Bs ≤ a) (kk : ∀ h' : fv_H, BK dA h' a ids pri siz buys tot hlt v → fr h h' a 4 → fv_V (fk D dA) Bs X nL Q n L st sz h' cells slots) : fv_V (fk D dA) Bs X nL Q pc L (.int (nI v) :: .ref a :: st) sz h cells slots := by
  refine fv_put C F (Or.inl rfl) hd hn hB.1 hBs rfl rfl (Nat.le_of_ble_eq_true rfl) ?_
  refine kk _ ⟨va_up_self _ _ _, ?_, ?_, ?_⟩ (fr_up (by omega) (by omega))
  · rw [va_up_ne _ _ (by omega)]; exact hB.2.1
  · rw [va_up_ne _ _ (by omega)]; exact hB.2.2.1
  · rw [va_up_ne _ _ (by omega)]; exact hB.2.2.2
theorem bk_sids (C : fv_C (fk D dA) WA X M mc ms) {j : Nat} {x : Int32} (hd : decode M.2.1 pc = .ok (.iastore, 1)) (hn : pc + 1 = n) (hB : BK dA h a ids pri siz buys tot hlt app) (hBs : Bs ≤ a) (hj : j < 24) (kk : ∀ h' : fv_H, BK dA h' a (upd ids j x) pri siz buys tot hlt app → fr h h' a 4 → fv_V (fk D dA) Bs X nL Q n L st sz h' cells slots) : fv_V (fk D dA) Bs X nL Q pc L (.int x :: .int (nI j) :: .ref (a + 1) :: st) sz h cells slots := by
  refine fv_iastN C (t0 := 0) rfl hd hn hB.2.1 (by omega) hj (by decide) ?_
  refine kk _ ⟨?_, ?_, ?_, ?_⟩ (fr_up (by omega) (by omega))
  · rw [va_up_ne _ _ (by omega)]; exact hB.1
  · exact va_up_self _ _ _
  · rw [va_up_ne _ _ (by omega)]; exact hB.2.2.1
  · rw [va_up_ne _ _ (by omega)]; exact hB.2.2.2
theorem bk_cids (C : fv_C (fk D dA) WA X M mc ms) {idx a0 n0 sp dp z : Nat} {g : Nat → Int32} (hw1 : Cond.methodLink M.1.cls idx arraycopyName ∈ WA) (hd : decode M.2.1 pc = .ok (.invokestatic idx, 3)) (hn : pc + 3 = n) (hm : nL = M.2.2.1) (ha0 : h a0 = some (.inl (dA 0, n0, .inl g))) (hB : BK dA h a ids pri siz buys tot hlt app) (hBs : Bs ≤ a) (h4 : sp + z ≤ n0) (h5 : dp + z ≤ 24) (h0 : n0 < 2 ^ 31) (hf : 1 ≤ M.2.2.2.2.1) (hlo : (st.map fun v => v.category).sum + (nativeFrameWords "java/lang/System" "arraycopy" 5 + 11) ≤ M.2.2.2.2.2) (kk : ∀ h' : fv_H, BK dA h' a (va_cpy g ids sp dp z) pri siz buys tot hlt app → fr h h' a 4 → fv_V (fk D dA) Bs X nL Q n L st sz h' cells slots) : fv_V (fk D dA) Bs X nL Q pc L (.int (nI z) :: .int (nI dp) :: .ref (a + 1) :: .int (nI sp) :: .ref a0 :: st) sz h cells slots := by
  refine fv_copyN C (t0 := 0) rfl hw1 n_an n_as n_ai hd hn hm ha0 hB.2.1 (by omega) h4 h5 h0 (by decide) hf hlo ?_
  refine kk _ ⟨?_, ?_, ?_, ?_⟩ (fr_up (by omega) (by omega))
  · rw [va_up_ne _ _ (by omega)]; exact hB.1
  · exact va_up_self _ _ _
  · rw [va_up_ne _ _ (by omega)]; exact hB.2.2.1
  · rw [va_up_ne _ _ (by omega)]; exact hB.2.2.2
theorem bk_spri (C : fv_C (fk D dA) WA X M mc ms) {j : Nat} {x : Int32} (hd : decode M.2.1 pc = .ok (.iastore, 1)) (hn : pc + 1 = n) (hB : BK dA h a ids pri siz buys tot hlt app) (hBs : Bs ≤ a) (hj : j < 24) (kk : ∀ h' : fv_H, BK dA h' a ids (upd pri j x) siz buys tot hlt app → fr h h' a 4 → fv_V (fk D dA) Bs X nL Q n L st sz h' cells slots) : fv_V (fk D dA) Bs X nL Q pc L (.int x :: .int (nI j) :: .ref (a + 2) :: st) sz h cells slots := by
  refine fv_iastN C (t0 := 0) rfl hd hn hB.2.2.1 (by omega) hj (by decide) ?_
  refine kk _ ⟨?_, ?_, ?_, ?_⟩ (fr_up (by omega) (by omega))
  · rw [va_up_ne _ _ (by omega)]; exact hB.1
  · rw [va_up_ne _ _ (by omega)]; exact hB.2.1
  · exact va_up_self _ _ _
  · rw [va_up_ne _ _ (by omega)]; exact hB.2.2.2
theorem bk_cpri (C : fv_C (fk D dA) WA X M mc ms) {idx a0 n0 sp dp z : Nat} {g : Nat → Int32} (hw1 : Cond.methodLink M.1.cls idx arraycopyName ∈ WA) (hd : decode M.2.1 pc = .ok (.invokestatic idx, 3)) (hn : pc + 3 = n) (hm : nL = M.2.2.1) (ha0 : h a0 = some (.inl (dA 0, n0, .inl g))) (hB : BK dA h a ids pri siz buys tot hlt app) (hBs : Bs ≤ a) (h4 : sp + z ≤ n0) (h5 : dp + z ≤ 24) (h0 : n0 < 2 ^ 31) (hf : 1 ≤ M.2.2.2.2.1) (hlo : (st.map fun v => v.category).sum + (nativeFrameWords "java/lang/System" "arraycopy" 5 + 11) ≤ M.2.2.2.2.2) (kk : ∀ h' : fv_H, BK dA h' a ids (va_cpy g pri sp dp z) siz buys tot hlt app → fr h h' a 4 → fv_V (fk D dA) Bs X nL Q n L st sz h' cells slots) : fv_V (fk D dA) Bs X nL Q pc L (.int (nI z) :: .int (nI dp) :: .ref (a + 2) :: .int (nI sp) :: .ref a0 :: st) sz h cells slots := by
  refine fv_copyN C (t0 := 0) rfl hw1 n_an n_as n_ai hd hn hm ha0 hB.2.2.1 (by omega) h4 h5 h0 (by decide) hf hlo ?_
  refine kk _ ⟨?_, ?_, ?_, ?_⟩ (fr_up (by omega) (by omega))
  · rw [va_up_ne _ _ (by omega)]; exact hB.1
  · rw [va_up_ne _ _ (by omega)]; exact hB.2.1
  · exact va_up_self _ _ _
  · rw [va_up_ne _ _ (by omega)]; exact hB.2.2.2
theorem bk_ssiz (C : fv_C (fk D dA) WA X M mc ms) {j : Nat} {x : Int32} (hd : decode M.2.1 pc = .ok (.iastore, 1)) (hn : pc + 1 = n) (hB : BK dA h a ids pri siz buys tot hlt app) (hBs : Bs ≤ a) (hj : j < 24) (kk : ∀ h' : fv_H, BK dA h' a ids pri (upd siz j x) buys tot hlt app → fr h h' a 4 → fv_V (fk D dA) Bs X nL Q n L st sz h' cells slots) : fv_V (fk D dA) Bs X nL Q pc L (.int x :: .int (nI j) :: .ref (a + 3) :: st) sz h cells slots := by
  refine fv_iastN C (t0 := 0) rfl hd hn hB.2.2.2 (by omega) hj (by decide) ?_
  refine kk _ ⟨?_, ?_, ?_, ?_⟩ (fr_up (by omega) (by omega))
  · rw [va_up_ne _ _ (by omega)]; exact hB.1
  · rw [va_up_ne _ _ (by omega)]; exact hB.2.1
  · rw [va_up_ne _ _ (by omega)]; exact hB.2.2.1
  · exact va_up_self _ _ _
theorem bk_csiz (C : fv_C (fk D dA) WA X M mc ms) {idx a0 n0 sp dp z : Nat} {g : Nat → Int32} (hw1 : Cond.methodLink M.1.cls idx arraycopyName ∈ WA) (hd : decode M.2.1 pc = .ok (.invokestatic idx, 3)) (hn : pc + 3 = n) (hm : nL = M.2.2.1) (ha0 : h a0 = some (.inl (dA 0, n0, .inl g))) (hB : BK dA h a ids pri siz buys tot hlt app) (hBs : Bs ≤ a) (h4 : sp + z ≤ n0) (h5 : dp + z ≤ 24) (h0 : n0 < 2 ^ 31) (hf : 1 ≤ M.2.2.2.2.1) (hlo : (st.map fun v => v.category).sum + (nativeFrameWords "java/lang/System" "arraycopy" 5 + 11) ≤ M.2.2.2.2.2) (kk : ∀ h' : fv_H, BK dA h' a ids pri (va_cpy g siz sp dp z) buys tot hlt app → fr h h' a 4 → fv_V (fk D dA) Bs X nL Q n L st sz h' cells slots) : fv_V (fk D dA) Bs X nL Q pc L (.int (nI z) :: .int (nI dp) :: .ref (a + 3) :: .int (nI sp) :: .ref a0 :: st) sz h cells slots := by
  refine fv_copyN C (t0 := 0) rfl hw1 n_an n_as n_ai hd hn hm ha0 hB.2.2.2 (by omega) h4 h5 h0 (by decide) hf hlo ?_
  refine kk _ ⟨?_, ?_, ?_, ?_⟩ (fr_up (by omega) (by omega))
  · rw [va_up_ne _ _ (by omega)]; exact hB.1
  · rw [va_up_ne _ _ (by omega)]; exact hB.2.1
  · rw [va_up_ne _ _ (by omega)]; exact hB.2.2.1
  · exact va_up_self _ _ _
end BKR
end
section
/-! Book: what reads it -/
section BK1
variable {l : Launch} {D : va_G} {dA : Nat → ClassId} {Bs sz : Nat} {h : fv_H} {a : Nat} {ids pri siz : Nat → Int32} {buys tot app : Nat} {hlt : Bool}
theorem ct_B_haltValue (hB : BK dA h a ids pri siz buys tot hlt app) : fv_T l (fk D dA) Bs WA m_B_haltValue [.ref a] sz h 0 0 (fp_r (.int (fv_b hlt)) sz h) := by
  refine fv_of (L := [_]) (by decide +kernel) rfl (Nat.le_of_ble_eq_true rfl) rfl ?_
  intro X hX C
  subst hX
  refine fv_aload_n C d_B_haltValue_0 (n := 1) rfl (i := 0) rfl rfl ?_
  refine fv_get C (fl_B_28 D dA) d_B_haltValue_1 (n := 4) rfl hB.1 rfl ?_
  refine fv_ifB_eq C d_B_haltValue_4 (tgt := 11) rfl (n := 7) rfl (fun hc4 => ?_) (fun hc4 => ?_)
  · refine fv_iconst C d_B_haltValue_11 (n := 12) rfl kI_0 ?_
    refine fv_iret C rfl d_B_haltValue_12 (Nat.le_refl _) (Nat.le_refl _) ?_
    subst hc4; exact ⟨rfl, rfl, rfl⟩
  · refine fv_iconst C d_B_haltValue_7 (n := 8) rfl kI_1 ?_
    refine fv_goto C d_B_haltValue_8 (tgt := 12) rfl ?_
    refine fv_iret C rfl d_B_haltValue_12 (Nat.le_refl _) (Nat.le_refl _) ?_
    subst hc4; exact ⟨rfl, rfl, rfl⟩
theorem ct_B_startOf {s : Nat} (hs : s < 2) (hB : BK dA h a ids pri siz buys tot hlt app) : fv_T l (fk D dA) Bs WA m_B_startOf [.ref a, .int (nI s)] sz h 0 0 (fp_r (.int (nI (if s = 0 then 0 else buys))) sz h) := by
  refine fv_of (L := [_, _]) (by decide +kernel) rfl (Nat.le_of_ble_eq_true rfl) rfl ?_
  intro X hX C
  subst hX
  refine fv_iload_n C d_B_startOf_0 (n := 1) rfl (i := 1) rfl rfl ?_
  refine fv_ifN_ne C (by omega) d_B_startOf_1 (tgt := 8) rfl (n := 4) rfl (fun hc1 => ?_) (fun hc1 => ?_)
  · refine fv_aload_n C d_B_startOf_8 (n := 9) rfl (i := 0) rfl rfl ?_
    refine fv_get C (fl_B_21 D dA) d_B_startOf_9 (n := 12) rfl hB.1 rfl ?_
    refine fv_iret C rfl d_B_startOf_12 (Nat.le_refl _) (Nat.le_refl _) ?_
    simp only [hc1, if_true, if_false]; exact ⟨rfl, rfl, rfl⟩
  · refine fv_iconst C d_B_startOf_4 (n := 5) rfl kI_0 ?_
    refine fv_goto C d_B_startOf_5 (tgt := 12) rfl ?_
    refine fv_iret C rfl d_B_startOf_12 (Nat.le_refl _) (Nat.le_refl _) ?_
    simp only [hc1, if_true, if_false]; exact ⟨rfl, rfl, rfl⟩
theorem ct_B_endOf {s : Nat} (hs : s < 2) (hB : BK dA h a ids pri siz buys tot hlt app) : fv_T l (fk D dA) Bs WA m_B_endOf [.ref a, .int (nI s)] sz h 0 0 (fp_r (.int (nI (if s = 0 then buys else tot))) sz h) := by
  refine fv_of (L := [_, _]) (by decide +kernel) rfl (Nat.le_of_ble_eq_true rfl) rfl ?_
  intro X hX C
  subst hX
  refine fv_iload_n C d_B_endOf_0 (n := 1) rfl (i := 1) rfl rfl ?_
  refine fv_ifN_ne C (by omega) d_B_endOf_1 (tgt := 11) rfl (n := 4) rfl (fun hc1 => ?_) (fun hc1 => ?_)
  · refine fv_aload_n C d_B_endOf_11 (n := 12) rfl (i := 0) rfl rfl ?_
    refine fv_get C (fl_B_25 D dA) d_B_endOf_12 (n := 15) rfl hB.1 rfl ?_
    refine fv_iret C rfl d_B_endOf_15 (Nat.le_refl _) (Nat.le_refl _) ?_
    simp only [hc1, if_true, if_false]; exact ⟨rfl, rfl, rfl⟩
  · refine fv_aload_n C d_B_endOf_4 (n := 5) rfl (i := 0) rfl rfl ?_
    refine fv_get C (fl_B_21 D dA) d_B_endOf_5 (n := 8) rfl hB.1 rfl ?_
    refine fv_goto C d_B_endOf_8 (tgt := 15) rfl ?_
    refine fv_iret C rfl d_B_endOf_15 (Nat.le_refl _) (Nat.le_refl _) ?_
    simp only [hc1, if_true, if_false]; exact ⟨rfl, rfl, rfl⟩
/-- the place of the first of n ids from j on that is x -/
def bk_pl (ids : Nat → Int32) (x : Int32) : Nat → Nat → Int32
  | 0, _ => -1
  | n + 1, j => if ids j = x then nI j else bk_pl ids x n (j + 1)
theorem ct_B_placeOf {x : Int32} (ht : tot ≤ 24) (hB : BK dA h a ids pri siz buys tot hlt app) : fv_T l (fk D dA) Bs WA m_B_placeOf [.ref a, .int x] sz h 0 0 (fp_r (.int (bk_pl ids x tot 0)) sz h) := by
  refine fv_of (L := [_, _, _]) (by decide +kernel) rfl (Nat.le_of_ble_eq_true rfl) rfl ?_
  intro X hX C
  subst hX
  have loop : ∀ (n j : Nat), j + n = tot → fv_V (fk D dA) Bs X 3 (fv_MQ (fk D dA) Bs X (fp_r (.int (bk_pl ids x n j)) sz h) 0 0) 2 [some (.ref a), some (.int x), some (.int (nI j))] [] sz h 0 0 := by
    intro n
    induction n with
    | zero =>
      intro j hj
      refine fv_iload_n C d_B_placeOf_2 (n := 3) rfl (i := 2) rfl rfl ?_
      refine fv_aload_n C d_B_placeOf_3 (n := 4) rfl (i := 0) rfl rfl ?_
      refine fv_get C (fl_B_25 D dA) d_B_placeOf_4 (n := 7) rfl hB.1 rfl ?_
      refine fv_icmpN_ge C (by omega) (by omega) d_B_placeOf_7 (tgt := 28) rfl (n := 10) rfl (fun hc7 => ?_) (fun hc7 => ?_)
      · refine fv_iconst C d_B_placeOf_28 (n := 29) rfl kI_m1 ?_
        refine fv_iret C rfl d_B_placeOf_29 (Nat.le_refl _) (Nat.le_refl _) ?_
        exact ⟨rfl, rfl, rfl⟩
      · exact absurd hc7 (by omega)
    | succ n ih =>
      intro j hj
      unfold bk_pl
      refine fv_iload_n C d_B_placeOf_2 (n := 3) rfl (i := 2) rfl rfl ?_
      refine fv_aload_n C d_B_placeOf_3 (n := 4) rfl (i := 0) rfl rfl ?_
      refine fv_get C (fl_B_25 D dA) d_B_placeOf_4 (n := 7) rfl hB.1 rfl ?_
      refine fv_icmpN_ge C (by omega) (by omega) d_B_placeOf_7 (tgt := 28) rfl (n := 10) rfl (fun hc7 => ?_) (fun hc7 => ?_)
      · exact absurd hc7 (by omega)
      · refine fv_aload_n C d_B_placeOf_10 (n := 11) rfl (i := 0) rfl rfl ?_
        refine fv_get C (fl_B_9 D dA) d_B_placeOf_11 (n := 14) rfl hB.1 rfl ?_
        refine fv_iload_n C d_B_placeOf_14 (n := 15) rfl (i := 2) rfl rfl ?_
        refine fv_ialdN C (t0 := 0) rfl d_B_placeOf_15 (n := 16) rfl hB.2.1 (by omega) (by decide) ?_
        refine fv_iload_n C d_B_placeOf_16 (n := 17) rfl (i := 1) rfl rfl ?_
        refine fv_icmp_ne C d_B_placeOf_17 (tgt := 22) rfl (n := 20) rfl (fun hc17 => ?_) (fun hc17 => ?_)
        · refine fv_iincN C d_B_placeOf_22 (n := 25) rfl rfl (by decide) (L' := [_, _, _]) rfl ?_
          refine fv_goto C d_B_placeOf_25 (tgt := 2) rfl ?_
          rw [if_neg hc17]
          exact ih (j + 1) (by omega)
        · refine fv_iload_n C d_B_placeOf_20 (n := 21) rfl (i := 2) rfl rfl ?_
          refine fv_iret C rfl d_B_placeOf_21 (Nat.le_refl _) (Nat.le_refl _) ?_
          rw [if_pos hc17]; exact ⟨rfl, rfl, rfl⟩
  refine fv_iconst C d_B_placeOf_0 (n := 1) rfl kI_0 ?_
  refine fv_istore_n C d_B_placeOf_1 (n := 2) rfl (i := 2) rfl (by decide) (L' := [_, _, _]) rfl ?_
  exact loop tot 0 (by omega)
end BK1
end
section
/-! a book's cells hold a book -/
def BL (dA : Nat → ClassId) (h : fv_H) (a : Nat) (b : bo_B) (n : Nat) : Prop := ∃ ids pri siz : Nat → Int32, BK dA h a ids pri siz (bo_srt 0 b.1).length b.1.length b.2 n ∧ bo_AR ids pri siz (bo_arr b.1) ∧ bo_wf b.1
theorem BL.fr {dA : Nat → ClassId} {h h' : fv_H} {a : Nat} {b : bo_B} {n c k : Nat} (q : BL dA h a b n) (hf : fr h h' c k) (hd : a + 4 ≤ c ∨ c + k ≤ a) : BL dA h' a b n := by
  obtain ⟨ids, pri, siz, hB, hA, hw⟩ := q
  exact ⟨ids, pri, siz, hB.fr hf hd, hA, hw⟩
theorem BL.wf {dA : Nat → ClassId} {h : fv_H} {a : Nat} {b : bo_B} {n : Nat} (q : BL dA h a b n) : bo_wf b.1 := by
  obtain ⟨ids, pri, siz, hB, hA, hw⟩ := q
  exact hw
theorem bk_pl_aux {ids pri siz : Nat → Int32} {arr : List bo_O} {x : Int32} (hA : bo_AR ids pri siz arr) : ∀ (n j : Nat), j + n = arr.length → (bo_fi (arr.drop j) x = none → bk_pl ids x n j = -1) ∧ ∀ o, bo_fi (arr.drop j) x = some o → ∃ k, arr[k]? = some o ∧ bk_pl ids x n j = nI k
  | 0, j, hj => by
    have e : arr.drop j = [] := List.drop_eq_nil_of_le (by omega)
    rw [e]
    exact ⟨fun _ => rfl, fun o ho => by simp [bo_fi] at ho⟩
  | n + 1, j, hj => by
    have hl : j < arr.length := by omega
    have hg := List.getElem?_eq_getElem hl
    obtain ⟨h1, -, -⟩ := hA j _ hg
    obtain ⟨i1, i2⟩ := bk_pl_aux (x := x) hA n (j + 1) (by omega)
    rw [List.drop_eq_getElem_cons hl]
    unfold bk_pl
    unfold bo_fi
    rw [List.find?_cons]
    by_cases hx : arr[j].1 = x
    · rw [if_pos (h1.trans hx)]
      simp only [hx, decide_true]
      exact ⟨fun q => (by cases q), fun o ho => ⟨j, (by rw [hg]; exact ho), rfl⟩⟩
    · rw [if_neg (by rw [h1]; exact hx)]
      simp only [hx, decide_false]
      exact ⟨i1, i2⟩
theorem bk_pl_none {ids pri siz : Nat → Int32} {l : List bo_O} {x : Int32} (hA : bo_AR ids pri siz (bo_arr l)) (hw : bo_wf l) (hf : bo_fi l x = none) : bk_pl ids x l.length 0 = -1 := by
  have h := (bk_pl_aux (x := x) hA l.length 0 (by rw [bo_arr_len hw.2.1]; omega)).1
  rw [List.drop_zero, bo_arr_fi hw] at h
  exact h hf
theorem bk_pl_some {ids pri siz : Nat → Int32} {l : List bo_O} {x : Int32} {o : bo_O} (hA : bo_AR ids pri siz (bo_arr l)) (hw : bo_wf l) (hf : bo_fi l x = some o) : ∃ k, k < l.length ∧ (bo_arr l)[k]? = some o ∧ bk_pl ids x l.length 0 = nI k := by
  have h := (bk_pl_aux (x := x) hA l.length 0 (by rw [bo_arr_len hw.2.1]; omega)).2
  rw [List.drop_zero, bo_arr_fi hw] at h
  obtain ⟨k, h1, h2⟩ := h o hf
  refine ⟨k, ?_, h1, h2⟩
  have := (List.getElem?_eq_some_iff.mp h1).1
  rw [bo_arr_len hw.2.1] at this
  exact this
theorem nI_nm1 {k : Nat} (h : k < 2 ^ 31) : ¬ nI k = -1 := by
  intro q
  have h1 := nI_toInt h
  rw [q] at h1
  have h2 : (-1 : Int32).toInt = -1 := by decide +kernel
  omega
theorem bo_arr_lo {l : List bo_O} {j : Nat} (hj : j < (bo_srt 0 l).length) : (bo_arr l)[j]? = (bo_srt 0 l)[j]? := by
  rw [bo_arr, List.getElem?_append_left hj]
theorem bo_arr_hi {l : List bo_O} {j : Nat} : (bo_arr l)[(bo_srt 0 l).length + j]? = (bo_srt 1 l)[j]? := by
  rw [bo_arr, List.getElem?_append_right (by omega), Nat.add_sub_cancel_left]
theorem bo_len_sum {l : List bo_O} (h : bo_two l) : (bo_srt 0 l).length + (bo_srt 1 l).length = l.length := by
  have := bo_arr_len h
  rw [bo_arr, List.length_append] at this
  exact this
/-- the start of a side in the arrays -/
def bo_st0 (l : List bo_O) (s : Nat) : Nat := if s = 0 then 0 else (bo_srt 0 l).length
def bo_en0 (l : List bo_O) (s : Nat) : Nat := if s = 0 then (bo_srt 0 l).length else l.length
theorem bo_en_st {l : List bo_O} (h : bo_two l) {s : Nat} (hs : s < 2) : bo_en0 l s = bo_st0 l s + (bo_srt s l).length := by
  have := bo_len_sum h
  unfold bo_en0 bo_st0
  rcases (show s = 0 ∨ s = 1 by omega) with rfl | rfl
  · simp
  · simp
    omega
theorem bo_en_le {l : List bo_O} (h : bo_two l) {s : Nat} (hs : s < 2) : bo_en0 l s ≤ l.length := by
  have := bo_len_sum h
  unfold bo_en0
  split <;> omega
theorem bo_arr_side {l : List bo_O} {s j : Nat} (hs : s < 2) (hj : j < (bo_srt s l).length) : (bo_arr l)[bo_st0 l s + j]? = (bo_srt s l)[j]? := by
  unfold bo_st0
  rcases (show s = 0 ∨ s = 1 by omega) with rfl | rfl
  · simp only [if_true, Nat.zero_add]
    exact bo_arr_lo hj
  · simp only [Nat.one_ne_zero, if_false]
    exact bo_arr_hi
theorem cur_gt {d lv : Nat} (hd : d < 2 ^ 30) (hl : lv < 2 ^ 31) : nI lv < nI d + (-1) ↔ lv + 1 < d := by
  have e : (nI d + (-1)).toInt = (d : Int) - 1 := by
    have h1 := nI_toInt (n := d) (by omega)
    have h2 : (-1 : Int32).toInt = -1 := by decide +kernel
    rw [Int32.toInt_add, h1, h2]
    apply Int.bmod_eq_of_le <;> omega
  rw [Int32.lt_iff_toInt_lt, e, nI_toInt hl]
  omega
theorem cur_eq {d lv : Nat} (hd : d < 2 ^ 30) (hl : lv < 2 ^ 31) : nI d + (-1) = nI lv ↔ d = lv + 1 := by
  have e : (nI d + (-1)).toInt = (d : Int) - 1 := by
    have h1 := nI_toInt (n := d) (by omega)
    have h2 : (-1 : Int32).toInt = -1 := by decide +kernel
    rw [Int32.toInt_add, h1, h2]
    apply Int.bmod_eq_of_le <;> omega
  rw [← Int32.toInt_inj, e, nI_toInt hl]
  omega
theorem cur_inc (d : Nat) : nI d + (-1) + Int32.ofInt 1 = nI (d + 1) + (-1) := by
  rw [kI_1, Int32.add_assoc, Int32.add_comm (-1), ← Int32.add_assoc, nI_add]
theorem bo_take_succ {l : List bo_O} {t : Nat} {o : bo_O} (h : l[t]? = some o) : l.take (t + 1) = l.take t ++ [o] := by
  rw [List.take_succ, h]
  rfl
theorem bo_S_take {s : Nat} {l : List bo_O} (t : Nat) (h : bo_S s l) : bo_S s (l.take t) := List.Pairwise.sublist (List.take_sublist t l) h
end
section
/-! Book: answers out of the lists -/
section BK2
variable {l : Launch} {D : va_G} {dA : Nat → ClassId} {Bs sz : Nat} {h : fv_H} {a : Nat} {b : bo_B} {nn : Nat}
theorem ct_B_allows {sort : Nat} {x v : Int32} (hs : sort ≤ 5) (hv : sort = 4 → v = 0 ∨ v = 1) (hL : BL dA h a b nn) : fv_T l (fk D dA) Bs WA m_B_allows [.ref a, .int (nI sort), .int x, .int v] sz h 0 0 (fp_r (.int (fv_b (bo_ok b sort x v))) sz h) := by
  obtain ⟨ids, pri, siz, hB, hA, hw⟩ := hL
  have h24 := hw.2.2.2
  refine fv_of (L := [_, _, _, _, _]) (by decide +kernel) rfl (Nat.le_of_ble_eq_true rfl) rfl ?_
  intro X hX C
  subst hX
  refine fv_aload_n C d_B_allows_0 (n := 1) rfl (i := 0) rfl rfl ?_
  refine fv_iload_n C d_B_allows_1 (n := 2) rfl (i := 2) rfl rfl ?_
  refine fv_callV_r C (ml_B_35 D dA) im_B_placeOf se_B_placeOf hB.1 rfl (ct_B_placeOf h24 hB) d_B_allows_2 (n := 5) rfl rfl rfl rfl (Nat.le_of_ble_eq_true rfl) (Nat.le_of_ble_eq_true rfl) (Nat.le_of_ble_eq_true rfl) (Nat.le_refl _) (Nat.le_refl _) ?_
  refine fv_istore C d_B_allows_5 (n := 7) rfl (by decide) (L' := [_, _, _, _, _]) rfl ?_
  have hcase : sort = 0 ∨ sort = 1 ∨ sort = 2 ∨ sort = 3 ∨ sort = 4 ∨ sort = 5 := by omega
  rcases hcase with rfl | rfl | rfl | rfl | rfl | rfl
  · refine fv_iload_n C d_B_allows_7 (n := 8) rfl (i := 1) rfl rfl ?_
    refine fv_tableIn C d_B_allows_8 (by decide +kernel) (by decide +kernel) (off := 36) (by decide +kernel) (tgt := 44) rfl ?_
    cases hf : bo_fi b.1 x with
    | none =>
      rw [bk_pl_none hA hw hf]
      refine fv_iload C d_B_allows_44 (n := 46) rfl rfl ?_
      refine fv_iconst C d_B_allows_46 (n := 47) rfl kI_m1 ?_
      refine fv_icmp_ne C d_B_allows_47 (tgt := 63) rfl (n := 50) rfl (fun hc47 => ?_) (fun hc47 => ?_)
      · exact absurd rfl hc47
      · refine fv_aload_n C d_B_allows_50 (n := 51) rfl (i := 0) rfl rfl ?_
        refine fv_get C (fl_B_25 D dA) d_B_allows_51 (n := 54) rfl hB.1 rfl ?_
        refine fv_bipush C d_B_allows_54 (n := 56) rfl kB_24 ?_
        refine fv_icmpN_ge C (by omega) (by omega) d_B_allows_56 (tgt := 63) rfl (n := 59) rfl (fun hc56 => ?_) (fun hc56 => ?_)
        · refine fv_iconst C d_B_allows_63 (n := 64) rfl kI_0 ?_
          refine fv_zret C rfl d_B_allows_64 rfl (Nat.le_refl _) (Nat.le_refl _) ?_
          refine ⟨?_, rfl, rfl⟩
          simp [bo_ok, hf, hc56, nI, fv_b, Nat.not_lt.mpr, Nat.not_lt]; first | done | omega | rfl | decide
        · refine fv_iconst C d_B_allows_59 (n := 60) rfl kI_1 ?_
          refine fv_goto C d_B_allows_60 (tgt := 64) rfl ?_
          refine fv_zret C rfl d_B_allows_64 rfl (Nat.le_refl _) (Nat.le_refl _) ?_
          refine ⟨?_, rfl, rfl⟩
          simp [bo_ok, hf, hc56, nI, fv_b, Nat.not_lt.mpr, Nat.not_lt]; first | done | omega | rfl | decide
    | some o =>
      obtain ⟨k, hk, ho, e⟩ := bk_pl_some hA hw hf
      have hkm := nI_nm1 (k := k) (by omega)
      obtain ⟨-, -, hz⟩ := hA k o ho
      rw [e]
      refine fv_iload C d_B_allows_44 (n := 46) rfl rfl ?_
      refine fv_iconst C d_B_allows_46 (n := 47) rfl kI_m1 ?_
      refine fv_icmp_ne C d_B_allows_47 (tgt := 63) rfl (n := 50) rfl (fun hc47 => ?_) (fun hc47 => ?_)
      · refine fv_iconst C d_B_allows_63 (n := 64) rfl kI_0 ?_
        refine fv_zret C rfl d_B_allows_64 rfl (Nat.le_refl _) (Nat.le_refl _) ?_
        refine ⟨?_, rfl, rfl⟩
        simp [bo_ok, hf]; rfl
      · exact absurd hc47 hkm
  · refine fv_iload_n C d_B_allows_7 (n := 8) rfl (i := 1) rfl rfl ?_
    refine fv_tableIn C d_B_allows_8 (by decide +kernel) (by decide +kernel) (off := 57) (by decide +kernel) (tgt := 65) rfl ?_
    cases hf : bo_fi b.1 x with
    | none =>
      rw [bk_pl_none hA hw hf]
      refine fv_iload C d_B_allows_65 (n := 67) rfl rfl ?_
      refine fv_iconst C d_B_allows_67 (n := 68) rfl kI_m1 ?_
      refine fv_icmp_eq C d_B_allows_68 (tgt := 86) rfl (n := 71) rfl (fun hc68 => ?_) (fun hc68 => ?_)
      · refine fv_iconst C d_B_allows_86 (n := 87) rfl kI_0 ?_
        refine fv_zret C rfl d_B_allows_87 rfl (Nat.le_refl _) (Nat.le_refl _) ?_
        refine ⟨?_, rfl, rfl⟩
        simp [bo_ok, hf]; rfl
      · exact absurd rfl hc68
    | some o =>
      obtain ⟨k, hk, ho, e⟩ := bk_pl_some hA hw hf
      have hkm := nI_nm1 (k := k) (by omega)
      obtain ⟨-, -, hz⟩ := hA k o ho
      rw [e]
      refine fv_iload C d_B_allows_65 (n := 67) rfl rfl ?_
      refine fv_iconst C d_B_allows_67 (n := 68) rfl kI_m1 ?_
      refine fv_icmp_eq C d_B_allows_68 (tgt := 86) rfl (n := 71) rfl (fun hc68 => ?_) (fun hc68 => ?_)
      · exact absurd hc68 hkm
      · refine fv_iload_n C d_B_allows_71 (n := 72) rfl (i := 3) rfl rfl ?_
        refine fv_aload_n C d_B_allows_72 (n := 73) rfl (i := 0) rfl rfl ?_
        refine fv_get C (fl_B_18 D dA) d_B_allows_73 (n := 76) rfl hB.1 rfl ?_
        refine fv_iload C d_B_allows_76 (n := 78) rfl rfl ?_
        refine fv_ialdN C (t0 := 0) rfl d_B_allows_78 (n := 79) rfl hB.2.2.2 (by omega) (by decide) ?_
        refine fv_icmp_ge C d_B_allows_79 (tgt := 86) rfl (n := 82) rfl (fun hc79 => ?_) (fun hc79 => ?_)
        · refine fv_iconst C d_B_allows_86 (n := 87) rfl kI_0 ?_
          refine fv_zret C rfl d_B_allows_87 rfl (Nat.le_refl _) (Nat.le_refl _) ?_
          refine ⟨?_, rfl, rfl⟩
          rw [hz] at hc79
          simp only [bo_ok, hf]
          first | (rw [show decide (v < o.2.2.2) = true from decide_eq_true (Int32.not_le.mp hc79)]; rfl) | (rw [show decide (v < o.2.2.2) = false from decide_eq_false (Int32.not_lt.mpr hc79)]; rfl)
        · refine fv_iconst C d_B_allows_82 (n := 83) rfl kI_1 ?_
          refine fv_goto C d_B_allows_83 (tgt := 87) rfl ?_
          refine fv_zret C rfl d_B_allows_87 rfl (Nat.le_refl _) (Nat.le_refl _) ?_
          refine ⟨?_, rfl, rfl⟩
          rw [hz] at hc79
          simp only [bo_ok, hf]
          first | (rw [show decide (v < o.2.2.2) = true from decide_eq_true (Int32.not_le.mp hc79)]; rfl) | (rw [show decide (v < o.2.2.2) = false from decide_eq_false (Int32.not_lt.mpr hc79)]; rfl)
  · refine fv_iload_n C d_B_allows_7 (n := 8) rfl (i := 1) rfl rfl ?_
    refine fv_tableIn C d_B_allows_8 (by decide +kernel) (by decide +kernel) (off := 80) (by decide +kernel) (tgt := 88) rfl ?_
    cases hf : bo_fi b.1 x with
    | none =>
      rw [bk_pl_none hA hw hf]
      refine fv_iload C d_B_allows_88 (n := 90) rfl rfl ?_
      refine fv_iconst C d_B_allows_90 (n := 91) rfl kI_m1 ?_
      refine fv_icmp_eq C d_B_allows_91 (tgt := 116) rfl (n := 94) rfl (fun hc91 => ?_) (fun hc91 => ?_)
      · refine fv_iconst C d_B_allows_116 (n := 117) rfl kI_0 ?_
        refine fv_zret C rfl d_B_allows_117 rfl (Nat.le_refl _) (Nat.le_refl _) ?_
        refine ⟨?_, rfl, rfl⟩
        simp [bo_ok, hf]; rfl
      · exact absurd rfl hc91
    | some o =>
      obtain ⟨k, hk, ho, e⟩ := bk_pl_some hA hw hf
      have hkm := nI_nm1 (k := k) (by omega)
      obtain ⟨-, -, hz⟩ := hA k o ho
      rw [e]
      refine fv_iload C d_B_allows_88 (n := 90) rfl rfl ?_
      refine fv_iconst C d_B_allows_90 (n := 91) rfl kI_m1 ?_
      refine fv_icmp_eq C d_B_allows_91 (tgt := 116) rfl (n := 94) rfl (fun hc91 => ?_) (fun hc91 => ?_)
      · exact absurd hc91 hkm
      · refine fv_aload_n C d_B_allows_94 (n := 95) rfl (i := 0) rfl rfl ?_
        refine fv_get C (fl_B_28 D dA) d_B_allows_95 (n := 98) rfl hB.1 rfl ?_
        refine fv_ifB_ne C d_B_allows_98 (tgt := 116) rfl (n := 101) rfl (fun hc98 => ?_) (fun hc98 => ?_)
        · refine fv_iconst C d_B_allows_116 (n := 117) rfl kI_0 ?_
          refine fv_zret C rfl d_B_allows_117 rfl (Nat.le_refl _) (Nat.le_refl _) ?_
          refine ⟨?_, rfl, rfl⟩
          simp only [bo_ok, hf, hc98]
          first | rfl | (rw [hz] at hc109; first | (rw [show decide (v ≤ o.2.2.2) = true from decide_eq_true (Int32.not_lt.mp hc109)]; rfl) | (rw [show decide (v ≤ o.2.2.2) = false from decide_eq_false (Int32.not_le.mpr hc109)]; rfl))
        · refine fv_iload_n C d_B_allows_101 (n := 102) rfl (i := 3) rfl rfl ?_
          refine fv_aload_n C d_B_allows_102 (n := 103) rfl (i := 0) rfl rfl ?_
          refine fv_get C (fl_B_18 D dA) d_B_allows_103 (n := 106) rfl hB.1 rfl ?_
          refine fv_iload C d_B_allows_106 (n := 108) rfl rfl ?_
          refine fv_ialdN C (t0 := 0) rfl d_B_allows_108 (n := 109) rfl hB.2.2.2 (by omega) (by decide) ?_
          refine fv_icmp_gt C d_B_allows_109 (tgt := 116) rfl (n := 112) rfl (fun hc109 => ?_) (fun hc109 => ?_)
          · refine fv_iconst C d_B_allows_116 (n := 117) rfl kI_0 ?_
            refine fv_zret C rfl d_B_allows_117 rfl (Nat.le_refl _) (Nat.le_refl _) ?_
            refine ⟨?_, rfl, rfl⟩
            simp only [bo_ok, hf, hc98]
            first | rfl | (rw [hz] at hc109; first | (rw [show decide (v ≤ o.2.2.2) = true from decide_eq_true (Int32.not_lt.mp hc109)]; rfl) | (rw [show decide (v ≤ o.2.2.2) = false from decide_eq_false (Int32.not_le.mpr hc109)]; rfl))
          · refine fv_iconst C d_B_allows_112 (n := 113) rfl kI_1 ?_
            refine fv_goto C d_B_allows_113 (tgt := 117) rfl ?_
            refine fv_zret C rfl d_B_allows_117 rfl (Nat.le_refl _) (Nat.le_refl _) ?_
            refine ⟨?_, rfl, rfl⟩
            simp only [bo_ok, hf, hc98]
            first | rfl | (rw [hz] at hc109; first | (rw [show decide (v ≤ o.2.2.2) = true from decide_eq_true (Int32.not_lt.mp hc109)]; rfl) | (rw [show decide (v ≤ o.2.2.2) = false from decide_eq_false (Int32.not_le.mpr hc109)]; rfl))
  · refine fv_iload_n C d_B_allows_7 (n := 8) rfl (i := 1) rfl rfl ?_
    refine fv_tableIn C d_B_allows_8 (by decide +kernel) (by decide +kernel) (off := 110) (by decide +kernel) (tgt := 118) rfl ?_
    cases hf : bo_fi b.1 x with
    | none =>
      rw [bk_pl_none hA hw hf]
      refine fv_iload C d_B_allows_118 (n := 120) rfl rfl ?_
      refine fv_iconst C d_B_allows_120 (n := 121) rfl kI_m1 ?_
      refine fv_icmp_eq C d_B_allows_121 (tgt := 128) rfl (n := 124) rfl (fun hc121 => ?_) (fun hc121 => ?_)
      · refine fv_iconst C d_B_allows_128 (n := 129) rfl kI_0 ?_
        refine fv_zret C rfl d_B_allows_129 rfl (Nat.le_refl _) (Nat.le_refl _) ?_
        refine ⟨?_, rfl, rfl⟩
        simp [bo_ok, hf]; rfl
      · exact absurd rfl hc121
    | some o =>
      obtain ⟨k, hk, ho, e⟩ := bk_pl_some hA hw hf
      have hkm := nI_nm1 (k := k) (by omega)
      obtain ⟨-, -, hz⟩ := hA k o ho
      rw [e]
      refine fv_iload C d_B_allows_118 (n := 120) rfl rfl ?_
      refine fv_iconst C d_B_allows_120 (n := 121) rfl kI_m1 ?_
      refine fv_icmp_eq C d_B_allows_121 (tgt := 128) rfl (n := 124) rfl (fun hc121 => ?_) (fun hc121 => ?_)
      · exact absurd hc121 hkm
      · refine fv_iconst C d_B_allows_124 (n := 125) rfl kI_1 ?_
        refine fv_goto C d_B_allows_125 (tgt := 129) rfl ?_
        refine fv_zret C rfl d_B_allows_129 rfl (Nat.le_refl _) (Nat.le_refl _) ?_
        refine ⟨?_, rfl, rfl⟩
        simp [bo_ok, hf]; rfl
  · refine fv_iload_n C d_B_allows_7 (n := 8) rfl (i := 1) rfl rfl ?_
    refine fv_tableIn C d_B_allows_8 (by decide +kernel) (by decide +kernel) (off := 122) (by decide +kernel) (tgt := 130) rfl ?_
    rcases hv rfl with rfl | rfl
    all_goals cases hb2 : b.2
    all_goals rw [hb2] at hB
    · refine fv_aload_n C d_B_allows_130 (n := 131) rfl (i := 0) rfl rfl ?_
      refine fv_callV_r C (ml_B_39 D dA) im_B_haltValue se_B_haltValue hB.1 rfl (ct_B_haltValue hB) d_B_allows_131 (n := 134) rfl rfl rfl rfl (Nat.le_of_ble_eq_true rfl) (Nat.le_of_ble_eq_true rfl) (Nat.le_of_ble_eq_true rfl) (Nat.le_refl _) (Nat.le_refl _) ?_
      refine fv_iload_n C d_B_allows_134 (n := 135) rfl (i := 3) rfl rfl ?_
      refine fv_icmp_eq C d_B_allows_135 (tgt := 142) rfl (n := 138) rfl (fun hc135 => ?_) (fun hc135 => ?_)
      · refine fv_iconst C d_B_allows_142 (n := 143) rfl kI_0 ?_
        refine fv_zret C rfl d_B_allows_143 rfl (Nat.le_refl _) (Nat.le_refl _) ?_
        refine ⟨?_, rfl, rfl⟩
        simp [bo_ok, hb2]; rfl
      · exact absurd rfl hc135
    · refine fv_aload_n C d_B_allows_130 (n := 131) rfl (i := 0) rfl rfl ?_
      refine fv_callV_r C (ml_B_39 D dA) im_B_haltValue se_B_haltValue hB.1 rfl (ct_B_haltValue hB) d_B_allows_131 (n := 134) rfl rfl rfl rfl (Nat.le_of_ble_eq_true rfl) (Nat.le_of_ble_eq_true rfl) (Nat.le_of_ble_eq_true rfl) (Nat.le_refl _) (Nat.le_refl _) ?_
      refine fv_iload_n C d_B_allows_134 (n := 135) rfl (i := 3) rfl rfl ?_
      refine fv_icmp_eq C d_B_allows_135 (tgt := 142) rfl (n := 138) rfl (fun hc135 => ?_) (fun hc135 => ?_)
      · exact absurd hc135 (by decide +kernel)
      · refine fv_iconst C d_B_allows_138 (n := 139) rfl kI_1 ?_
        refine fv_goto C d_B_allows_139 (tgt := 143) rfl ?_
        refine fv_zret C rfl d_B_allows_143 rfl (Nat.le_refl _) (Nat.le_refl _) ?_
        refine ⟨?_, rfl, rfl⟩
        simp [bo_ok, hb2]; rfl
    · refine fv_aload_n C d_B_allows_130 (n := 131) rfl (i := 0) rfl rfl ?_
      refine fv_callV_r C (ml_B_39 D dA) im_B_haltValue se_B_haltValue hB.1 rfl (ct_B_haltValue hB) d_B_allows_131 (n := 134) rfl rfl rfl rfl (Nat.le_of_ble_eq_true rfl) (Nat.le_of_ble_eq_true rfl) (Nat.le_of_ble_eq_true rfl) (Nat.le_refl _) (Nat.le_refl _) ?_
      refine fv_iload_n C d_B_allows_134 (n := 135) rfl (i := 3) rfl rfl ?_
      refine fv_icmp_eq C d_B_allows_135 (tgt := 142) rfl (n := 138) rfl (fun hc135 => ?_) (fun hc135 => ?_)
      · exact absurd hc135 (by decide +kernel)
      · refine fv_iconst C d_B_allows_138 (n := 139) rfl kI_1 ?_
        refine fv_goto C d_B_allows_139 (tgt := 143) rfl ?_
        refine fv_zret C rfl d_B_allows_143 rfl (Nat.le_refl _) (Nat.le_refl _) ?_
        refine ⟨?_, rfl, rfl⟩
        simp [bo_ok, hb2]; rfl
    · refine fv_aload_n C d_B_allows_130 (n := 131) rfl (i := 0) rfl rfl ?_
      refine fv_callV_r C (ml_B_39 D dA) im_B_haltValue se_B_haltValue hB.1 rfl (ct_B_haltValue hB) d_B_allows_131 (n := 134) rfl rfl rfl rfl (Nat.le_of_ble_eq_true rfl) (Nat.le_of_ble_eq_true rfl) (Nat.le_of_ble_eq_true rfl) (Nat.le_refl _) (Nat.le_refl _) ?_
      refine fv_iload_n C d_B_allows_134 (n := 135) rfl (i := 3) rfl rfl ?_
      refine fv_icmp_eq C d_B_allows_135 (tgt := 142) rfl (n := 138) rfl (fun hc135 => ?_) (fun hc135 => ?_)
      · refine fv_iconst C d_B_allows_142 (n := 143) rfl kI_0 ?_
        refine fv_zret C rfl d_B_allows_143 rfl (Nat.le_refl _) (Nat.le_refl _) ?_
        refine ⟨?_, rfl, rfl⟩
        simp [bo_ok, hb2]; rfl
      · exact absurd rfl hc135
  · refine fv_iload_n C d_B_allows_7 (n := 8) rfl (i := 1) rfl rfl ?_
    refine fv_tableOut C d_B_allows_8 (by decide +kernel) (tgt := 144) rfl ?_
    refine fv_iconst C d_B_allows_144 (n := 145) rfl kI_1 ?_
    refine fv_zret C rfl d_B_allows_145 rfl (Nat.le_refl _) (Nat.le_refl _) ?_
    refine ⟨?_, rfl, rfl⟩
    simp [bo_ok]; rfl
theorem ct_B_start0 {s : Nat} {ids pri siz : Nat → Int32} {n : Nat} (hs : s < 2) (hB : BK dA h a ids pri siz (bo_srt 0 b.1).length b.1.length b.2 n) : fv_T l (fk D dA) Bs WA m_B_startOf [.ref a, .int (nI s)] sz h 0 0 (fp_r (.int (nI (bo_st0 b.1 s))) sz h) := ct_B_startOf hs hB
theorem ct_B_end0 {s : Nat} {ids pri siz : Nat → Int32} {n : Nat} (hs : s < 2) (hB : BK dA h a ids pri siz (bo_srt 0 b.1).length b.1.length b.2 n) : fv_T l (fk D dA) Bs WA m_B_endOf [.ref a, .int (nI s)] sz h 0 0 (fp_r (.int (nI (bo_en0 b.1 s))) sz h) := ct_B_endOf hs hB
theorem ct_B_idAt {s j : Nat} (hs : s < 2) (hj : j < 24) (hL : BL dA h a b nn) : fv_T l (fk D dA) Bs WA m_B_idAt [.ref a, .int (nI s), .int (nI j)] sz h 0 0 (fp_r (.int (match (bo_srt s b.1)[j]? with | some o => o.1 | none => -1)) sz h) := by
  obtain ⟨ids, pri, siz, hB, hA, hw⟩ := hL
  have h24 := hw.2.2.2
  have he := bo_en_st hw.2.1 hs
  have he2 := bo_en_le hw.2.1 hs
  refine fv_of (L := [_, _, _, _]) (by decide +kernel) rfl (Nat.le_of_ble_eq_true rfl) rfl ?_
  intro X hX C
  subst hX
  refine fv_aload_n C d_B_idAt_0 (n := 1) rfl (i := 0) rfl rfl ?_
  refine fv_iload_n C d_B_idAt_1 (n := 2) rfl (i := 1) rfl rfl ?_
  refine fv_callV_r C (ml_B_65 D dA) im_B_startOf se_B_startOf hB.1 rfl (ct_B_start0 hs hB) d_B_idAt_2 (n := 5) rfl rfl rfl rfl (Nat.le_of_ble_eq_true rfl) (Nat.le_of_ble_eq_true rfl) (Nat.le_of_ble_eq_true rfl) (Nat.le_refl _) (Nat.le_refl _) ?_
  refine fv_iload_n C d_B_idAt_5 (n := 6) rfl (i := 2) rfl rfl ?_
  first | refine fv_iaddN C d_B_idAt_6 (n := 7) rfl ?_ | refine fv_iadd C d_B_idAt_6 (n := 7) rfl ?_
  refine fv_istore_n C d_B_idAt_7 (n := 8) rfl (i := 3) rfl (by decide) (L' := [_, _, _, _]) rfl ?_
  refine fv_iload_n C d_B_idAt_8 (n := 9) rfl (i := 3) rfl rfl ?_
  refine fv_aload_n C d_B_idAt_9 (n := 10) rfl (i := 0) rfl rfl ?_
  refine fv_iload_n C d_B_idAt_10 (n := 11) rfl (i := 1) rfl rfl ?_
  refine fv_callV_r C (ml_B_68 D dA) im_B_endOf se_B_endOf hB.1 rfl (ct_B_end0 hs hB) d_B_idAt_11 (n := 14) rfl rfl rfl rfl (Nat.le_of_ble_eq_true rfl) (Nat.le_of_ble_eq_true rfl) (Nat.le_of_ble_eq_true rfl) (Nat.le_refl _) (Nat.le_refl _) ?_
  refine fv_icmpN_ge C (by omega) (by omega) d_B_idAt_14 (tgt := 26) rfl (n := 17) rfl (fun hc14 => ?_) (fun hc14 => ?_)
  · have hn : (bo_srt s b.1)[j]? = none := List.getElem?_eq_none_iff.mpr (by omega)
    refine fv_iconst C d_B_idAt_26 (n := 27) rfl kI_m1 ?_
    refine fv_iret C rfl d_B_idAt_27 (Nat.le_refl _) (Nat.le_refl _) ?_
    refine ⟨?_, rfl, rfl⟩
    first | rw [hn] | rw [hg, hi]
  · have hlt : j < (bo_srt s b.1).length := by omega
    have hg := List.getElem?_eq_getElem hlt
    obtain ⟨hi, -, -⟩ := hA _ _ ((bo_arr_side hs hlt).trans hg)
    refine fv_aload_n C d_B_idAt_17 (n := 18) rfl (i := 0) rfl rfl ?_
    refine fv_get C (fl_B_9 D dA) d_B_idAt_18 (n := 21) rfl hB.1 rfl ?_
    refine fv_iload_n C d_B_idAt_21 (n := 22) rfl (i := 3) rfl rfl ?_
    refine fv_ialdN C (t0 := 0) rfl d_B_idAt_22 (n := 23) rfl hB.2.1 (by omega) (by decide) ?_
    refine fv_goto C d_B_idAt_23 (tgt := 27) rfl ?_
    refine fv_iret C rfl d_B_idAt_27 (Nat.le_refl _) (Nat.le_refl _) ?_
    refine ⟨?_, rfl, rfl⟩
    first | rw [hn] | rw [hg, hi]
theorem bo_tri_0 (lev : Nat) : bo_tri lev [] = (0, 0, 0) := by simp [bo_tri, bo_dp]
/-- the scan's state after t orders -/
theorem bo_tri_end {s lev what t : Nat} {sl : List bo_O} (hS : bo_S s sl) (ht : t ≤ sl.length) (h : t = sl.length ∨ lev + 1 < (bo_dp (sl.take t)).length) : bo_tri lev sl = bo_tri lev (sl.take t) := by
  rcases h with h | h
  · rw [h, List.take_length]
  · have e := List.take_append_drop t sl
    have h2 := bo_tri_past (r := sl.drop t) (by rw [e]; exact hS) h
    rw [e] at h2
    exact h2
theorem ct_B_levelValue {s lv wh : Nat} (hs : s < 2) (hlv : lv < 2 ^ 31) (hwh : wh < 3) (hL : BL dA h a b nn) : fv_T l (fk D dA) Bs WA m_B_levelValue [.ref a, .int (nI s), .int (nI lv), .int (nI wh)] sz h 0 0 (fp_r (.int (bo_lv (bo_srt s b.1) lv wh)) sz h) := by
  obtain ⟨ids, pri, siz, hB, hA, hw⟩ := hL
  have h24 := hw.2.2.2
  have he := bo_en_st hw.2.1 hs
  have he2 := bo_en_le hw.2.1 hs
  have hS := bo_srt_S s b.1
  have hsl : ∃ sl, sl = bo_srt s b.1 := ⟨_, rfl⟩
  obtain ⟨sl, hsl⟩ := hsl
  rw [← hsl] at he hS ⊢
  rw [bo_tri_lv hS]
  refine fv_of (L := [_, _, _, _, _, _, _, _, _, _, _]) (by decide +kernel) rfl (Nat.le_of_ble_eq_true rfl) rfl ?_
  intro X hX C
  subst hX
  have fin : ∀ t, t ≤ sl.length → (t = sl.length ∨ lv + 1 < (bo_dp (sl.take t)).length) → fv_V (fk D dA) Bs X 11 (fv_MQ (fk D dA) Bs X (fp_r (.int (if (bo_tri lv sl).2.2 = 0 then -2000000 else if wh = 0 then (bo_tri lv sl).1 else if wh = 1 then (bo_tri lv sl).2.1 else nI (bo_tri lv sl).2.2)) sz h) 0 0) 108 [some (.ref a), some (.int (nI s)), some (.int (nI lv)), some (.int (nI wh)), some (.int (nI (bo_st0 b.1 s))), some (.int (nI (bo_en0 b.1 s))), some (.int (nI (bo_dp (sl.take t)).length + (-1))), some (.int (bo_tri lv (sl.take t)).1), some (.int (bo_tri lv (sl.take t)).2.1), some (.int (nI (bo_tri lv (sl.take t)).2.2)), some (.int (nI (bo_st0 b.1 s + t)))] [] sz h 0 0 := by
    intro t ht hend
    rw [bo_tri_end (what := 0) hS ht hend]
    have hcn := bo_tri_cnt lv (sl.take t)
    rw [List.length_take] at hcn
    refine fv_iload C d_B_levelValue_108 (n := 110) rfl rfl ?_
    refine fv_ifN_ne C (by omega) d_B_levelValue_110 (tgt := 116) rfl (n := 113) rfl (fun hc110 => ?_) (fun hc110 => ?_)
    · refine fv_iload_n C d_B_levelValue_116 (n := 117) rfl (i := 3) rfl rfl ?_
      refine fv_ifN_ne C (by omega) d_B_levelValue_117 (tgt := 125) rfl (n := 120) rfl (fun hc117 => ?_) (fun hc117 => ?_)
      · refine fv_iload_n C d_B_levelValue_125 (n := 126) rfl (i := 3) rfl rfl ?_
        refine fv_iconst C d_B_levelValue_126 (n := 127) rfl kI_1 ?_
        refine fv_icmpN_ne C (by omega) (by omega) d_B_levelValue_127 (tgt := 135) rfl (n := 130) rfl (fun hc127 => ?_) (fun hc127 => ?_)
        · refine fv_iload C d_B_levelValue_135 (n := 137) rfl rfl ?_
          refine fv_iret C rfl d_B_levelValue_137 (Nat.le_refl _) (Nat.le_refl _) ?_
          refine ⟨?_, rfl, rfl⟩
          rw [if_neg hc110]
          first | rw [if_pos hc117] | rw [if_neg hc117, if_pos hc127] | rw [if_neg hc117, if_neg hc127]
        · refine fv_iload C d_B_levelValue_130 (n := 132) rfl rfl ?_
          refine fv_goto C d_B_levelValue_132 (tgt := 137) rfl ?_
          refine fv_iret C rfl d_B_levelValue_137 (Nat.le_refl _) (Nat.le_refl _) ?_
          refine ⟨?_, rfl, rfl⟩
          rw [if_neg hc110]
          first | rw [if_pos hc117] | rw [if_neg hc117, if_pos hc127] | rw [if_neg hc117, if_neg hc127]
      · refine fv_iload C d_B_levelValue_120 (n := 122) rfl rfl ?_
        refine fv_goto C d_B_levelValue_122 (tgt := 137) rfl ?_
        refine fv_iret C rfl d_B_levelValue_137 (Nat.le_refl _) (Nat.le_refl _) ?_
        refine ⟨?_, rfl, rfl⟩
        rw [if_neg hc110]
        first | rw [if_pos hc117] | rw [if_neg hc117, if_pos hc127] | rw [if_neg hc117, if_neg hc127]
    · refine fv_ldc C d_B_levelValue_113 (n := 115) rfl kc_B_84 ?_
      refine fv_iret C rfl d_B_levelValue_115 (Nat.le_refl _) (Nat.le_refl _) ?_
      refine ⟨?_, rfl, rfl⟩
      rw [if_pos hc110]
  have loop : ∀ k t, t + k = sl.length → fv_V (fk D dA) Bs X 11 (fv_MQ (fk D dA) Bs X (fp_r (.int (if (bo_tri lv sl).2.2 = 0 then -2000000 else if wh = 0 then (bo_tri lv sl).1 else if wh = 1 then (bo_tri lv sl).2.1 else nI (bo_tri lv sl).2.2)) sz h) 0 0) 30 [some (.ref a), some (.int (nI s)), some (.int (nI lv)), some (.int (nI wh)), some (.int (nI (bo_st0 b.1 s))), some (.int (nI (bo_en0 b.1 s))), some (.int (nI (bo_dp (sl.take t)).length + (-1))), some (.int (bo_tri lv (sl.take t)).1), some (.int (bo_tri lv (sl.take t)).2.1), some (.int (nI (bo_tri lv (sl.take t)).2.2)), some (.int (nI (bo_st0 b.1 s + t)))] [] sz h 0 0 := by
    intro k
    induction k with
    | zero =>
      intro t ht
      refine fv_iload C d_B_levelValue_30 (n := 32) rfl rfl ?_
      refine fv_iload C d_B_levelValue_32 (n := 34) rfl rfl ?_
      refine fv_icmpN_ge C (by omega) (by omega) d_B_levelValue_34 (tgt := 108) rfl (n := 37) rfl (fun hc34 => ?_) (fun hc34 => ?_)
      · exact fin t (by omega) (Or.inl (by omega))
      · exact absurd hc34 (by omega)
    | succ k ih =>
      intro t ht
      have hd := Nat.le_trans (bo_dp_len (sl.take t)) (by rw [List.length_take]; exact Nat.min_le_left _ _)
      have hlt : t < sl.length := by omega
      have hg := List.getElem?_eq_getElem hlt
      obtain ⟨o, ho⟩ : ∃ o, sl[t]? = some o := ⟨_, hg⟩
      have hat : (bo_arr b.1)[bo_st0 b.1 s + t]? = some o := by rw [bo_arr_side hs (by rw [← hsl]; exact hlt), ← hsl]; exact ho
      obtain ⟨-, hp, hz⟩ := hA _ _ hat
      have hts := bo_take_succ ho
      have hS2 : bo_S s (sl.take t ++ [o]) := by rw [← hts]; exact bo_S_take _ hS
      have hgr := bo_dp_grow (sl.take t) o
      have hlast := bo_dp_last (sl.take t)
      refine fv_iload C d_B_levelValue_30 (n := 32) rfl rfl ?_
      refine fv_iload C d_B_levelValue_32 (n := 34) rfl rfl ?_
      refine fv_icmpN_ge C (by omega) (by omega) d_B_levelValue_34 (tgt := 108) rfl (n := 37) rfl (fun hc34 => ?_) (fun hc34 => ?_)
      · exact absurd hc34 (by omega)
      · refine fv_iload C d_B_levelValue_37 (n := 39) rfl rfl ?_
        refine fv_iload_n C d_B_levelValue_39 (n := 40) rfl (i := 2) rfl rfl ?_
        refine fv_icmp_gt C d_B_levelValue_40 (tgt := 108) rfl (n := 43) rfl (fun hc40 => ?_) (fun hc40 => ?_)
        · rw [cur_gt (by omega) hlv] at hc40
          exact fin t (by omega) (Or.inr hc40)
        · rw [cur_gt (by omega) hlv] at hc40
          have hd1 : (bo_dp (sl.take t)).length ≤ lv + 1 := by omega
          have hst := bo_tri_step hS2 hd1
          rw [← hts] at hst hgr
          refine fv_iload C d_B_levelValue_43 (n := 45) rfl rfl ?_
          refine fv_iload C d_B_levelValue_45 (n := 47) rfl rfl ?_
          refine fv_icmpN_eq C (by omega) (by omega) d_B_levelValue_47 (tgt := 69) rfl (n := 50) rfl (fun hc47 => ?_) (fun hc47 => ?_)
          · have ht0 : t = 0 := by omega
            have hnew : ¬ (bo_dp (sl.take t)).getLast? = some o.2.2.1 := by rw [ht0]; simp [bo_dp]
            rw [if_neg hnew] at hgr
            refine fv_iinc C d_B_levelValue_69 (n := 72) rfl rfl (cur_inc _) (by decide) (L' := [_, _, _, _, _, _, _, _, _, _, _]) rfl ?_
            refine fv_iload C d_B_levelValue_72 (n := 74) rfl rfl ?_
            refine fv_iload_n C d_B_levelValue_74 (n := 75) rfl (i := 2) rfl rfl ?_
            refine fv_icmp_ne C d_B_levelValue_75 (tgt := 102) rfl (n := 78) rfl (fun hc75 => ?_) (fun hc75 => ?_)
            · rw [cur_eq (by omega) hlv] at hc75
              rw [if_neg (by omega)] at hst
              refine fv_iincN C d_B_levelValue_102 (n := 105) rfl rfl (by decide) (L' := [_, _, _, _, _, _, _, _, _, _, _]) rfl ?_
              refine fv_goto C d_B_levelValue_105 (tgt := 30) rfl ?_
              refine fv_eqL ?_ (ih (t + 1) (by omega))
              simp only [hgr, hst, hp, hz, Nat.add_assoc]
            · rw [cur_eq (by omega) hlv] at hc75
              rw [if_pos (by omega)] at hst
              refine fv_aload_n C d_B_levelValue_78 (n := 79) rfl (i := 0) rfl rfl ?_
              refine fv_get C (fl_B_15 D dA) d_B_levelValue_79 (n := 82) rfl hB.1 rfl ?_
              refine fv_iload C d_B_levelValue_82 (n := 84) rfl rfl ?_
              refine fv_ialdN C (t0 := 0) rfl d_B_levelValue_84 (n := 85) rfl hB.2.2.1 (by omega) (by decide) ?_
              refine fv_istore C d_B_levelValue_85 (n := 87) rfl (by decide) (L' := [_, _, _, _, _, _, _, _, _, _, _]) rfl ?_
              refine fv_iload C d_B_levelValue_87 (n := 89) rfl rfl ?_
              refine fv_aload_n C d_B_levelValue_89 (n := 90) rfl (i := 0) rfl rfl ?_
              refine fv_get C (fl_B_18 D dA) d_B_levelValue_90 (n := 93) rfl hB.1 rfl ?_
              refine fv_iload C d_B_levelValue_93 (n := 95) rfl rfl ?_
              refine fv_ialdN C (t0 := 0) rfl d_B_levelValue_95 (n := 96) rfl hB.2.2.2 (by omega) (by decide) ?_
              refine fv_iadd C d_B_levelValue_96 (n := 97) rfl ?_
              refine fv_istore C d_B_levelValue_97 (n := 99) rfl (by decide) (L' := [_, _, _, _, _, _, _, _, _, _, _]) rfl ?_
              refine fv_iincN C d_B_levelValue_99 (n := 102) rfl rfl (by decide) (L' := [_, _, _, _, _, _, _, _, _, _, _]) rfl ?_
              refine fv_iincN C d_B_levelValue_102 (n := 105) rfl rfl (by decide) (L' := [_, _, _, _, _, _, _, _, _, _, _]) rfl ?_
              refine fv_goto C d_B_levelValue_105 (tgt := 30) rfl ?_
              refine fv_eqL ?_ (ih (t + 1) (by omega))
              simp only [hgr, hst, hp, hz, Nat.add_assoc]
          · obtain ⟨t1, ht1⟩ : ∃ t1, t = t1 + 1 := ⟨t - 1, by omega⟩
            obtain ⟨o1, ho1⟩ : ∃ o1, sl[t1]? = some o1 := ⟨_, List.getElem?_eq_getElem (by omega)⟩
            have hat1 : (bo_arr b.1)[bo_st0 b.1 s + t1]? = some o1 := by rw [bo_arr_side hs (by rw [← hsl]; omega), ← hsl]; exact ho1
            obtain ⟨-, hp1, -⟩ := hA _ _ hat1
            have hl1 : (sl.take t).getLast? = some o1 := by rw [ht1, bo_take_succ ho1]; simp
            rw [hl1] at hlast
            rw [hlast] at hgr
            refine fv_aload_n C d_B_levelValue_50 (n := 51) rfl (i := 0) rfl rfl ?_
            refine fv_get C (fl_B_15 D dA) d_B_levelValue_51 (n := 54) rfl hB.1 rfl ?_
            refine fv_iload C d_B_levelValue_54 (n := 56) rfl rfl ?_
            refine fv_ialdN C (t0 := 0) rfl d_B_levelValue_56 (n := 57) rfl hB.2.2.1 (by omega) (by decide) ?_
            refine fv_aload_n C d_B_levelValue_57 (n := 58) rfl (i := 0) rfl rfl ?_
            refine fv_get C (fl_B_15 D dA) d_B_levelValue_58 (n := 61) rfl hB.1 rfl ?_
            refine fv_iload C d_B_levelValue_61 (n := 63) rfl rfl ?_
            refine fv_iconst C d_B_levelValue_63 (n := 64) rfl kI_1 ?_
            refine fv_isubN C (by omega) d_B_levelValue_64 (n := 65) rfl ?_
            refine fv_ialdN C (t0 := 0) rfl d_B_levelValue_65 (n := 66) rfl hB.2.2.1 (by omega) (by decide) ?_
            refine fv_icmp_eq C d_B_levelValue_66 (tgt := 72) rfl (n := 69) rfl (fun hc66 => ?_) (fun hc66 => ?_)
            · rw [hp, show bo_st0 b.1 s + t - 1 = bo_st0 b.1 s + t1 by omega, hp1] at hc66
              simp only [Option.map_some, hc66, if_true] at hgr
              refine fv_iload C d_B_levelValue_72 (n := 74) rfl rfl ?_
              refine fv_iload_n C d_B_levelValue_74 (n := 75) rfl (i := 2) rfl rfl ?_
              refine fv_icmp_ne C d_B_levelValue_75 (tgt := 102) rfl (n := 78) rfl (fun hc75 => ?_) (fun hc75 => ?_)
              · rw [cur_eq (by omega) hlv] at hc75
                rw [if_neg (by omega)] at hst
                refine fv_iincN C d_B_levelValue_102 (n := 105) rfl rfl (by decide) (L' := [_, _, _, _, _, _, _, _, _, _, _]) rfl ?_
                refine fv_goto C d_B_levelValue_105 (tgt := 30) rfl ?_
                refine fv_eqL ?_ (ih (t + 1) (by omega))
                simp only [hgr, hst, hp, hz, Nat.add_assoc]
              · rw [cur_eq (by omega) hlv] at hc75
                rw [if_pos (by omega)] at hst
                refine fv_aload_n C d_B_levelValue_78 (n := 79) rfl (i := 0) rfl rfl ?_
                refine fv_get C (fl_B_15 D dA) d_B_levelValue_79 (n := 82) rfl hB.1 rfl ?_
                refine fv_iload C d_B_levelValue_82 (n := 84) rfl rfl ?_
                refine fv_ialdN C (t0 := 0) rfl d_B_levelValue_84 (n := 85) rfl hB.2.2.1 (by omega) (by decide) ?_
                refine fv_istore C d_B_levelValue_85 (n := 87) rfl (by decide) (L' := [_, _, _, _, _, _, _, _, _, _, _]) rfl ?_
                refine fv_iload C d_B_levelValue_87 (n := 89) rfl rfl ?_
                refine fv_aload_n C d_B_levelValue_89 (n := 90) rfl (i := 0) rfl rfl ?_
                refine fv_get C (fl_B_18 D dA) d_B_levelValue_90 (n := 93) rfl hB.1 rfl ?_
                refine fv_iload C d_B_levelValue_93 (n := 95) rfl rfl ?_
                refine fv_ialdN C (t0 := 0) rfl d_B_levelValue_95 (n := 96) rfl hB.2.2.2 (by omega) (by decide) ?_
                refine fv_iadd C d_B_levelValue_96 (n := 97) rfl ?_
                refine fv_istore C d_B_levelValue_97 (n := 99) rfl (by decide) (L' := [_, _, _, _, _, _, _, _, _, _, _]) rfl ?_
                refine fv_iincN C d_B_levelValue_99 (n := 102) rfl rfl (by decide) (L' := [_, _, _, _, _, _, _, _, _, _, _]) rfl ?_
                refine fv_iincN C d_B_levelValue_102 (n := 105) rfl rfl (by decide) (L' := [_, _, _, _, _, _, _, _, _, _, _]) rfl ?_
                refine fv_goto C d_B_levelValue_105 (tgt := 30) rfl ?_
                refine fv_eqL ?_ (ih (t + 1) (by omega))
                simp only [hgr, hst, hp, hz, Nat.add_assoc]
            · rw [hp, show bo_st0 b.1 s + t - 1 = bo_st0 b.1 s + t1 by omega, hp1] at hc66
              have hne : ¬ some o1.2.2.1 = some o.2.2.1 := fun q => hc66 (Option.some.inj q).symm
              simp only [Option.map_some, if_neg hne] at hgr
              refine fv_iinc C d_B_levelValue_69 (n := 72) rfl rfl (cur_inc _) (by decide) (L' := [_, _, _, _, _, _, _, _, _, _, _]) rfl ?_
              refine fv_iload C d_B_levelValue_72 (n := 74) rfl rfl ?_
              refine fv_iload_n C d_B_levelValue_74 (n := 75) rfl (i := 2) rfl rfl ?_
              refine fv_icmp_ne C d_B_levelValue_75 (tgt := 102) rfl (n := 78) rfl (fun hc75 => ?_) (fun hc75 => ?_)
              · rw [cur_eq (by omega) hlv] at hc75
                rw [if_neg (by omega)] at hst
                refine fv_iincN C d_B_levelValue_102 (n := 105) rfl rfl (by decide) (L' := [_, _, _, _, _, _, _, _, _, _, _]) rfl ?_
                refine fv_goto C d_B_levelValue_105 (tgt := 30) rfl ?_
                refine fv_eqL ?_ (ih (t + 1) (by omega))
                simp only [hgr, hst, hp, hz, Nat.add_assoc]
              · rw [cur_eq (by omega) hlv] at hc75
                rw [if_pos (by omega)] at hst
                refine fv_aload_n C d_B_levelValue_78 (n := 79) rfl (i := 0) rfl rfl ?_
                refine fv_get C (fl_B_15 D dA) d_B_levelValue_79 (n := 82) rfl hB.1 rfl ?_
                refine fv_iload C d_B_levelValue_82 (n := 84) rfl rfl ?_
                refine fv_ialdN C (t0 := 0) rfl d_B_levelValue_84 (n := 85) rfl hB.2.2.1 (by omega) (by decide) ?_
                refine fv_istore C d_B_levelValue_85 (n := 87) rfl (by decide) (L' := [_, _, _, _, _, _, _, _, _, _, _]) rfl ?_
                refine fv_iload C d_B_levelValue_87 (n := 89) rfl rfl ?_
                refine fv_aload_n C d_B_levelValue_89 (n := 90) rfl (i := 0) rfl rfl ?_
                refine fv_get C (fl_B_18 D dA) d_B_levelValue_90 (n := 93) rfl hB.1 rfl ?_
                refine fv_iload C d_B_levelValue_93 (n := 95) rfl rfl ?_
                refine fv_ialdN C (t0 := 0) rfl d_B_levelValue_95 (n := 96) rfl hB.2.2.2 (by omega) (by decide) ?_
                refine fv_iadd C d_B_levelValue_96 (n := 97) rfl ?_
                refine fv_istore C d_B_levelValue_97 (n := 99) rfl (by decide) (L' := [_, _, _, _, _, _, _, _, _, _, _]) rfl ?_
                refine fv_iincN C d_B_levelValue_99 (n := 102) rfl rfl (by decide) (L' := [_, _, _, _, _, _, _, _, _, _, _]) rfl ?_
                refine fv_iincN C d_B_levelValue_102 (n := 105) rfl rfl (by decide) (L' := [_, _, _, _, _, _, _, _, _, _, _]) rfl ?_
                refine fv_goto C d_B_levelValue_105 (tgt := 30) rfl ?_
                refine fv_eqL ?_ (ih (t + 1) (by omega))
                simp only [hgr, hst, hp, hz, Nat.add_assoc]
  refine fv_aload_n C d_B_levelValue_0 (n := 1) rfl (i := 0) rfl rfl ?_
  refine fv_iload_n C d_B_levelValue_1 (n := 2) rfl (i := 1) rfl rfl ?_
  refine fv_callV_r C (ml_B_65 D dA) im_B_startOf se_B_startOf hB.1 rfl (ct_B_start0 hs hB) d_B_levelValue_2 (n := 5) rfl rfl rfl rfl (Nat.le_of_ble_eq_true rfl) (Nat.le_of_ble_eq_true rfl) (Nat.le_of_ble_eq_true rfl) (Nat.le_refl _) (Nat.le_refl _) ?_
  refine fv_istore C d_B_levelValue_5 (n := 7) rfl (by decide) (L' := [_, _, _, _, _, _, _, _, _, _, _]) rfl ?_
  refine fv_aload_n C d_B_levelValue_7 (n := 8) rfl (i := 0) rfl rfl ?_
  refine fv_iload_n C d_B_levelValue_8 (n := 9) rfl (i := 1) rfl rfl ?_
  refine fv_callV_r C (ml_B_68 D dA) im_B_endOf se_B_endOf hB.1 rfl (ct_B_end0 hs hB) d_B_levelValue_9 (n := 12) rfl rfl rfl rfl (Nat.le_of_ble_eq_true rfl) (Nat.le_of_ble_eq_true rfl) (Nat.le_of_ble_eq_true rfl) (Nat.le_refl _) (Nat.le_refl _) ?_
  refine fv_istore C d_B_levelValue_12 (n := 14) rfl (by decide) (L' := [_, _, _, _, _, _, _, _, _, _, _]) rfl ?_
  refine fv_iconst C d_B_levelValue_14 (n := 15) rfl kI_m1 ?_
  refine fv_istore C d_B_levelValue_15 (n := 17) rfl (by decide) (L' := [_, _, _, _, _, _, _, _, _, _, _]) rfl ?_
  refine fv_iconst C d_B_levelValue_17 (n := 18) rfl kI_0 ?_
  refine fv_istore C d_B_levelValue_18 (n := 20) rfl (by decide) (L' := [_, _, _, _, _, _, _, _, _, _, _]) rfl ?_
  refine fv_iconst C d_B_levelValue_20 (n := 21) rfl kI_0 ?_
  refine fv_istore C d_B_levelValue_21 (n := 23) rfl (by decide) (L' := [_, _, _, _, _, _, _, _, _, _, _]) rfl ?_
  refine fv_iconst C d_B_levelValue_23 (n := 24) rfl kI_0 ?_
  refine fv_istore C d_B_levelValue_24 (n := 26) rfl (by decide) (L' := [_, _, _, _, _, _, _, _, _, _, _]) rfl ?_
  refine fv_iload C d_B_levelValue_26 (n := 28) rfl rfl ?_
  refine fv_istore C d_B_levelValue_28 (n := 30) rfl (by decide) (L' := [_, _, _, _, _, _, _, _, _, _, _]) rfl ?_
  refine fv_eqL ?_ (loop sl.length 0 (by omega))
  simp only [List.take_zero, bo_tri_0, bo_dp_nil, List.length_nil, nI_0, Nat.add_zero, Int32.zero_add]
end BK2
end
section
/-! Book: refresh -/
section BK3
variable {l : Launch} {D : va_G} {dA : Nat → ClassId} {Bs sz : Nat} {h : fv_H} {a : Nat} {b : bo_B} {nn : Nat}
def rf_ch (f : Nat → Int32) (b : bo_B) (k : Nat) : Bool := (List.range k).any (fun i => decide (f i ≠ fe_vw b i))
theorem rf_ch_succ (f : Nat → Int32) (b : bo_B) (k : Nat) : rf_ch f b (k + 1) = (rf_ch f b k || decide (f k ≠ fe_vw b k)) := by
  unfold rf_ch
  rw [List.range_succ, List.any_append]
  simp
theorem rf_upd (f : Nat → Int32) (b : bo_B) (k : Nat) : upd (fun j => if j < k then fe_vw b j else f j) k (fe_vw b k) = fun j => if j < k + 1 then fe_vw b j else f j := by
  funext j
  unfold upd
  by_cases h1 : j = k
  · subst h1
    simp
  · by_cases h2 : j < k
    · simp [h1, h2, Nat.lt_succ_of_lt h2]
    · have h3 : ¬ j < k + 1 := by omega
      simp [h1, h2, h3]
theorem ct_B_refresh {c : Nat} {f : Nat → Int32} (hc : h c = some (.inl (dA 0, 19, .inl f))) (hcd : c < a ∨ a + 4 ≤ c) (hBs : Bs ≤ c) (hL : BL dA h a b nn) : fv_T l (fk D dA) Bs WA m_B_refresh [.ref a, .ref c] sz h 0 0 (fp_i sz (fun r h' => r = fv_b (tr_dif f (fe_vw b)) ∧ h' c = some (.inl (dA 0, 19, .inl (fun j => if j < 19 then fe_vw b j else f j))) ∧ fr h h' c 1)) := by
  refine fv_of (L := [_, _, _, _, _]) (by decide +kernel) rfl (Nat.le_of_ble_eq_true rfl) rfl ?_
  intro X hX C
  subst hX
  have loop : ∀ (m k : Nat) (h1 : fv_H), k + m = 19 → h1 c = some (.inl (dA 0, 19, .inl (fun j => if j < k then fe_vw b j else f j))) → fr h h1 c 1 → fv_V (fk D dA) Bs X 5 (fv_MQ (fk D dA) Bs X (fp_i sz (fun r h' => r = fv_b (tr_dif f (fe_vw b)) ∧ h' c = some (.inl (dA 0, 19, .inl (fun j => if j < 19 then fe_vw b j else f j))) ∧ fr h h' c 1)) 0 0) 4 [some (.ref a), some (.ref c), some (.int (fv_b (rf_ch f b k))), some (.int (nI k)), none] [] sz h1 0 0 := by
    intro m
    induction m with
    | zero =>
      intro k h1 hk hc1 hf1
      have hk : k = 19 := by omega
      subst hk
      refine fv_iload_n C d_B_refresh_4 (n := 5) rfl (i := 3) rfl rfl ?_
      refine fv_bipush C d_B_refresh_5 (n := 7) rfl kB_19 ?_
      refine fv_icmpN_ge C (by omega) (by omega) d_B_refresh_7 (tgt := 77) rfl (n := 10) rfl (fun hc7 => ?_) (fun hc7 => ?_)
      · refine fv_iload_n C d_B_refresh_77 (n := 78) rfl (i := 2) rfl rfl ?_
        refine fv_zret C rfl d_B_refresh_78 (fv_b_nar _) (Nat.le_refl _) (Nat.le_refl _) ?_
        exact ⟨_, rfl, rfl, rfl, hc1, hf1⟩
      · exact absurd hc7 (by omega)
    | succ m ih =>
      intro k h1 hk hc1 hf1
      have hL1 := hL.fr hf1 (by omega)
      have hL2 := hL1
      obtain ⟨ids, pri, siz, hB, hA, hw⟩ := hL2
      have hs := rf_ch_succ f b k
      refine fv_iload_n C d_B_refresh_4 (n := 5) rfl (i := 3) rfl rfl ?_
      refine fv_bipush C d_B_refresh_5 (n := 7) rfl kB_19 ?_
      refine fv_icmpN_ge C (by omega) (by omega) d_B_refresh_7 (tgt := 77) rfl (n := 10) rfl (fun hc7 => ?_) (fun hc7 => ?_)
      · exact absurd hc7 (by omega)
      · refine fv_iload_n C d_B_refresh_10 (n := 11) rfl (i := 3) rfl rfl ?_
        refine fv_aload_n C d_B_refresh_11 (n := 12) rfl (i := 1) rfl rfl ?_
        refine fv_alen C (t0 := 0) rfl d_B_refresh_12 (n := 13) rfl hc1 (show _ = nI 19 from rfl) ?_
        refine fv_icmpN_ge C (by omega) (by omega) d_B_refresh_13 (tgt := 77) rfl (n := 16) rfl (fun hc13 => ?_) (fun hc13 => ?_)
        · exact absurd hc13 (by omega)
        · refine fv_iload_n C d_B_refresh_16 (n := 17) rfl (i := 3) rfl rfl ?_
          refine fv_bipush C d_B_refresh_17 (n := 19) rfl kB_18 ?_
          refine fv_icmpN_ne C (by omega) (by omega) d_B_refresh_19 (tgt := 29) rfl (n := 22) rfl (fun hc19 => ?_) (fun hc19 => ?_)
          · have hvv : bo_lv (bo_srt (k / 9) b.1) (k % 9 / 3) (k % 3) = fe_vw b k := by unfold fe_vw; rw [if_pos (by omega)]
            refine fv_aload_n C d_B_refresh_29 (n := 30) rfl (i := 0) rfl rfl ?_
            refine fv_iload_n C d_B_refresh_30 (n := 31) rfl (i := 3) rfl rfl ?_
            refine fv_bipush C d_B_refresh_31 (n := 33) rfl kB_9 ?_
            refine fv_idivN C (by omega) (by omega) (by omega) d_B_refresh_33 (n := 34) rfl ?_
            refine fv_iload_n C d_B_refresh_34 (n := 35) rfl (i := 3) rfl rfl ?_
            refine fv_bipush C d_B_refresh_35 (n := 37) rfl kB_9 ?_
            refine fv_iremN C (by omega) (by omega) (by omega) d_B_refresh_37 (n := 38) rfl ?_
            refine fv_iconst C d_B_refresh_38 (n := 39) rfl kI_3 ?_
            refine fv_idivN C (by omega) (by omega) (by omega) d_B_refresh_39 (n := 40) rfl ?_
            refine fv_iload_n C d_B_refresh_40 (n := 41) rfl (i := 3) rfl rfl ?_
            refine fv_iconst C d_B_refresh_41 (n := 42) rfl kI_3 ?_
            refine fv_iremN C (by omega) (by omega) (by omega) d_B_refresh_42 (n := 43) rfl ?_
            refine fv_callV_r C (ml_B_85 D dA) im_B_levelValue se_B_levelValue hB.1 rfl (ct_B_levelValue (by omega) (by omega) (by omega) hL1) d_B_refresh_43 (n := 46) rfl rfl rfl rfl (Nat.le_of_ble_eq_true rfl) (Nat.le_of_ble_eq_true rfl) (Nat.le_of_ble_eq_true rfl) (Nat.le_refl _) (Nat.le_refl _) ?_
            rw [hvv]
            refine fv_istore C d_B_refresh_46 (n := 48) rfl (by decide) (L' := [_, _, _, _, _]) rfl ?_
            refine fv_iload_n C d_B_refresh_48 (n := 49) rfl (i := 2) rfl rfl ?_
            refine fv_ifB_ne C d_B_refresh_49 (tgt := 60) rfl (n := 52) rfl (fun hc49 => ?_) (fun hc49 => ?_)
            · have hcv : nI 1 = fv_b (rf_ch f b (k + 1)) := by rw [hs, hc49]; rfl
              refine fv_iconst C d_B_refresh_60 (n := 61) rfl kI_1 ?_
              refine fv_goto C d_B_refresh_61 (tgt := 65) rfl ?_
              rw [hcv]
              refine fv_istore_n C d_B_refresh_65 (n := 66) rfl (i := 2) rfl (by decide) (L' := [_, _, _, _, _]) rfl ?_
              refine fv_aload_n C d_B_refresh_66 (n := 67) rfl (i := 1) rfl rfl ?_
              refine fv_iload_n C d_B_refresh_67 (n := 68) rfl (i := 3) rfl rfl ?_
              refine fv_iload C d_B_refresh_68 (n := 70) rfl rfl ?_
              refine fv_iastN C (t0 := 0) rfl d_B_refresh_70 (n := 71) rfl hc1 hBs (by omega) (by decide) ?_
              rw [rf_upd]
              refine fv_iincN C d_B_refresh_71 (n := 74) rfl rfl (by decide) (L' := [_, _, _, _, _]) rfl ?_
              refine fv_goto C d_B_refresh_74 (tgt := 4) rfl ?_
              refine fv_drop 4 (L' := [_, _, _, _, _]) rfl ?_
              exact ih (k + 1) _ (by omega) (va_up_self _ _ _) (hf1.tr (fr_up (by omega) (by omega)))
            · refine fv_aload_n C d_B_refresh_52 (n := 53) rfl (i := 1) rfl rfl ?_
              refine fv_iload_n C d_B_refresh_53 (n := 54) rfl (i := 3) rfl rfl ?_
              refine fv_ialdN C (t0 := 0) rfl d_B_refresh_54 (n := 55) rfl hc1 (by omega) (by decide) ?_
              refine fv_iload C d_B_refresh_55 (n := 57) rfl rfl ?_
              refine fv_icmp_eq C d_B_refresh_57 (tgt := 64) rfl (n := 60) rfl (fun hc57 => ?_) (fun hc57 => ?_)
              · simp only [Nat.lt_irrefl, if_false] at hc57
                have hcv : nI 0 = fv_b (rf_ch f b (k + 1)) := by rw [hs, hc49, hc57]; simp; rfl
                refine fv_iconst C d_B_refresh_64 (n := 65) rfl kI_0 ?_
                rw [hcv]
                refine fv_istore_n C d_B_refresh_65 (n := 66) rfl (i := 2) rfl (by decide) (L' := [_, _, _, _, _]) rfl ?_
                refine fv_aload_n C d_B_refresh_66 (n := 67) rfl (i := 1) rfl rfl ?_
                refine fv_iload_n C d_B_refresh_67 (n := 68) rfl (i := 3) rfl rfl ?_
                refine fv_iload C d_B_refresh_68 (n := 70) rfl rfl ?_
                refine fv_iastN C (t0 := 0) rfl d_B_refresh_70 (n := 71) rfl hc1 hBs (by omega) (by decide) ?_
                rw [rf_upd]
                refine fv_iincN C d_B_refresh_71 (n := 74) rfl rfl (by decide) (L' := [_, _, _, _, _]) rfl ?_
                refine fv_goto C d_B_refresh_74 (tgt := 4) rfl ?_
                refine fv_drop 4 (L' := [_, _, _, _, _]) rfl ?_
                exact ih (k + 1) _ (by omega) (va_up_self _ _ _) (hf1.tr (fr_up (by omega) (by omega)))
              · simp only [Nat.lt_irrefl, if_false] at hc57
                have hcv : nI 1 = fv_b (rf_ch f b (k + 1)) := by rw [hs, hc49]; simp [hc57]; rfl
                refine fv_iconst C d_B_refresh_60 (n := 61) rfl kI_1 ?_
                refine fv_goto C d_B_refresh_61 (tgt := 65) rfl ?_
                rw [hcv]
                refine fv_istore_n C d_B_refresh_65 (n := 66) rfl (i := 2) rfl (by decide) (L' := [_, _, _, _, _]) rfl ?_
                refine fv_aload_n C d_B_refresh_66 (n := 67) rfl (i := 1) rfl rfl ?_
                refine fv_iload_n C d_B_refresh_67 (n := 68) rfl (i := 3) rfl rfl ?_
                refine fv_iload C d_B_refresh_68 (n := 70) rfl rfl ?_
                refine fv_iastN C (t0 := 0) rfl d_B_refresh_70 (n := 71) rfl hc1 hBs (by omega) (by decide) ?_
                rw [rf_upd]
                refine fv_iincN C d_B_refresh_71 (n := 74) rfl rfl (by decide) (L' := [_, _, _, _, _]) rfl ?_
                refine fv_goto C d_B_refresh_74 (tgt := 4) rfl ?_
                refine fv_drop 4 (L' := [_, _, _, _, _]) rfl ?_
                exact ih (k + 1) _ (by omega) (va_up_self _ _ _) (hf1.tr (fr_up (by omega) (by omega)))
          · have hvv : fv_b b.2 = fe_vw b k := by unfold fe_vw; rw [if_neg (by omega)]; rfl
            refine fv_aload_n C d_B_refresh_22 (n := 23) rfl (i := 0) rfl rfl ?_
            refine fv_callV_r C (ml_B_39 D dA) im_B_haltValue se_B_haltValue hB.1 rfl (ct_B_haltValue hB) d_B_refresh_23 (n := 26) rfl rfl rfl rfl (Nat.le_of_ble_eq_true rfl) (Nat.le_of_ble_eq_true rfl) (Nat.le_of_ble_eq_true rfl) (Nat.le_refl _) (Nat.le_refl _) ?_
            refine fv_goto C d_B_refresh_26 (tgt := 46) rfl ?_
            rw [hvv]
            refine fv_istore C d_B_refresh_46 (n := 48) rfl (by decide) (L' := [_, _, _, _, _]) rfl ?_
            refine fv_iload_n C d_B_refresh_48 (n := 49) rfl (i := 2) rfl rfl ?_
            refine fv_ifB_ne C d_B_refresh_49 (tgt := 60) rfl (n := 52) rfl (fun hc49 => ?_) (fun hc49 => ?_)
            · have hcv : nI 1 = fv_b (rf_ch f b (k + 1)) := by rw [hs, hc49]; rfl
              refine fv_iconst C d_B_refresh_60 (n := 61) rfl kI_1 ?_
              refine fv_goto C d_B_refresh_61 (tgt := 65) rfl ?_
              rw [hcv]
              refine fv_istore_n C d_B_refresh_65 (n := 66) rfl (i := 2) rfl (by decide) (L' := [_, _, _, _, _]) rfl ?_
              refine fv_aload_n C d_B_refresh_66 (n := 67) rfl (i := 1) rfl rfl ?_
              refine fv_iload_n C d_B_refresh_67 (n := 68) rfl (i := 3) rfl rfl ?_
              refine fv_iload C d_B_refresh_68 (n := 70) rfl rfl ?_
              refine fv_iastN C (t0 := 0) rfl d_B_refresh_70 (n := 71) rfl hc1 hBs (by omega) (by decide) ?_
              rw [rf_upd]
              refine fv_iincN C d_B_refresh_71 (n := 74) rfl rfl (by decide) (L' := [_, _, _, _, _]) rfl ?_
              refine fv_goto C d_B_refresh_74 (tgt := 4) rfl ?_
              refine fv_drop 4 (L' := [_, _, _, _, _]) rfl ?_
              exact ih (k + 1) _ (by omega) (va_up_self _ _ _) (hf1.tr (fr_up (by omega) (by omega)))
            · refine fv_aload_n C d_B_refresh_52 (n := 53) rfl (i := 1) rfl rfl ?_
              refine fv_iload_n C d_B_refresh_53 (n := 54) rfl (i := 3) rfl rfl ?_
              refine fv_ialdN C (t0 := 0) rfl d_B_refresh_54 (n := 55) rfl hc1 (by omega) (by decide) ?_
              refine fv_iload C d_B_refresh_55 (n := 57) rfl rfl ?_
              refine fv_icmp_eq C d_B_refresh_57 (tgt := 64) rfl (n := 60) rfl (fun hc57 => ?_) (fun hc57 => ?_)
              · simp only [Nat.lt_irrefl, if_false] at hc57
                have hcv : nI 0 = fv_b (rf_ch f b (k + 1)) := by rw [hs, hc49, hc57]; simp; rfl
                refine fv_iconst C d_B_refresh_64 (n := 65) rfl kI_0 ?_
                rw [hcv]
                refine fv_istore_n C d_B_refresh_65 (n := 66) rfl (i := 2) rfl (by decide) (L' := [_, _, _, _, _]) rfl ?_
                refine fv_aload_n C d_B_refresh_66 (n := 67) rfl (i := 1) rfl rfl ?_
                refine fv_iload_n C d_B_refresh_67 (n := 68) rfl (i := 3) rfl rfl ?_
                refine fv_iload C d_B_refresh_68 (n := 70) rfl rfl ?_
                refine fv_iastN C (t0 := 0) rfl d_B_refresh_70 (n := 71) rfl hc1 hBs (by omega) (by decide) ?_
                rw [rf_upd]
                refine fv_iincN C d_B_refresh_71 (n := 74) rfl rfl (by decide) (L' := [_, _, _, _, _]) rfl ?_
                refine fv_goto C d_B_refresh_74 (tgt := 4) rfl ?_
                refine fv_drop 4 (L' := [_, _, _, _, _]) rfl ?_
                exact ih (k + 1) _ (by omega) (va_up_self _ _ _) (hf1.tr (fr_up (by omega) (by omega)))
              · simp only [Nat.lt_irrefl, if_false] at hc57
                have hcv : nI 1 = fv_b (rf_ch f b (k + 1)) := by rw [hs, hc49]; simp [hc57]; rfl
                refine fv_iconst C d_B_refresh_60 (n := 61) rfl kI_1 ?_
                refine fv_goto C d_B_refresh_61 (tgt := 65) rfl ?_
                rw [hcv]
                refine fv_istore_n C d_B_refresh_65 (n := 66) rfl (i := 2) rfl (by decide) (L' := [_, _, _, _, _]) rfl ?_
                refine fv_aload_n C d_B_refresh_66 (n := 67) rfl (i := 1) rfl rfl ?_
                refine fv_iload_n C d_B_refresh_67 (n := 68) rfl (i := 3) rfl rfl ?_
                refine fv_iload C d_B_refresh_68 (n := 70) rfl rfl ?_
                refine fv_iastN C (t0 := 0) rfl d_B_refresh_70 (n := 71) rfl hc1 hBs (by omega) (by decide) ?_
                rw [rf_upd]
                refine fv_iincN C d_B_refresh_71 (n := 74) rfl rfl (by decide) (L' := [_, _, _, _, _]) rfl ?_
                refine fv_goto C d_B_refresh_74 (tgt := 4) rfl ?_
                refine fv_drop 4 (L' := [_, _, _, _, _]) rfl ?_
                exact ih (k + 1) _ (by omega) (va_up_self _ _ _) (hf1.tr (fr_up (by omega) (by omega)))
  refine fv_iconst C d_B_refresh_0 (n := 1) rfl kI_0 ?_
  refine fv_istore_n C d_B_refresh_1 (n := 2) rfl (i := 2) rfl (by decide) (L' := [_, _, _, _, _]) rfl ?_
  refine fv_iconst C d_B_refresh_2 (n := 3) rfl kI_0 ?_
  refine fv_istore_n C d_B_refresh_3 (n := 4) rfl (i := 3) rfl (by decide) (L' := [_, _, _, _, _]) rfl ?_
  refine fv_eqL ?_ (loop 19 0 h (by omega) (by simpa using hc) (fr_rf h c 1))
  rfl
end BK3
end
section
/-! what the arrays become -/
theorem bo_arr_ins {l : List bo_O} {o : bo_O} (hs : o.2.1 = 0 ∨ o.2.1 = 1) : bo_arr (l ++ [o]) = (bo_arr l).take (bo_st0 l o.2.1 + bo_pl o.2.1 o (bo_srt o.2.1 l)) ++ o :: (bo_arr l).drop (bo_st0 l o.2.1 + bo_pl o.2.1 o (bo_srt o.2.1 l)) := by
  unfold bo_arr
  rw [bo_srt_app, bo_srt_app]
  rcases hs with h | h
  · have hp := bo_pl_le (s := 0) (o := o) (l := bo_srt 0 l)
    rw [h, if_pos rfl, if_neg (by decide)]
    simp only [bo_st0, if_true, Nat.zero_add]
    rw [List.take_append_of_le_length hp, List.drop_append_of_le_length hp, bo_ins_pl]
    simp
  · rw [h, if_neg (by decide), if_pos rfl]
    simp only [bo_st0, Nat.one_ne_zero, if_false]
    rw [List.take_append, List.drop_append, bo_ins_pl]
    simp [List.take_of_length_le, List.drop_eq_nil_of_le]
theorem bo_srt0_ins {l : List bo_O} {o : bo_O} (hs : o.2.1 = 0 ∨ o.2.1 = 1) : (bo_srt 0 (l ++ [o])).length = (bo_srt 0 l).length + (if o.2.1 = 0 then 1 else 0) := by
  rw [bo_srt_app]
  split
  · rw [bo_ins_len]
  · rfl
theorem bo_del_len {a : List bo_O} {k : Nat} {o : bo_O} (hn : (a.map (fun o => o.1)).Nodup) (hk : a[k]? = some o) : (bo_del a o.1).length = a.length - 1 := by
  have hl := (List.getElem?_eq_some_iff.mp hk).1
  rw [← bo_erase_del hn hk, List.length_eraseIdx]
  simp [hl]
theorem bo_srt_del (s : Nat) (l : List bo_O) (x : Int32) : bo_srt s (bo_del l x) = bo_del (bo_srt s l) x := bo_srt_filter s _ l
theorem bo_srt_siz (s : Nat) (l : List bo_O) (x v : Int32) : bo_srt s (bo_siz l x v) = bo_siz (bo_srt s l) x v := by
  unfold bo_siz
  apply bo_srt_map
  · intro o
    split <;> rfl
  · intro o
    split <;> rfl
theorem bo_siz_len (l : List bo_O) (x v : Int32) : (bo_siz l x v).length = l.length := by unfold bo_siz; rw [List.length_map]
theorem bo_del_none {a : List bo_O} {x : Int32} (h : ∀ o ∈ a, o.1 ≠ x) : bo_del a x = a := by
  unfold bo_del
  apply List.filter_eq_self.mpr
  intro o ho
  simp [h o ho]
/-- deleting the k-th of the arrays: how many buys are left -/
theorem bo_buys_del {l : List bo_O} {k : Nat} {o : bo_O} (hw : bo_wf l) (hk : (bo_arr l)[k]? = some o) : (bo_srt 0 (bo_del l o.1)).length = if k < (bo_srt 0 l).length then (bo_srt 0 l).length - 1 else (bo_srt 0 l).length := by
  rw [bo_srt_del]
  have hnd := bo_arr_nodup hw
  have hn0 : ((bo_srt 0 l).map (fun o => o.1)).Nodup := by
    unfold bo_arr at hnd
    rw [List.map_append] at hnd
    exact (List.nodup_append.mp hnd).1
  by_cases h : k < (bo_srt 0 l).length
  · rw [if_pos h]
    rw [bo_arr_lo h] at hk
    exact bo_del_len hn0 hk
  · rw [if_neg h]
    obtain ⟨j, rfl⟩ : ∃ j, k = (bo_srt 0 l).length + j := ⟨k - (bo_srt 0 l).length, by omega⟩
    rw [bo_arr_hi] at hk
    rw [bo_del_none]
    intro p hp e
    unfold bo_arr at hnd
    rw [List.map_append] at hnd
    exact (List.nodup_append.mp hnd).2.2 p.1 (List.mem_map.mpr ⟨p, hp, rfl⟩) o.1 (List.mem_map.mpr ⟨o, List.mem_of_getElem? hk, rfl⟩) e
theorem bo_len_del {l : List bo_O} {k : Nat} {o : bo_O} (hw : bo_wf l) (hk : (bo_arr l)[k]? = some o) : (bo_del l o.1).length = l.length - 1 := by
  have h1 := bo_del_len (bo_arr_nodup hw) hk
  rw [← bo_arr_del, bo_arr_len (bo_wf_del hw).2.1, bo_arr_len hw.2.1] at h1
  exact h1
end
section
/-! Book: what changes it -/
section BK4
variable {l : Launch} {D : va_G} {dA : Nat → ClassId} {Bs sz : Nat} {h : fv_H} {a : Nat} {b : bo_B} {nn e : Nat} {ev : bo_E}
theorem ct_B_insert (hE : EV h e ev) (he : e < a ∨ a + 4 ≤ e) (hBs : Bs ≤ a) (h0 : ev.1 = 0) (hew : bo_ewf ev) (hok : bo_ok b ev.1 ev.2.2.2.1 ev.2.2.2.2.2.2 = true) (hL : BL dA h a b nn) : fv_T l (fk D dA) Bs WA m_B_insert [.ref a, .ref e] sz h 0 0 (fp_v sz (fun h' => BL dA h' a (bo_apl b ev) nn ∧ fr h h' a 4)) := by
  obtain ⟨so, ins, num, id, s, pr, v⟩ := ev
  dsimp only at h0 hok
  subst h0
  have hE : h e = some (.inr (2, [.int (nI 0), .int (nI ins), .int (nI num), .int id, .int (nI s), .int pr, .int v])) := hE
  have hwf := bo_wf_apl hL.wf hew hok
  obtain ⟨ids, pri, siz, hB, hA, hw⟩ := hL
  have hlt : b.1.length < 24 := by
    simp only [bo_ok, if_true, Bool.and_eq_true, decide_eq_true_eq] at hok
    exact hok.2
  have hs1 : s = 0 ∨ s = 1 := hew.2.2.1
  have hs : s < 2 := by omega
  have he0 := bo_en_st hw.2.1 hs
  have he2 := bo_en_le hw.2.1 hs
  have hap : bo_apl b (0, ins, num, id, s, pr, v) = (b.1 ++ [(id, s, pr, v)], b.2) := by simp [bo_apl]
  obtain ⟨sl, hsl⟩ : ∃ sl, sl = bo_srt s b.1 := ⟨_, rfl⟩
  rw [← hsl] at he0
  have hG := fr_rf h a 4
  refine fv_of (L := [_, _, _, _, _]) (by decide +kernel) rfl (Nat.le_of_ble_eq_true rfl) rfl ?_
  intro X hX C
  subst hX
  have fin : ∀ t, bo_pl s (id, s, pr, v) sl = t → t ≤ sl.length → fv_V (fk D dA) Bs X 5 (fv_MQ (fk D dA) Bs X (fp_v sz (fun h' => BL dA h' a (bo_apl b (0, ins, num, id, s, pr, v)) nn ∧ fr h h' a 4)) 0 0) 87 [some (.ref a), some (.ref e), some (.int (fv_b (decide (s = 0)))), some (.int (nI (bo_st0 b.1 s + t))), some (.int (nI (bo_en0 b.1 s)))] [] sz h 0 0 := by
    intro t ht htl
    have hA2 := bo_AR_ins (o := (id, s, pr, v)) (p := bo_st0 b.1 s + t) hA (by rw [bo_arr_len hw.2.1]; omega)
    rw [bo_arr_len hw.2.1] at hA2
    have hai := bo_arr_ins (l := b.1) (o := (id, s, pr, v)) hs1
    dsimp only at hai hA2
    rw [← hsl, ht] at hai
    rw [← hai] at hA2
    have hb0 := bo_srt0_ins (l := b.1) (o := (id, s, pr, v)) hs1
    dsimp only at hb0
    refine fv_aload_n C d_B_insert_87 (n := 88) rfl (i := 0) rfl rfl ?_
    refine fv_get C (fl_B_9 D dA) d_B_insert_88 (n := 91) rfl hB.1 rfl ?_
    refine fv_iload_n C d_B_insert_91 (n := 92) rfl (i := 3) rfl rfl ?_
    refine fv_aload_n C d_B_insert_92 (n := 93) rfl (i := 0) rfl rfl ?_
    refine fv_get C (fl_B_9 D dA) d_B_insert_93 (n := 96) rfl hB.1 rfl ?_
    refine fv_iload_n C d_B_insert_96 (n := 97) rfl (i := 3) rfl rfl ?_
    refine fv_iconst C d_B_insert_97 (n := 98) rfl kI_1 ?_
    first | refine fv_iaddN C d_B_insert_98 (n := 99) rfl ?_ | refine fv_iadd C d_B_insert_98 (n := 99) rfl ?_
    refine fv_aload_n C d_B_insert_99 (n := 100) rfl (i := 0) rfl rfl ?_
    refine fv_get C (fl_B_25 D dA) d_B_insert_100 (n := 103) rfl hB.1 rfl ?_
    refine fv_iload_n C d_B_insert_103 (n := 104) rfl (i := 3) rfl rfl ?_
    refine fv_isubN C (by omega) d_B_insert_104 (n := 105) rfl ?_
    refine bk_cids C nl_B_74 d_B_insert_105 (n := 108) rfl rfl hB.2.1 hB hBs (by omega) (by omega) (by decide) (Nat.le_of_ble_eq_true rfl) (Nat.le_of_ble_eq_true rfl) (fun h1 hB hF => ?_)
    have hE := (hF.at (by omega)).trans hE
    have hG := hG.tr hF
    refine fv_aload_n C d_B_insert_108 (n := 109) rfl (i := 0) rfl rfl ?_
    refine fv_get C (fl_B_15 D dA) d_B_insert_109 (n := 112) rfl hB.1 rfl ?_
    refine fv_iload_n C d_B_insert_112 (n := 113) rfl (i := 3) rfl rfl ?_
    refine fv_aload_n C d_B_insert_113 (n := 114) rfl (i := 0) rfl rfl ?_
    refine fv_get C (fl_B_15 D dA) d_B_insert_114 (n := 117) rfl hB.1 rfl ?_
    refine fv_iload_n C d_B_insert_117 (n := 118) rfl (i := 3) rfl rfl ?_
    refine fv_iconst C d_B_insert_118 (n := 119) rfl kI_1 ?_
    first | refine fv_iaddN C d_B_insert_119 (n := 120) rfl ?_ | refine fv_iadd C d_B_insert_119 (n := 120) rfl ?_
    refine fv_aload_n C d_B_insert_120 (n := 121) rfl (i := 0) rfl rfl ?_
    refine fv_get C (fl_B_25 D dA) d_B_insert_121 (n := 124) rfl hB.1 rfl ?_
    refine fv_iload_n C d_B_insert_124 (n := 125) rfl (i := 3) rfl rfl ?_
    refine fv_isubN C (by omega) d_B_insert_125 (n := 126) rfl ?_
    refine bk_cpri C nl_B_74 d_B_insert_126 (n := 129) rfl rfl hB.2.2.1 hB hBs (by omega) (by omega) (by decide) (Nat.le_of_ble_eq_true rfl) (Nat.le_of_ble_eq_true rfl) (fun h1 hB hF => ?_)
    have hE := (hF.at (by omega)).trans hE
    have hG := hG.tr hF
    refine fv_aload_n C d_B_insert_129 (n := 130) rfl (i := 0) rfl rfl ?_
    refine fv_get C (fl_B_18 D dA) d_B_insert_130 (n := 133) rfl hB.1 rfl ?_
    refine fv_iload_n C d_B_insert_133 (n := 134) rfl (i := 3) rfl rfl ?_
    refine fv_aload_n C d_B_insert_134 (n := 135) rfl (i := 0) rfl rfl ?_
    refine fv_get C (fl_B_18 D dA) d_B_insert_135 (n := 138) rfl hB.1 rfl ?_
    refine fv_iload_n C d_B_insert_138 (n := 139) rfl (i := 3) rfl rfl ?_
    refine fv_iconst C d_B_insert_139 (n := 140) rfl kI_1 ?_
    first | refine fv_iaddN C d_B_insert_140 (n := 141) rfl ?_ | refine fv_iadd C d_B_insert_140 (n := 141) rfl ?_
    refine fv_aload_n C d_B_insert_141 (n := 142) rfl (i := 0) rfl rfl ?_
    refine fv_get C (fl_B_25 D dA) d_B_insert_142 (n := 145) rfl hB.1 rfl ?_
    refine fv_iload_n C d_B_insert_145 (n := 146) rfl (i := 3) rfl rfl ?_
    refine fv_isubN C (by omega) d_B_insert_146 (n := 147) rfl ?_
    refine bk_csiz C nl_B_74 d_B_insert_147 (n := 150) rfl rfl hB.2.2.2 hB hBs (by omega) (by omega) (by decide) (Nat.le_of_ble_eq_true rfl) (Nat.le_of_ble_eq_true rfl) (fun h1 hB hF => ?_)
    have hE := (hF.at (by omega)).trans hE
    have hG := hG.tr hF
    refine fv_aload_n C d_B_insert_150 (n := 151) rfl (i := 0) rfl rfl ?_
    refine fv_get C (fl_B_9 D dA) d_B_insert_151 (n := 154) rfl hB.1 rfl ?_
    refine fv_iload_n C d_B_insert_154 (n := 155) rfl (i := 3) rfl rfl ?_
    refine fv_aload_n C d_B_insert_155 (n := 156) rfl (i := 1) rfl rfl ?_
    refine fv_get C (fl_B_55 D dA) d_B_insert_156 (n := 159) rfl hE rfl ?_
    refine bk_sids C d_B_insert_159 (n := 160) rfl hB hBs (by omega) (fun h1 hB hF => ?_)
    have hE := (hF.at (by omega)).trans hE
    have hG := hG.tr hF
    refine fv_aload_n C d_B_insert_160 (n := 161) rfl (i := 0) rfl rfl ?_
    refine fv_get C (fl_B_15 D dA) d_B_insert_161 (n := 164) rfl hB.1 rfl ?_
    refine fv_iload_n C d_B_insert_164 (n := 165) rfl (i := 3) rfl rfl ?_
    refine fv_aload_n C d_B_insert_165 (n := 166) rfl (i := 1) rfl rfl ?_
    refine fv_get C (fl_B_71 D dA) d_B_insert_166 (n := 169) rfl hE rfl ?_
    refine bk_spri C d_B_insert_169 (n := 170) rfl hB hBs (by omega) (fun h1 hB hF => ?_)
    have hE := (hF.at (by omega)).trans hE
    have hG := hG.tr hF
    refine fv_aload_n C d_B_insert_170 (n := 171) rfl (i := 0) rfl rfl ?_
    refine fv_get C (fl_B_18 D dA) d_B_insert_171 (n := 174) rfl hB.1 rfl ?_
    refine fv_iload_n C d_B_insert_174 (n := 175) rfl (i := 3) rfl rfl ?_
    refine fv_aload_n C d_B_insert_175 (n := 176) rfl (i := 1) rfl rfl ?_
    refine fv_get C (fl_B_52 D dA) d_B_insert_176 (n := 179) rfl hE rfl ?_
    refine bk_ssiz C d_B_insert_179 (n := 180) rfl hB hBs (by omega) (fun h1 hB hF => ?_)
    have hE := (hF.at (by omega)).trans hE
    have hG := hG.tr hF
    refine fv_aload_n C d_B_insert_180 (n := 181) rfl (i := 0) rfl rfl ?_
    refine fv_dup C d_B_insert_181 (n := 182) rfl rfl ?_
    refine fv_get C (fl_B_25 D dA) d_B_insert_182 (n := 185) rfl hB.1 rfl ?_
    refine fv_iconst C d_B_insert_185 (n := 186) rfl kI_1 ?_
    first | refine fv_iaddN C d_B_insert_186 (n := 187) rfl ?_ | refine fv_iadd C d_B_insert_186 (n := 187) rfl ?_
    refine bk_ptot C (fl_B_25 D dA) d_B_insert_187 (n := 190) rfl hB hBs (fun h1 hB hF => ?_)
    have hE := (hF.at (by omega)).trans hE
    have hG := hG.tr hF
    refine fv_iload_n C d_B_insert_190 (n := 191) rfl (i := 2) rfl rfl ?_
    refine fv_ifB_eq C d_B_insert_191 (tgt := 204) rfl (n := 194) rfl (fun hc191 => ?_) (fun hc191 => ?_)
    · have h9 : ¬ s = 0 := by simpa using hc191
      rw [if_neg h9] at hb0
      refine fv_vret C rfl d_B_insert_204 (Nat.le_refl _) (Nat.le_refl _) ?_
      refine ⟨rfl, rfl, ⟨_, _, _, ?_, by rw [hap]; exact hA2, hwf⟩, hG⟩
      rw [hap]
      dsimp only
      rw [hb0, List.length_append]
      exact hB
    · have h9 : s = 0 := by simpa using hc191
      rw [if_pos h9] at hb0
      refine fv_aload_n C d_B_insert_194 (n := 195) rfl (i := 0) rfl rfl ?_
      refine fv_dup C d_B_insert_195 (n := 196) rfl rfl ?_
      refine fv_get C (fl_B_21 D dA) d_B_insert_196 (n := 199) rfl hB.1 rfl ?_
      refine fv_iconst C d_B_insert_199 (n := 200) rfl kI_1 ?_
      first | refine fv_iaddN C d_B_insert_200 (n := 201) rfl ?_ | refine fv_iadd C d_B_insert_200 (n := 201) rfl ?_
      refine bk_pbuys C (fl_B_21 D dA) d_B_insert_201 (n := 204) rfl hB hBs (fun h1 hB hF => ?_)
      have hE := (hF.at (by omega)).trans hE
      have hG := hG.tr hF
      refine fv_vret C rfl d_B_insert_204 (Nat.le_refl _) (Nat.le_refl _) ?_
      refine ⟨rfl, rfl, ⟨_, _, _, ?_, by rw [hap]; exact hA2, hwf⟩, hG⟩
      rw [hap]
      dsimp only
      rw [hb0, List.length_append]
      exact hB
  have loop : ∀ k t, t + k = sl.length → (∀ i o, i < t → sl[i]? = some o → bo_ge s o (id, s, pr, v) = true) → fv_V (fk D dA) Bs X 5 (fv_MQ (fk D dA) Bs X (fp_v sz (fun h' => BL dA h' a (bo_apl b (0, ins, num, id, s, pr, v)) nn ∧ fr h h' a 4)) 0 0) 42 [some (.ref a), some (.ref e), some (.int (fv_b (decide (s = 0)))), some (.int (nI (bo_st0 b.1 s + t))), some (.int (nI (bo_en0 b.1 s)))] [] sz h 0 0 := by
    intro k
    induction k with
    | zero =>
      intro t ht hge
      refine fv_iload_n C d_B_insert_42 (n := 43) rfl (i := 3) rfl rfl ?_
      refine fv_iload C d_B_insert_43 (n := 45) rfl rfl ?_
      refine fv_icmpN_ge C (by omega) (by omega) d_B_insert_45 (tgt := 87) rfl (n := 48) rfl (fun hc45 => ?_) (fun hc45 => ?_)
      · refine fin t (bo_pl_unique (by omega) hge (fun o ho => ?_)) (by omega)
        rw [List.getElem?_eq_none_iff.mpr (by omega)] at ho
        cases ho
      · exact absurd hc45 (by omega)
    | succ k ih =>
      intro t ht hge
      obtain ⟨o, ho⟩ : ∃ o, sl[t]? = some o := ⟨_, List.getElem?_eq_getElem (by omega)⟩
      have hat : (bo_arr b.1)[bo_st0 b.1 s + t]? = some o := by rw [bo_arr_side hs (by rw [← hsl]; omega), ← hsl]; exact ho
      obtain ⟨-, hp, -⟩ := hA _ _ hat
      have stop : ¬ bo_ge s o (id, s, pr, v) = true → bo_pl s (id, s, pr, v) sl = t := fun hn => bo_pl_unique (by omega) hge (fun o2 ho2 => by cases ho.symm.trans ho2; exact hn)
      have more : bo_ge s o (id, s, pr, v) = true → ∀ i o, i < t + 1 → sl[i]? = some o → bo_ge s o (id, s, pr, v) = true := by
        intro hn i o2 hi ho2
        by_cases h9 : i = t
        · subst h9
          cases ho.symm.trans ho2
          exact hn
        · exact hge i o2 (by omega) ho2
      refine fv_iload_n C d_B_insert_42 (n := 43) rfl (i := 3) rfl rfl ?_
      refine fv_iload C d_B_insert_43 (n := 45) rfl rfl ?_
      refine fv_icmpN_ge C (by omega) (by omega) d_B_insert_45 (tgt := 87) rfl (n := 48) rfl (fun hc45 => ?_) (fun hc45 => ?_)
      · exact absurd hc45 (by omega)
      · refine fv_iload_n C d_B_insert_48 (n := 49) rfl (i := 2) rfl rfl ?_
        refine fv_ifB_eq C d_B_insert_49 (tgt := 68) rfl (n := 52) rfl (fun hc49 => ?_) (fun hc49 => ?_)
        · have h9 : ¬ s = 0 := by simpa using hc49
          have hgd : bo_ge s o (id, s, pr, v) = decide (o.2.2.1 ≤ pr) := by unfold bo_ge; rw [if_neg h9]
          refine fv_aload_n C d_B_insert_68 (n := 69) rfl (i := 0) rfl rfl ?_
          refine fv_get C (fl_B_15 D dA) d_B_insert_69 (n := 72) rfl hB.1 rfl ?_
          refine fv_iload_n C d_B_insert_72 (n := 73) rfl (i := 3) rfl rfl ?_
          refine fv_ialdN C (t0 := 0) rfl d_B_insert_73 (n := 74) rfl hB.2.2.1 (by omega) (by decide) ?_
          refine fv_aload_n C d_B_insert_74 (n := 75) rfl (i := 1) rfl rfl ?_
          refine fv_get C (fl_B_71 D dA) d_B_insert_75 (n := 78) rfl hE rfl ?_
          refine fv_icmp_gt C d_B_insert_78 (tgt := 87) rfl (n := 81) rfl (fun hc78 => ?_) (fun hc78 => ?_)
          · rw [hp] at hc78
            have hng : ¬ bo_ge s o (id, s, pr, v) = true := by rw [hgd]; simpa using Int32.not_le.mpr hc78
            exact fin t (stop hng) (by omega)
          · rw [hp] at hc78
            have hyg : bo_ge s o (id, s, pr, v) = true := by rw [hgd]; simpa using Int32.not_lt.mp hc78
            refine fv_iincN C d_B_insert_81 (n := 84) rfl rfl (by decide) (L' := [_, _, _, _, _]) rfl ?_
            refine fv_goto C d_B_insert_84 (tgt := 42) rfl ?_
            exact ih (t + 1) (by omega) (more hyg)
        · have h9 : s = 0 := by simpa using hc49
          have hgd : bo_ge s o (id, s, pr, v) = decide (pr ≤ o.2.2.1) := by unfold bo_ge; rw [if_pos h9]
          refine fv_aload_n C d_B_insert_52 (n := 53) rfl (i := 0) rfl rfl ?_
          refine fv_get C (fl_B_15 D dA) d_B_insert_53 (n := 56) rfl hB.1 rfl ?_
          refine fv_iload_n C d_B_insert_56 (n := 57) rfl (i := 3) rfl rfl ?_
          refine fv_ialdN C (t0 := 0) rfl d_B_insert_57 (n := 58) rfl hB.2.2.1 (by omega) (by decide) ?_
          refine fv_aload_n C d_B_insert_58 (n := 59) rfl (i := 1) rfl rfl ?_
          refine fv_get C (fl_B_71 D dA) d_B_insert_59 (n := 62) rfl hE rfl ?_
          refine fv_icmp_lt C d_B_insert_62 (tgt := 87) rfl (n := 65) rfl (fun hc62 => ?_) (fun hc62 => ?_)
          · rw [hp] at hc62
            have hng : ¬ bo_ge s o (id, s, pr, v) = true := by rw [hgd]; simpa using Int32.not_le.mpr hc62
            exact fin t (stop hng) (by omega)
          · rw [hp] at hc62
            have hyg : bo_ge s o (id, s, pr, v) = true := by rw [hgd]; simpa using Int32.not_lt.mp hc62
            refine fv_goto C d_B_insert_65 (tgt := 81) rfl ?_
            refine fv_iincN C d_B_insert_81 (n := 84) rfl rfl (by decide) (L' := [_, _, _, _, _]) rfl ?_
            refine fv_goto C d_B_insert_84 (tgt := 42) rfl ?_
            exact ih (t + 1) (by omega) (more hyg)
  refine fv_aload_n C d_B_insert_0 (n := 1) rfl (i := 0) rfl rfl ?_
  refine fv_get C (fl_B_25 D dA) d_B_insert_1 (n := 4) rfl hB.1 rfl ?_
  refine fv_bipush C d_B_insert_4 (n := 6) rfl kB_24 ?_
  refine fv_icmpN_lt C (by omega) (by omega) d_B_insert_6 (tgt := 10) rfl (n := 9) rfl (fun hc6 => ?_) (fun hc6 => ?_)
  · refine fv_aload_n C d_B_insert_10 (n := 11) rfl (i := 1) rfl rfl ?_
    refine fv_get C (fl_B_62 D dA) d_B_insert_11 (n := 14) rfl hE rfl ?_
    refine fv_ifN_ne C (by omega) d_B_insert_14 (tgt := 21) rfl (n := 17) rfl (fun hc14 => ?_) (fun hc14 => ?_)
    · have hcv : nI 0 = fv_b (decide (s = 0)) := by simp [hc14]; rfl
      refine fv_iconst C d_B_insert_21 (n := 22) rfl kI_0 ?_
      rw [hcv]
      refine fv_istore_n C d_B_insert_22 (n := 23) rfl (i := 2) rfl (by decide) (L' := [_, _, _, _, _]) rfl ?_
      refine fv_aload_n C d_B_insert_23 (n := 24) rfl (i := 0) rfl rfl ?_
      refine fv_aload_n C d_B_insert_24 (n := 25) rfl (i := 1) rfl rfl ?_
      refine fv_get C (fl_B_62 D dA) d_B_insert_25 (n := 28) rfl hE rfl ?_
      refine fv_callV_r C (ml_B_65 D dA) im_B_startOf se_B_startOf hB.1 rfl (ct_B_start0 hs hB) d_B_insert_28 (n := 31) rfl rfl rfl rfl (Nat.le_of_ble_eq_true rfl) (Nat.le_of_ble_eq_true rfl) (Nat.le_of_ble_eq_true rfl) (Nat.le_refl _) (Nat.le_refl _) ?_
      refine fv_istore_n C d_B_insert_31 (n := 32) rfl (i := 3) rfl (by decide) (L' := [_, _, _, _, _]) rfl ?_
      refine fv_aload_n C d_B_insert_32 (n := 33) rfl (i := 0) rfl rfl ?_
      refine fv_aload_n C d_B_insert_33 (n := 34) rfl (i := 1) rfl rfl ?_
      refine fv_get C (fl_B_62 D dA) d_B_insert_34 (n := 37) rfl hE rfl ?_
      refine fv_callV_r C (ml_B_68 D dA) im_B_endOf se_B_endOf hB.1 rfl (ct_B_end0 hs hB) d_B_insert_37 (n := 40) rfl rfl rfl rfl (Nat.le_of_ble_eq_true rfl) (Nat.le_of_ble_eq_true rfl) (Nat.le_of_ble_eq_true rfl) (Nat.le_refl _) (Nat.le_refl _) ?_
      refine fv_istore C d_B_insert_40 (n := 42) rfl (by decide) (L' := [_, _, _, _, _]) rfl ?_
      exact loop sl.length 0 (by omega) (fun i o hi => absurd hi (by omega))
    · have hcv : nI 1 = fv_b (decide (s = 0)) := by simp [hc14]; rfl
      refine fv_iconst C d_B_insert_17 (n := 18) rfl kI_1 ?_
      refine fv_goto C d_B_insert_18 (tgt := 22) rfl ?_
      rw [hcv]
      refine fv_istore_n C d_B_insert_22 (n := 23) rfl (i := 2) rfl (by decide) (L' := [_, _, _, _, _]) rfl ?_
      refine fv_aload_n C d_B_insert_23 (n := 24) rfl (i := 0) rfl rfl ?_
      refine fv_aload_n C d_B_insert_24 (n := 25) rfl (i := 1) rfl rfl ?_
      refine fv_get C (fl_B_62 D dA) d_B_insert_25 (n := 28) rfl hE rfl ?_
      refine fv_callV_r C (ml_B_65 D dA) im_B_startOf se_B_startOf hB.1 rfl (ct_B_start0 hs hB) d_B_insert_28 (n := 31) rfl rfl rfl rfl (Nat.le_of_ble_eq_true rfl) (Nat.le_of_ble_eq_true rfl) (Nat.le_of_ble_eq_true rfl) (Nat.le_refl _) (Nat.le_refl _) ?_
      refine fv_istore_n C d_B_insert_31 (n := 32) rfl (i := 3) rfl (by decide) (L' := [_, _, _, _, _]) rfl ?_
      refine fv_aload_n C d_B_insert_32 (n := 33) rfl (i := 0) rfl rfl ?_
      refine fv_aload_n C d_B_insert_33 (n := 34) rfl (i := 1) rfl rfl ?_
      refine fv_get C (fl_B_62 D dA) d_B_insert_34 (n := 37) rfl hE rfl ?_
      refine fv_callV_r C (ml_B_68 D dA) im_B_endOf se_B_endOf hB.1 rfl (ct_B_end0 hs hB) d_B_insert_37 (n := 40) rfl rfl rfl rfl (Nat.le_of_ble_eq_true rfl) (Nat.le_of_ble_eq_true rfl) (Nat.le_of_ble_eq_true rfl) (Nat.le_refl _) (Nat.le_refl _) ?_
      refine fv_istore C d_B_insert_40 (n := 42) rfl (by decide) (L' := [_, _, _, _, _]) rfl ?_
      exact loop sl.length 0 (by omega) (fun i o hi => absurd hi (by omega))
  · exact absurd hc6 (by omega)
def bk_left (z : Int32) (ev : bo_E) : Int32 := if ev.1 = 1 then ev.2.2.2.2.2.2 else if ev.1 = 2 then z - ev.2.2.2.2.2.2 else 0
theorem ct_B_sizeLeft {z : Int32} (hE : EV h e ev) (h13 : ev.1 = 1 ∨ ev.1 = 2 ∨ ev.1 = 3) : fv_T l (fk D dA) Bs WA m_B_sizeLeft [.int z, .ref e] sz h 0 0 (fp_r (.int (bk_left z ev)) sz h) := by
  obtain ⟨so, ins, num, id, s, pr, v⟩ := ev
  dsimp only at h13
  have hE : h e = some (.inr (2, [.int (nI so), .int (nI ins), .int (nI num), .int id, .int (nI s), .int pr, .int v])) := hE
  refine fv_of (L := [_, _]) (by decide +kernel) rfl (Nat.le_of_ble_eq_true rfl) rfl ?_
  intro X hX C
  subst hX
  refine fv_aload_n C d_B_sizeLeft_0 (n := 1) rfl (i := 1) rfl rfl ?_
  refine fv_get C (fl_B_43 D dA) d_B_sizeLeft_1 (n := 4) rfl hE rfl ?_
  rcases h13 with rfl | rfl | rfl
  · refine fv_lookup C d_B_sizeLeft_4 (by decide +kernel) (off := 28) (by decide +kernel) (tgt := 32) rfl ?_
    refine fv_aload_n C d_B_sizeLeft_32 (n := 33) rfl (i := 1) rfl rfl ?_
    refine fv_get C (fl_B_52 D dA) d_B_sizeLeft_33 (n := 36) rfl hE rfl ?_
    refine fv_iret C rfl d_B_sizeLeft_36 (Nat.le_refl _) (Nat.le_refl _) ?_
    exact ⟨rfl, rfl, rfl⟩
  · refine fv_lookup C d_B_sizeLeft_4 (by decide +kernel) (off := 33) (by decide +kernel) (tgt := 37) rfl ?_
    refine fv_iload_n C d_B_sizeLeft_37 (n := 38) rfl (i := 0) rfl rfl ?_
    refine fv_aload_n C d_B_sizeLeft_38 (n := 39) rfl (i := 1) rfl rfl ?_
    refine fv_get C (fl_B_52 D dA) d_B_sizeLeft_39 (n := 42) rfl hE rfl ?_
    refine fv_isub C d_B_sizeLeft_42 (n := 43) rfl ?_
    refine fv_iret C rfl d_B_sizeLeft_43 (Nat.le_refl _) (Nat.le_refl _) ?_
    exact ⟨rfl, rfl, rfl⟩
  · refine fv_lookup C d_B_sizeLeft_4 (by decide +kernel) (off := 40) (by decide +kernel) (tgt := 44) rfl ?_
    refine fv_iconst C d_B_sizeLeft_44 (n := 45) rfl kI_0 ?_
    refine fv_iret C rfl d_B_sizeLeft_45 (Nat.le_refl _) (Nat.le_refl _) ?_
    exact ⟨rfl, rfl, rfl⟩
theorem bk_shrink {ev : bo_E} {o : bo_O} (h13 : ev.1 = 1 ∨ ev.1 = 2 ∨ ev.1 = 3) (hew : bo_ewf ev) (hw : bo_wf b.1) (hok : bo_ok b ev.1 ev.2.2.2.1 ev.2.2.2.2.2.2 = true) (hf : bo_fi b.1 ev.2.2.2.1 = some o) :
    (0 < bk_left o.2.2.2 ev ∧ bo_apl b ev = (bo_siz b.1 o.1 (bk_left o.2.2.2 ev), b.2)) ∨ (bk_left o.2.2.2 ev = 0 ∧ bo_apl b ev = (bo_del b.1 o.1, b.2)) := by
  obtain ⟨so, ins, num, id, s, pr, v⟩ := ev
  dsimp only at h13 hok hf
  obtain ⟨-, -, -, hpos⟩ := hew
  dsimp only at hpos
  obtain ⟨hm, hid⟩ := bo_fi_some hf
  have hsz : bo_szo b.1 id = o.2.2.2 := by simp [bo_szo, hf]
  rcases h13 with rfl | rfl | rfl
  · exact Or.inl ⟨by simpa [bk_left] using hpos (by decide), by simp [bo_apl, bk_left, hid]⟩
  · simp [bo_ok, hf] at hok
    by_cases hz : o.2.2.2 = v
    · refine Or.inr ⟨by simp [bk_left, hz, Int32.sub_self], ?_⟩
      simp [bo_apl, hsz, hz, hid]
    · refine Or.inl ⟨?_, ?_⟩
      · simp only [bk_left]
        exact bo_sub_pos (hw.2.2.1 o hm) (hpos (by decide)) hok.2 hz
      · simp [bo_apl, hsz, hz, hid, bk_left]
  · exact Or.inr ⟨by simp [bk_left], by simp [bo_apl, hid]⟩
theorem ct_B_shrink {k : Nat} {o : bo_O} (hE : EV h e ev) (he : e < a ∨ a + 4 ≤ e) (hBs : Bs ≤ a) (h13 : ev.1 = 1 ∨ ev.1 = 2 ∨ ev.1 = 3) (hew : bo_ewf ev) (hok : bo_ok b ev.1 ev.2.2.2.1 ev.2.2.2.2.2.2 = true) (hk : (bo_arr b.1)[k]? = some o) (hf : bo_fi b.1 ev.2.2.2.1 = some o) (hL : BL dA h a b nn) : fv_T l (fk D dA) Bs WA m_B_shrink [.ref a, .int (nI k), .ref e] sz h 0 0 (fp_v sz (fun h' => BL dA h' a (bo_apl b ev) nn ∧ fr h h' a 4)) := by
  have hwf := bo_wf_apl hL.wf hew hok
  obtain ⟨ids, pri, siz, hB, hA, hw⟩ := hL
  have hkl : k < b.1.length := by
    have := (List.getElem?_eq_some_iff.mp hk).1
    rwa [bo_arr_len hw.2.1] at this
  have h24 := hw.2.2.2
  have hkm := nI_nm1 (k := k) (by omega)
  obtain ⟨-, -, hz⟩ := hA k o hk
  have hcs := bk_shrink h13 hew hw hok hf
  have hbl := bo_len_sum hw.2.1
  have hnd := bo_arr_nodup hw
  have hG := fr_rf h a 4
  refine fv_of (L := [_, _, _, _]) (by decide +kernel) rfl (Nat.le_of_ble_eq_true rfl) rfl ?_
  intro X hX C
  subst hX
  rcases hcs with ⟨hpos, hap⟩ | ⟨hzero, hap⟩
  · refine fv_iload_n C d_B_shrink_0 (n := 1) rfl (i := 1) rfl rfl ?_
    refine fv_iconst C d_B_shrink_1 (n := 2) rfl kI_m1 ?_
    refine fv_icmp_ne C d_B_shrink_2 (tgt := 6) rfl (n := 5) rfl (fun hc2 => ?_) (fun hc2 => ?_)
    · refine fv_aload_n C d_B_shrink_6 (n := 7) rfl (i := 0) rfl rfl ?_
      refine fv_get C (fl_B_18 D dA) d_B_shrink_7 (n := 10) rfl hB.1 rfl ?_
      refine fv_iload_n C d_B_shrink_10 (n := 11) rfl (i := 1) rfl rfl ?_
      refine fv_ialdN C (t0 := 0) rfl d_B_shrink_11 (n := 12) rfl hB.2.2.2 (by omega) (by decide) ?_
      refine fv_aload_n C d_B_shrink_12 (n := 13) rfl (i := 2) rfl rfl ?_
      refine fv_callS_r C (ml_B_80 D dA) sm_B_sizeLeft (ct_B_sizeLeft hE h13) d_B_shrink_13 (n := 16) rfl rfl rfl rfl (Nat.le_of_ble_eq_true rfl) (Nat.le_of_ble_eq_true rfl) (Nat.le_of_ble_eq_true rfl) (Nat.le_refl _) (Nat.le_refl _) ?_
      refine fv_istore_n C d_B_shrink_16 (n := 17) rfl (i := 3) rfl (by decide) (L' := [_, _, _, _]) rfl ?_
      rw [hz]
      refine fv_iload_n C d_B_shrink_17 (n := 18) rfl (i := 3) rfl rfl ?_
      refine fv_if_le C d_B_shrink_18 (tgt := 29) rfl (n := 21) rfl (fun hc18 => ?_) (fun hc18 => ?_)
      · exact absurd hc18 (Int32.not_le.mpr hpos)
      · refine fv_aload_n C d_B_shrink_21 (n := 22) rfl (i := 0) rfl rfl ?_
        refine fv_get C (fl_B_18 D dA) d_B_shrink_22 (n := 25) rfl hB.1 rfl ?_
        refine fv_iload_n C d_B_shrink_25 (n := 26) rfl (i := 1) rfl rfl ?_
        refine fv_iload_n C d_B_shrink_26 (n := 27) rfl (i := 3) rfl rfl ?_
        refine bk_ssiz C d_B_shrink_27 (n := 28) rfl hB hBs (by omega) (fun h1 hB hF => ?_)
        have hE := (hF.at (by omega)).trans hE
        have hG := hG.tr hF
        refine fv_vret C rfl d_B_shrink_28 (Nat.le_refl _) (Nat.le_refl _) ?_
        have hA2 := bo_AR_set (v := bk_left o.2.2.2 ev) hA hk
        rw [bo_set_siz hnd hk, ← bo_arr_siz] at hA2
        refine ⟨rfl, rfl, ⟨_, _, _, ?_, by rw [hap]; exact hA2, hwf⟩, hG⟩
        rw [hap]
        dsimp only
        rw [bo_srt_siz, bo_siz_len, bo_siz_len]
        exact hB
    · exact absurd hc2 hkm
  · refine fv_iload_n C d_B_shrink_0 (n := 1) rfl (i := 1) rfl rfl ?_
    refine fv_iconst C d_B_shrink_1 (n := 2) rfl kI_m1 ?_
    refine fv_icmp_ne C d_B_shrink_2 (tgt := 6) rfl (n := 5) rfl (fun hc2 => ?_) (fun hc2 => ?_)
    · refine fv_aload_n C d_B_shrink_6 (n := 7) rfl (i := 0) rfl rfl ?_
      refine fv_get C (fl_B_18 D dA) d_B_shrink_7 (n := 10) rfl hB.1 rfl ?_
      refine fv_iload_n C d_B_shrink_10 (n := 11) rfl (i := 1) rfl rfl ?_
      refine fv_ialdN C (t0 := 0) rfl d_B_shrink_11 (n := 12) rfl hB.2.2.2 (by omega) (by decide) ?_
      refine fv_aload_n C d_B_shrink_12 (n := 13) rfl (i := 2) rfl rfl ?_
      refine fv_callS_r C (ml_B_80 D dA) sm_B_sizeLeft (ct_B_sizeLeft hE h13) d_B_shrink_13 (n := 16) rfl rfl rfl rfl (Nat.le_of_ble_eq_true rfl) (Nat.le_of_ble_eq_true rfl) (Nat.le_of_ble_eq_true rfl) (Nat.le_refl _) (Nat.le_refl _) ?_
      refine fv_istore_n C d_B_shrink_16 (n := 17) rfl (i := 3) rfl (by decide) (L' := [_, _, _, _]) rfl ?_
      rw [hz, hzero]
      refine fv_iload_n C d_B_shrink_17 (n := 18) rfl (i := 3) rfl rfl ?_
      refine fv_if_le C d_B_shrink_18 (tgt := 29) rfl (n := 21) rfl (fun hc18 => ?_) (fun hc18 => ?_)
      · refine fv_aload_n C d_B_shrink_29 (n := 30) rfl (i := 0) rfl rfl ?_
        refine fv_dup C d_B_shrink_30 (n := 31) rfl rfl ?_
        refine fv_get C (fl_B_25 D dA) d_B_shrink_31 (n := 34) rfl hB.1 rfl ?_
        refine fv_iconst C d_B_shrink_34 (n := 35) rfl kI_1 ?_
        refine fv_isubN C (by omega) d_B_shrink_35 (n := 36) rfl ?_
        refine bk_ptot C (fl_B_25 D dA) d_B_shrink_36 (n := 39) rfl hB hBs (fun h1 hB hF => ?_)
        have hE := (hF.at (by omega)).trans hE
        have hG := hG.tr hF
        refine fv_iload_n C d_B_shrink_39 (n := 40) rfl (i := 1) rfl rfl ?_
        refine fv_aload_n C d_B_shrink_40 (n := 41) rfl (i := 0) rfl rfl ?_
        refine fv_get C (fl_B_21 D dA) d_B_shrink_41 (n := 44) rfl hB.1 rfl ?_
        refine fv_icmpN_ge C (by omega) (by omega) d_B_shrink_44 (tgt := 57) rfl (n := 47) rfl (fun hc44 => ?_) (fun hc44 => ?_)
        · refine fv_aload_n C d_B_shrink_57 (n := 58) rfl (i := 0) rfl rfl ?_
          refine fv_get C (fl_B_9 D dA) d_B_shrink_58 (n := 61) rfl hB.1 rfl ?_
          refine fv_iload_n C d_B_shrink_61 (n := 62) rfl (i := 1) rfl rfl ?_
          refine fv_iconst C d_B_shrink_62 (n := 63) rfl kI_1 ?_
          first | refine fv_iaddN C d_B_shrink_63 (n := 64) rfl ?_ | refine fv_iadd C d_B_shrink_63 (n := 64) rfl ?_
          refine fv_aload_n C d_B_shrink_64 (n := 65) rfl (i := 0) rfl rfl ?_
          refine fv_get C (fl_B_9 D dA) d_B_shrink_65 (n := 68) rfl hB.1 rfl ?_
          refine fv_iload_n C d_B_shrink_68 (n := 69) rfl (i := 1) rfl rfl ?_
          refine fv_aload_n C d_B_shrink_69 (n := 70) rfl (i := 0) rfl rfl ?_
          refine fv_get C (fl_B_25 D dA) d_B_shrink_70 (n := 73) rfl hB.1 rfl ?_
          refine fv_iload_n C d_B_shrink_73 (n := 74) rfl (i := 1) rfl rfl ?_
          refine fv_isubN C (by omega) d_B_shrink_74 (n := 75) rfl ?_
          refine bk_cids C nl_B_74 d_B_shrink_75 (n := 78) rfl rfl hB.2.1 hB hBs (by omega) (by omega) (by decide) (Nat.le_of_ble_eq_true rfl) (Nat.le_of_ble_eq_true rfl) (fun h1 hB hF => ?_)
          have hE := (hF.at (by omega)).trans hE
          have hG := hG.tr hF
          refine fv_aload_n C d_B_shrink_78 (n := 79) rfl (i := 0) rfl rfl ?_
          refine fv_get C (fl_B_15 D dA) d_B_shrink_79 (n := 82) rfl hB.1 rfl ?_
          refine fv_iload_n C d_B_shrink_82 (n := 83) rfl (i := 1) rfl rfl ?_
          refine fv_iconst C d_B_shrink_83 (n := 84) rfl kI_1 ?_
          first | refine fv_iaddN C d_B_shrink_84 (n := 85) rfl ?_ | refine fv_iadd C d_B_shrink_84 (n := 85) rfl ?_
          refine fv_aload_n C d_B_shrink_85 (n := 86) rfl (i := 0) rfl rfl ?_
          refine fv_get C (fl_B_15 D dA) d_B_shrink_86 (n := 89) rfl hB.1 rfl ?_
          refine fv_iload_n C d_B_shrink_89 (n := 90) rfl (i := 1) rfl rfl ?_
          refine fv_aload_n C d_B_shrink_90 (n := 91) rfl (i := 0) rfl rfl ?_
          refine fv_get C (fl_B_25 D dA) d_B_shrink_91 (n := 94) rfl hB.1 rfl ?_
          refine fv_iload_n C d_B_shrink_94 (n := 95) rfl (i := 1) rfl rfl ?_
          refine fv_isubN C (by omega) d_B_shrink_95 (n := 96) rfl ?_
          refine bk_cpri C nl_B_74 d_B_shrink_96 (n := 99) rfl rfl hB.2.2.1 hB hBs (by omega) (by omega) (by decide) (Nat.le_of_ble_eq_true rfl) (Nat.le_of_ble_eq_true rfl) (fun h1 hB hF => ?_)
          have hE := (hF.at (by omega)).trans hE
          have hG := hG.tr hF
          refine fv_aload_n C d_B_shrink_99 (n := 100) rfl (i := 0) rfl rfl ?_
          refine fv_get C (fl_B_18 D dA) d_B_shrink_100 (n := 103) rfl hB.1 rfl ?_
          refine fv_iload_n C d_B_shrink_103 (n := 104) rfl (i := 1) rfl rfl ?_
          refine fv_iconst C d_B_shrink_104 (n := 105) rfl kI_1 ?_
          first | refine fv_iaddN C d_B_shrink_105 (n := 106) rfl ?_ | refine fv_iadd C d_B_shrink_105 (n := 106) rfl ?_
          refine fv_aload_n C d_B_shrink_106 (n := 107) rfl (i := 0) rfl rfl ?_
          refine fv_get C (fl_B_18 D dA) d_B_shrink_107 (n := 110) rfl hB.1 rfl ?_
          refine fv_iload_n C d_B_shrink_110 (n := 111) rfl (i := 1) rfl rfl ?_
          refine fv_aload_n C d_B_shrink_111 (n := 112) rfl (i := 0) rfl rfl ?_
          refine fv_get C (fl_B_25 D dA) d_B_shrink_112 (n := 115) rfl hB.1 rfl ?_
          refine fv_iload_n C d_B_shrink_115 (n := 116) rfl (i := 1) rfl rfl ?_
          refine fv_isubN C (by omega) d_B_shrink_116 (n := 117) rfl ?_
          refine bk_csiz C nl_B_74 d_B_shrink_117 (n := 120) rfl rfl hB.2.2.2 hB hBs (by omega) (by omega) (by decide) (Nat.le_of_ble_eq_true rfl) (Nat.le_of_ble_eq_true rfl) (fun h1 hB hF => ?_)
          have hE := (hF.at (by omega)).trans hE
          have hG := hG.tr hF
          refine fv_vret C rfl d_B_shrink_120 (Nat.le_refl _) (Nat.le_refl _) ?_
          have hA2 := bo_AR_del hA (k := k) (by rw [bo_arr_len hw.2.1]; exact hkl)
          rw [bo_arr_len hw.2.1, bo_erase_del hnd hk, ← bo_arr_del] at hA2
          refine ⟨rfl, rfl, ⟨_, _, _, ?_, by rw [hap]; exact hA2, hwf⟩, hG⟩
          rw [hap]
          dsimp only
          rw [bo_buys_del hw hk, bo_len_del hw hk]
          first | (rw [if_pos hc44]; exact hB) | (rw [if_neg (by omega)]; exact hB)
        · refine fv_aload_n C d_B_shrink_47 (n := 48) rfl (i := 0) rfl rfl ?_
          refine fv_dup C d_B_shrink_48 (n := 49) rfl rfl ?_
          refine fv_get C (fl_B_21 D dA) d_B_shrink_49 (n := 52) rfl hB.1 rfl ?_
          refine fv_iconst C d_B_shrink_52 (n := 53) rfl kI_1 ?_
          refine fv_isubN C (by omega) d_B_shrink_53 (n := 54) rfl ?_
          refine bk_pbuys C (fl_B_21 D dA) d_B_shrink_54 (n := 57) rfl hB hBs (fun h1 hB hF => ?_)
          have hE := (hF.at (by omega)).trans hE
          have hG := hG.tr hF
          refine fv_aload_n C d_B_shrink_57 (n := 58) rfl (i := 0) rfl rfl ?_
          refine fv_get C (fl_B_9 D dA) d_B_shrink_58 (n := 61) rfl hB.1 rfl ?_
          refine fv_iload_n C d_B_shrink_61 (n := 62) rfl (i := 1) rfl rfl ?_
          refine fv_iconst C d_B_shrink_62 (n := 63) rfl kI_1 ?_
          first | refine fv_iaddN C d_B_shrink_63 (n := 64) rfl ?_ | refine fv_iadd C d_B_shrink_63 (n := 64) rfl ?_
          refine fv_aload_n C d_B_shrink_64 (n := 65) rfl (i := 0) rfl rfl ?_
          refine fv_get C (fl_B_9 D dA) d_B_shrink_65 (n := 68) rfl hB.1 rfl ?_
          refine fv_iload_n C d_B_shrink_68 (n := 69) rfl (i := 1) rfl rfl ?_
          refine fv_aload_n C d_B_shrink_69 (n := 70) rfl (i := 0) rfl rfl ?_
          refine fv_get C (fl_B_25 D dA) d_B_shrink_70 (n := 73) rfl hB.1 rfl ?_
          refine fv_iload_n C d_B_shrink_73 (n := 74) rfl (i := 1) rfl rfl ?_
          refine fv_isubN C (by omega) d_B_shrink_74 (n := 75) rfl ?_
          refine bk_cids C nl_B_74 d_B_shrink_75 (n := 78) rfl rfl hB.2.1 hB hBs (by omega) (by omega) (by decide) (Nat.le_of_ble_eq_true rfl) (Nat.le_of_ble_eq_true rfl) (fun h1 hB hF => ?_)
          have hE := (hF.at (by omega)).trans hE
          have hG := hG.tr hF
          refine fv_aload_n C d_B_shrink_78 (n := 79) rfl (i := 0) rfl rfl ?_
          refine fv_get C (fl_B_15 D dA) d_B_shrink_79 (n := 82) rfl hB.1 rfl ?_
          refine fv_iload_n C d_B_shrink_82 (n := 83) rfl (i := 1) rfl rfl ?_
          refine fv_iconst C d_B_shrink_83 (n := 84) rfl kI_1 ?_
          first | refine fv_iaddN C d_B_shrink_84 (n := 85) rfl ?_ | refine fv_iadd C d_B_shrink_84 (n := 85) rfl ?_
          refine fv_aload_n C d_B_shrink_85 (n := 86) rfl (i := 0) rfl rfl ?_
          refine fv_get C (fl_B_15 D dA) d_B_shrink_86 (n := 89) rfl hB.1 rfl ?_
          refine fv_iload_n C d_B_shrink_89 (n := 90) rfl (i := 1) rfl rfl ?_
          refine fv_aload_n C d_B_shrink_90 (n := 91) rfl (i := 0) rfl rfl ?_
          refine fv_get C (fl_B_25 D dA) d_B_shrink_91 (n := 94) rfl hB.1 rfl ?_
          refine fv_iload_n C d_B_shrink_94 (n := 95) rfl (i := 1) rfl rfl ?_
          refine fv_isubN C (by omega) d_B_shrink_95 (n := 96) rfl ?_
          refine bk_cpri C nl_B_74 d_B_shrink_96 (n := 99) rfl rfl hB.2.2.1 hB hBs (by omega) (by omega) (by decide) (Nat.le_of_ble_eq_true rfl) (Nat.le_of_ble_eq_true rfl) (fun h1 hB hF => ?_)
          have hE := (hF.at (by omega)).trans hE
          have hG := hG.tr hF
          refine fv_aload_n C d_B_shrink_99 (n := 100) rfl (i := 0) rfl rfl ?_
          refine fv_get C (fl_B_18 D dA) d_B_shrink_100 (n := 103) rfl hB.1 rfl ?_
          refine fv_iload_n C d_B_shrink_103 (n := 104) rfl (i := 1) rfl rfl ?_
          refine fv_iconst C d_B_shrink_104 (n := 105) rfl kI_1 ?_
          first | refine fv_iaddN C d_B_shrink_105 (n := 106) rfl ?_ | refine fv_iadd C d_B_shrink_105 (n := 106) rfl ?_
          refine fv_aload_n C d_B_shrink_106 (n := 107) rfl (i := 0) rfl rfl ?_
          refine fv_get C (fl_B_18 D dA) d_B_shrink_107 (n := 110) rfl hB.1 rfl ?_
          refine fv_iload_n C d_B_shrink_110 (n := 111) rfl (i := 1) rfl rfl ?_
          refine fv_aload_n C d_B_shrink_111 (n := 112) rfl (i := 0) rfl rfl ?_
          refine fv_get C (fl_B_25 D dA) d_B_shrink_112 (n := 115) rfl hB.1 rfl ?_
          refine fv_iload_n C d_B_shrink_115 (n := 116) rfl (i := 1) rfl rfl ?_
          refine fv_isubN C (by omega) d_B_shrink_116 (n := 117) rfl ?_
          refine bk_csiz C nl_B_74 d_B_shrink_117 (n := 120) rfl rfl hB.2.2.2 hB hBs (by omega) (by omega) (by decide) (Nat.le_of_ble_eq_true rfl) (Nat.le_of_ble_eq_true rfl) (fun h1 hB hF => ?_)
          have hE := (hF.at (by omega)).trans hE
          have hG := hG.tr hF
          refine fv_vret C rfl d_B_shrink_120 (Nat.le_refl _) (Nat.le_refl _) ?_
          have hA2 := bo_AR_del hA (k := k) (by rw [bo_arr_len hw.2.1]; exact hkl)
          rw [bo_arr_len hw.2.1, bo_erase_del hnd hk, ← bo_arr_del] at hA2
          refine ⟨rfl, rfl, ⟨_, _, _, ?_, by rw [hap]; exact hA2, hwf⟩, hG⟩
          rw [hap]
          dsimp only
          rw [bo_buys_del hw hk, bo_len_del hw hk]
          first | (rw [if_pos hc44]; exact hB) | (rw [if_neg (by omega)]; exact hB)
      · exact absurd (show (0 : Int32) ≤ 0 by decide +kernel) (by first | exact hc18 | exact Int32.not_le.mpr hc18)
    · exact absurd hc2 hkm
theorem bo_AR_cpy {ids pri siz i2 p2 z2 : Nat → Int32} {arr : List bo_O} {n : Nat} (hA : bo_AR ids pri siz arr) (hn : arr.length = n) : bo_AR (va_cpy ids i2 0 0 n) (va_cpy pri p2 0 0 n) (va_cpy siz z2 0 0 n) arr := by
  intro j o ho
  have hj := (List.getElem?_eq_some_iff.mp ho).1
  have h1 : 0 ≤ j ∧ j < 0 + n := by omega
  simp only [va_cpy, if_pos h1]
  rw [show 0 + (j - 0) = j by omega]
  exact hA j o ho
theorem ct_B_become {a2 : Nat} {b2 : bo_B} {n2 : Nat} (hBs : Bs ≤ a) (hd : a2 + 4 ≤ a ∨ a + 4 ≤ a2) (hL : BL dA h a b nn) (hL2 : BL dA h a2 b2 n2) : fv_T l (fk D dA) Bs WA m_B_become [.ref a, .ref a2] sz h 0 0 (fp_v sz (fun h' => BL dA h' a b2 n2 ∧ fr h h' a 4)) := by
  obtain ⟨ids, pri, siz, hB, hA, hw⟩ := hL
  obtain ⟨i2, p2, z2, hO, hA2, hw2⟩ := hL2
  have h24 := hw2.2.2.2
  have hA3 := bo_AR_cpy (i2 := ids) (p2 := pri) (z2 := siz) hA2 (bo_arr_len hw2.2.1)
  have hG := fr_rf h a 4
  refine fv_of (L := [_, _]) (by decide +kernel) rfl (Nat.le_of_ble_eq_true rfl) rfl ?_
  intro X hX C
  subst hX
  refine fv_aload_n C d_B_become_0 (n := 1) rfl (i := 1) rfl rfl ?_
  refine fv_get C (fl_B_9 D dA) d_B_become_1 (n := 4) rfl hO.1 rfl ?_
  refine fv_iconst C d_B_become_4 (n := 5) rfl kI_0 ?_
  refine fv_aload_n C d_B_become_5 (n := 6) rfl (i := 0) rfl rfl ?_
  refine fv_get C (fl_B_9 D dA) d_B_become_6 (n := 9) rfl hB.1 rfl ?_
  refine fv_iconst C d_B_become_9 (n := 10) rfl kI_0 ?_
  refine fv_aload_n C d_B_become_10 (n := 11) rfl (i := 1) rfl rfl ?_
  refine fv_get C (fl_B_25 D dA) d_B_become_11 (n := 14) rfl hO.1 rfl ?_
  refine bk_cids C nl_B_74 d_B_become_14 (n := 17) rfl rfl hO.2.1 hB hBs (by omega) (by omega) (by decide) (Nat.le_of_ble_eq_true rfl) (Nat.le_of_ble_eq_true rfl) (fun h1 hB hF => ?_)
  have hO := hO.fr hF (by omega)
  have hG := hG.tr hF
  refine fv_aload_n C d_B_become_17 (n := 18) rfl (i := 1) rfl rfl ?_
  refine fv_get C (fl_B_15 D dA) d_B_become_18 (n := 21) rfl hO.1 rfl ?_
  refine fv_iconst C d_B_become_21 (n := 22) rfl kI_0 ?_
  refine fv_aload_n C d_B_become_22 (n := 23) rfl (i := 0) rfl rfl ?_
  refine fv_get C (fl_B_15 D dA) d_B_become_23 (n := 26) rfl hB.1 rfl ?_
  refine fv_iconst C d_B_become_26 (n := 27) rfl kI_0 ?_
  refine fv_aload_n C d_B_become_27 (n := 28) rfl (i := 1) rfl rfl ?_
  refine fv_get C (fl_B_25 D dA) d_B_become_28 (n := 31) rfl hO.1 rfl ?_
  refine bk_cpri C nl_B_74 d_B_become_31 (n := 34) rfl rfl hO.2.2.1 hB hBs (by omega) (by omega) (by decide) (Nat.le_of_ble_eq_true rfl) (Nat.le_of_ble_eq_true rfl) (fun h1 hB hF => ?_)
  have hO := hO.fr hF (by omega)
  have hG := hG.tr hF
  refine fv_aload_n C d_B_become_34 (n := 35) rfl (i := 1) rfl rfl ?_
  refine fv_get C (fl_B_18 D dA) d_B_become_35 (n := 38) rfl hO.1 rfl ?_
  refine fv_iconst C d_B_become_38 (n := 39) rfl kI_0 ?_
  refine fv_aload_n C d_B_become_39 (n := 40) rfl (i := 0) rfl rfl ?_
  refine fv_get C (fl_B_18 D dA) d_B_become_40 (n := 43) rfl hB.1 rfl ?_
  refine fv_iconst C d_B_become_43 (n := 44) rfl kI_0 ?_
  refine fv_aload_n C d_B_become_44 (n := 45) rfl (i := 1) rfl rfl ?_
  refine fv_get C (fl_B_25 D dA) d_B_become_45 (n := 48) rfl hO.1 rfl ?_
  refine bk_csiz C nl_B_74 d_B_become_48 (n := 51) rfl rfl hO.2.2.2 hB hBs (by omega) (by omega) (by decide) (Nat.le_of_ble_eq_true rfl) (Nat.le_of_ble_eq_true rfl) (fun h1 hB hF => ?_)
  have hO := hO.fr hF (by omega)
  have hG := hG.tr hF
  refine fv_aload_n C d_B_become_51 (n := 52) rfl (i := 0) rfl rfl ?_
  refine fv_aload_n C d_B_become_52 (n := 53) rfl (i := 1) rfl rfl ?_
  refine fv_get C (fl_B_21 D dA) d_B_become_53 (n := 56) rfl hO.1 rfl ?_
  refine bk_pbuys C (fl_B_21 D dA) d_B_become_56 (n := 59) rfl hB hBs (fun h1 hB hF => ?_)
  have hO := hO.fr hF (by omega)
  have hG := hG.tr hF
  refine fv_aload_n C d_B_become_59 (n := 60) rfl (i := 0) rfl rfl ?_
  refine fv_aload_n C d_B_become_60 (n := 61) rfl (i := 1) rfl rfl ?_
  refine fv_get C (fl_B_25 D dA) d_B_become_61 (n := 64) rfl hO.1 rfl ?_
  refine bk_ptot C (fl_B_25 D dA) d_B_become_64 (n := 67) rfl hB hBs (fun h1 hB hF => ?_)
  have hO := hO.fr hF (by omega)
  have hG := hG.tr hF
  refine fv_aload_n C d_B_become_67 (n := 68) rfl (i := 0) rfl rfl ?_
  refine fv_aload_n C d_B_become_68 (n := 69) rfl (i := 1) rfl rfl ?_
  refine fv_get C (fl_B_28 D dA) d_B_become_69 (n := 72) rfl hO.1 rfl ?_
  refine bk_phlt C (fl_B_28 D dA) d_B_become_72 (n := 75) rfl hB hBs (fun h1 hB hF => ?_)
  have hO := hO.fr hF (by omega)
  have hG := hG.tr hF
  refine fv_aload_n C d_B_become_75 (n := 76) rfl (i := 0) rfl rfl ?_
  refine fv_aload_n C d_B_become_76 (n := 77) rfl (i := 1) rfl rfl ?_
  refine fv_get C (fl_B_32 D dA) d_B_become_77 (n := 80) rfl hO.1 rfl ?_
  refine bk_papp C (fl_B_32 D dA) d_B_become_80 (n := 83) rfl hB hBs (fun h1 hB hF => ?_)
  have hO := hO.fr hF (by omega)
  have hG := hG.tr hF
  refine fv_vret C rfl d_B_become_83 (Nat.le_refl _) (Nat.le_refl _) ?_
  exact ⟨rfl, rfl, ⟨_, _, _, hB, hA3, hw2⟩, hG⟩
theorem ct_B_apply (hE : EV h e ev) (he : e < a ∨ a + 4 ≤ e) (hBs : Bs ≤ a) (hew : bo_ewf ev) (hok : bo_ok b ev.1 ev.2.2.2.1 ev.2.2.2.2.2.2 = true) (hL : BL dA h a b nn) : fv_T l (fk D dA) Bs WA m_B_apply [.ref a, .ref e] sz h 0 0 (fp_v sz (fun h' => BL dA h' a (bo_apl b ev) (nn + 1) ∧ fr h h' a 4)) := by
  have hwf := bo_wf_apl hL.wf hew hok
  obtain ⟨so, ins, num, id, s, pr, v⟩ := ev
  have hso : so ≤ 5 := hew.1
  have hE0 := hE
  have hE : h e = some (.inr (2, [.int (nI so), .int (nI ins), .int (nI num), .int id, .int (nI s), .int pr, .int v])) := hE
  obtain ⟨ids, pri, siz, hB, hA, hw⟩ := hL
  have hG := fr_rf h a 4
  refine fv_of (L := [_, _]) (by decide +kernel) rfl (Nat.le_of_ble_eq_true rfl) rfl ?_
  intro X hX C
  subst hX
  refine fv_aload_n C d_B_apply_0 (n := 1) rfl (i := 0) rfl rfl ?_
  refine fv_dup C d_B_apply_1 (n := 2) rfl rfl ?_
  refine fv_get C (fl_B_32 D dA) d_B_apply_2 (n := 5) rfl hB.1 rfl ?_
  refine fv_iconst C d_B_apply_5 (n := 6) rfl kI_1 ?_
  first | refine fv_iaddN C d_B_apply_6 (n := 7) rfl ?_ | refine fv_iadd C d_B_apply_6 (n := 7) rfl ?_
  refine bk_papp C (fl_B_32 D dA) d_B_apply_7 (n := 10) rfl hB hBs (fun h1 hB hF => ?_)
  have hE := (hF.at (by omega)).trans hE
  have hG := hG.tr hF
  refine fv_aload_n C d_B_apply_10 (n := 11) rfl (i := 1) rfl rfl ?_
  refine fv_get C (fl_B_43 D dA) d_B_apply_11 (n := 14) rfl hE rfl ?_
  have hcase : so = 0 ∨ so = 4 ∨ so = 5 ∨ so = 1 ∨ so = 2 ∨ so = 3 := by omega
  rcases hcase with rfl | rfl | rfl | rfl | rfl | rfl
  · refine fv_lookup C d_B_apply_14 (by decide +kernel) (off := 34) (by decide +kernel) (tgt := 48) rfl ?_
    refine fv_aload_n C d_B_apply_48 (n := 49) rfl (i := 0) rfl rfl ?_
    refine fv_aload_n C d_B_apply_49 (n := 50) rfl (i := 1) rfl rfl ?_
    refine fv_callV_v C (ml_B_48 D dA) im_B_insert se_B_insert hB.1 rfl (ct_B_insert (ev := (0, ins, num, id, s, pr, v)) hE (by omega) hBs rfl hew hok ⟨ids, pri, siz, hB, hA, hw⟩) d_B_apply_50 (n := 53) rfl rfl rfl rfl (Nat.le_of_ble_eq_true rfl) (Nat.le_of_ble_eq_true rfl) (Nat.le_of_ble_eq_true rfl) (Nat.le_refl _) (Nat.le_refl _) (fun h2 hp => ?_)
    refine fv_goto C d_B_apply_53 (tgt := 102) rfl ?_
    refine fv_vret C rfl d_B_apply_102 (Nat.le_refl _) (Nat.le_refl _) ?_
    first | exact ⟨rfl, rfl, hp.1, hG.tr hp.2⟩ | exact ⟨rfl, rfl, ⟨ids, pri, siz, hB, hA, hw⟩, hG⟩ | exact ⟨rfl, rfl, ⟨ids, pri, siz, hB, fun j o ho => by simp [bo_apl, bo_arr, bo_srt] at ho, hwf⟩, hG⟩
  · refine fv_lookup C d_B_apply_14 (by decide +kernel) (off := 42) (by decide +kernel) (tgt := 56) rfl ?_
    refine fv_aload_n C d_B_apply_56 (n := 57) rfl (i := 0) rfl rfl ?_
    refine fv_aload_n C d_B_apply_57 (n := 58) rfl (i := 1) rfl rfl ?_
    refine fv_get C (fl_B_52 D dA) d_B_apply_58 (n := 61) rfl hE rfl ?_
    refine fv_iconst C d_B_apply_61 (n := 62) rfl kI_1 ?_
    refine fv_icmp_ne C d_B_apply_62 (tgt := 69) rfl (n := 65) rfl (fun hc62 => ?_) (fun hc62 => ?_)
    · have h9 : ¬ v = 1 := fun q => hc62 (by rw [q]; decide +kernel)
      have hcv : nI 0 = fv_b (decide (v = 1)) := by rw [decide_eq_false h9]; rfl
      refine fv_iconst C d_B_apply_69 (n := 70) rfl kI_0 ?_
      rw [hcv]
      refine bk_phlt C (fl_B_28 D dA) d_B_apply_70 (n := 73) rfl hB hBs (fun h1 hB hF => ?_)
      have hE := (hF.at (by omega)).trans hE
      have hG := hG.tr hF
      refine fv_goto C d_B_apply_73 (tgt := 102) rfl ?_
      refine fv_vret C rfl d_B_apply_102 (Nat.le_refl _) (Nat.le_refl _) ?_
      first | exact ⟨rfl, rfl, hp.1, hG.tr hp.2⟩ | exact ⟨rfl, rfl, ⟨ids, pri, siz, hB, hA, hw⟩, hG⟩ | exact ⟨rfl, rfl, ⟨ids, pri, siz, hB, fun j o ho => by simp [bo_apl, bo_arr, bo_srt] at ho, hwf⟩, hG⟩
    · have h9 : v = 1 := by rw [hc62]; decide +kernel
      have hcv : nI 1 = fv_b (decide (v = 1)) := by rw [decide_eq_true h9]; rfl
      refine fv_iconst C d_B_apply_65 (n := 66) rfl kI_1 ?_
      refine fv_goto C d_B_apply_66 (tgt := 70) rfl ?_
      rw [hcv]
      refine bk_phlt C (fl_B_28 D dA) d_B_apply_70 (n := 73) rfl hB hBs (fun h1 hB hF => ?_)
      have hE := (hF.at (by omega)).trans hE
      have hG := hG.tr hF
      refine fv_goto C d_B_apply_73 (tgt := 102) rfl ?_
      refine fv_vret C rfl d_B_apply_102 (Nat.le_refl _) (Nat.le_refl _) ?_
      first | exact ⟨rfl, rfl, hp.1, hG.tr hp.2⟩ | exact ⟨rfl, rfl, ⟨ids, pri, siz, hB, hA, hw⟩, hG⟩ | exact ⟨rfl, rfl, ⟨ids, pri, siz, hB, fun j o ho => by simp [bo_apl, bo_arr, bo_srt] at ho, hwf⟩, hG⟩
  · refine fv_lookup C d_B_apply_14 (by decide +kernel) (off := 62) (by decide +kernel) (tgt := 76) rfl ?_
    refine fv_aload_n C d_B_apply_76 (n := 77) rfl (i := 0) rfl rfl ?_
    refine fv_iconst C d_B_apply_77 (n := 78) rfl kI_0 ?_
    refine bk_pbuys C (fl_B_21 D dA) d_B_apply_78 (n := 81) rfl hB hBs (fun h1 hB hF => ?_)
    have hE := (hF.at (by omega)).trans hE
    have hG := hG.tr hF
    refine fv_aload_n C d_B_apply_81 (n := 82) rfl (i := 0) rfl rfl ?_
    refine fv_iconst C d_B_apply_82 (n := 83) rfl kI_0 ?_
    refine bk_ptot C (fl_B_25 D dA) d_B_apply_83 (n := 86) rfl hB hBs (fun h1 hB hF => ?_)
    have hE := (hF.at (by omega)).trans hE
    have hG := hG.tr hF
    refine fv_goto C d_B_apply_86 (tgt := 102) rfl ?_
    refine fv_vret C rfl d_B_apply_102 (Nat.le_refl _) (Nat.le_refl _) ?_
    first | exact ⟨rfl, rfl, hp.1, hG.tr hp.2⟩ | exact ⟨rfl, rfl, ⟨ids, pri, siz, hB, hA, hw⟩, hG⟩ | exact ⟨rfl, rfl, ⟨ids, pri, siz, hB, fun j o ho => by simp [bo_apl, bo_arr, bo_srt] at ho, hwf⟩, hG⟩
  · refine fv_lookup C d_B_apply_14 (by decide +kernel) (off := 75) (by decide +kernel) (tgt := 89) rfl ?_
    obtain ⟨o, hf⟩ : ∃ o, bo_fi b.1 id = some o := by
      cases hf : bo_fi b.1 id with
      | none => simp [bo_ok, hf] at hok
      | some o => exact ⟨o, rfl⟩
    obtain ⟨k, hkl, hk, hpl⟩ := bk_pl_some hA hw hf
    refine fv_aload_n C d_B_apply_89 (n := 90) rfl (i := 0) rfl rfl ?_
    refine fv_aload_n C d_B_apply_90 (n := 91) rfl (i := 0) rfl rfl ?_
    refine fv_aload_n C d_B_apply_91 (n := 92) rfl (i := 1) rfl rfl ?_
    refine fv_get C (fl_B_55 D dA) d_B_apply_92 (n := 95) rfl hE rfl ?_
    refine fv_callV_r C (ml_B_35 D dA) im_B_placeOf se_B_placeOf hB.1 rfl (ct_B_placeOf hw.2.2.2 hB) d_B_apply_95 (n := 98) rfl rfl rfl rfl (Nat.le_of_ble_eq_true rfl) (Nat.le_of_ble_eq_true rfl) (Nat.le_of_ble_eq_true rfl) (Nat.le_refl _) (Nat.le_refl _) ?_
    rw [hpl]
    refine fv_aload_n C d_B_apply_98 (n := 99) rfl (i := 1) rfl rfl ?_
    refine fv_callV_v C (ml_B_58 D dA) im_B_shrink se_B_shrink hB.1 rfl (ct_B_shrink (ev := (_, ins, num, id, s, pr, v)) hE (by omega) hBs (by simp) hew hok hk hf ⟨ids, pri, siz, hB, hA, hw⟩) d_B_apply_99 (n := 102) rfl rfl rfl rfl (Nat.le_of_ble_eq_true rfl) (Nat.le_of_ble_eq_true rfl) (Nat.le_of_ble_eq_true rfl) (Nat.le_refl _) (Nat.le_refl _) (fun h2 hp => ?_)
    refine fv_vret C rfl d_B_apply_102 (Nat.le_refl _) (Nat.le_refl _) ?_
    first | exact ⟨rfl, rfl, hp.1, hG.tr hp.2⟩ | exact ⟨rfl, rfl, ⟨ids, pri, siz, hB, hA, hw⟩, hG⟩ | exact ⟨rfl, rfl, ⟨ids, pri, siz, hB, fun j o ho => by simp [bo_apl, bo_arr, bo_srt] at ho, hwf⟩, hG⟩
  · refine fv_lookup C d_B_apply_14 (by decide +kernel) (off := 75) (by decide +kernel) (tgt := 89) rfl ?_
    obtain ⟨o, hf⟩ : ∃ o, bo_fi b.1 id = some o := by
      cases hf : bo_fi b.1 id with
      | none => simp [bo_ok, hf] at hok
      | some o => exact ⟨o, rfl⟩
    obtain ⟨k, hkl, hk, hpl⟩ := bk_pl_some hA hw hf
    refine fv_aload_n C d_B_apply_89 (n := 90) rfl (i := 0) rfl rfl ?_
    refine fv_aload_n C d_B_apply_90 (n := 91) rfl (i := 0) rfl rfl ?_
    refine fv_aload_n C d_B_apply_91 (n := 92) rfl (i := 1) rfl rfl ?_
    refine fv_get C (fl_B_55 D dA) d_B_apply_92 (n := 95) rfl hE rfl ?_
    refine fv_callV_r C (ml_B_35 D dA) im_B_placeOf se_B_placeOf hB.1 rfl (ct_B_placeOf hw.2.2.2 hB) d_B_apply_95 (n := 98) rfl rfl rfl rfl (Nat.le_of_ble_eq_true rfl) (Nat.le_of_ble_eq_true rfl) (Nat.le_of_ble_eq_true rfl) (Nat.le_refl _) (Nat.le_refl _) ?_
    rw [hpl]
    refine fv_aload_n C d_B_apply_98 (n := 99) rfl (i := 1) rfl rfl ?_
    refine fv_callV_v C (ml_B_58 D dA) im_B_shrink se_B_shrink hB.1 rfl (ct_B_shrink (ev := (_, ins, num, id, s, pr, v)) hE (by omega) hBs (by simp) hew hok hk hf ⟨ids, pri, siz, hB, hA, hw⟩) d_B_apply_99 (n := 102) rfl rfl rfl rfl (Nat.le_of_ble_eq_true rfl) (Nat.le_of_ble_eq_true rfl) (Nat.le_of_ble_eq_true rfl) (Nat.le_refl _) (Nat.le_refl _) (fun h2 hp => ?_)
    refine fv_vret C rfl d_B_apply_102 (Nat.le_refl _) (Nat.le_refl _) ?_
    first | exact ⟨rfl, rfl, hp.1, hG.tr hp.2⟩ | exact ⟨rfl, rfl, ⟨ids, pri, siz, hB, hA, hw⟩, hG⟩ | exact ⟨rfl, rfl, ⟨ids, pri, siz, hB, fun j o ho => by simp [bo_apl, bo_arr, bo_srt] at ho, hwf⟩, hG⟩
  · refine fv_lookup C d_B_apply_14 (by decide +kernel) (off := 75) (by decide +kernel) (tgt := 89) rfl ?_
    obtain ⟨o, hf⟩ : ∃ o, bo_fi b.1 id = some o := by
      cases hf : bo_fi b.1 id with
      | none => simp [bo_ok, hf] at hok
      | some o => exact ⟨o, rfl⟩
    obtain ⟨k, hkl, hk, hpl⟩ := bk_pl_some hA hw hf
    refine fv_aload_n C d_B_apply_89 (n := 90) rfl (i := 0) rfl rfl ?_
    refine fv_aload_n C d_B_apply_90 (n := 91) rfl (i := 0) rfl rfl ?_
    refine fv_aload_n C d_B_apply_91 (n := 92) rfl (i := 1) rfl rfl ?_
    refine fv_get C (fl_B_55 D dA) d_B_apply_92 (n := 95) rfl hE rfl ?_
    refine fv_callV_r C (ml_B_35 D dA) im_B_placeOf se_B_placeOf hB.1 rfl (ct_B_placeOf hw.2.2.2 hB) d_B_apply_95 (n := 98) rfl rfl rfl rfl (Nat.le_of_ble_eq_true rfl) (Nat.le_of_ble_eq_true rfl) (Nat.le_of_ble_eq_true rfl) (Nat.le_refl _) (Nat.le_refl _) ?_
    rw [hpl]
    refine fv_aload_n C d_B_apply_98 (n := 99) rfl (i := 1) rfl rfl ?_
    refine fv_callV_v C (ml_B_58 D dA) im_B_shrink se_B_shrink hB.1 rfl (ct_B_shrink (ev := (_, ins, num, id, s, pr, v)) hE (by omega) hBs (by simp) hew hok hk hf ⟨ids, pri, siz, hB, hA, hw⟩) d_B_apply_99 (n := 102) rfl rfl rfl rfl (Nat.le_of_ble_eq_true rfl) (Nat.le_of_ble_eq_true rfl) (Nat.le_of_ble_eq_true rfl) (Nat.le_refl _) (Nat.le_refl _) (fun h2 hp => ?_)
    refine fv_vret C rfl d_B_apply_102 (Nat.le_refl _) (Nat.le_refl _) ?_
    first | exact ⟨rfl, rfl, hp.1, hG.tr hp.2⟩ | exact ⟨rfl, rfl, ⟨ids, pri, siz, hB, hA, hw⟩, hG⟩ | exact ⟨rfl, rfl, ⟨ids, pri, siz, hB, fun j o ho => by simp [bo_apl, bo_arr, bo_srt] at ho, hwf⟩, hG⟩
end BK4
end
section
/-! frames by a set of addresses -/
def fs (h h' : fv_H) (S : Nat → Prop) : Prop := ∀ x : Nat, ¬ S x → h' x = h x
theorem fs_rf (h : fv_H) (S : Nat → Prop) : fs h h S := fun _ _ => rfl
theorem fs.tr {h h1 h2 : fv_H} {S T U : Nat → Prop} (q1 : fs h h1 S) (q2 : fs h1 h2 T) (hS : ∀ x, S x → U x) (hT : ∀ x, T x → U x) : fs h h2 U := fun x hx => (q2 x (fun z => hx (hT x z))).trans (q1 x (fun z => hx (hS x z)))
theorem fs.mono {h h1 : fv_H} {S U : Nat → Prop} (q1 : fs h h1 S) (hS : ∀ x, S x → U x) : fs h h1 U := fun x hx => q1 x (fun z => hx (hS x z))
theorem fr.fs {h h' : fv_H} {a n : Nat} (q : fr h h' a n) : fs h h' (fun x => a ≤ x ∧ x < a + n) := q
theorem BL.fs {dA : Nat → ClassId} {h h' : fv_H} {a : Nat} {b : bo_B} {n : Nat} {S : Nat → Prop} (q : BL dA h a b n) (hf : fs h h' S) (hd : ¬ S a ∧ ¬ S (a + 1) ∧ ¬ S (a + 2) ∧ ¬ S (a + 3)) : BL dA h' a b n := by
  obtain ⟨ids, pri, siz, hB, hA, hw⟩ := q
  exact ⟨ids, pri, siz, ⟨(hf _ hd.1).trans hB.1, (hf _ hd.2.1).trans hB.2.1, (hf _ hd.2.2.1).trans hB.2.2.1, (hf _ hd.2.2.2).trans hB.2.2.2⟩, hA, hw⟩
/-! Reader -/
def RDr (dA : Nat → ClassId) (h : fv_H) (a : Nat) (g : Nat → Int32) (cnt : Nat) (fx : Nat → Int32) : Prop := h (a) = some (.inr (4, [.ref (a + 1), .int (nI cnt), .ref (a + 2)])) ∧ h (a + 1) = some (.inl (dA 0, 4, .inl g)) ∧ h (a + 2) = some (.inl (dA 0, 19, .inl fx))
section RDrS
variable {D : va_G} {dA : Nat → ClassId} {Bs : Nat} {X : fv_X} {M : fv_M} {mc ms nL : Nat} {Q : State → Prop} {pc n : Nat} {L L' : List (Option Value)} {st : List Value} {sz : Nat} {h : fv_H} {cells slots : Nat} {a : Nat} {g : Nat → Int32} {cnt : Nat} {fx : Nat → Int32}
theorem RDr.fs {h' : fv_H} {S : Nat → Prop} (hO : RDr dA h a g cnt fx) (hf : fs h h' S) (hd : ¬ S (a) ∧ ¬ S (a + 1) ∧ ¬ S (a + 2)) : RDr dA h' a g cnt fx := by
  exact ⟨(hf _ hd.1).trans hO.1, (hf _ hd.2.1).trans hO.2.1, (hf _ hd.2.2).trans hO.2.2⟩
theorem rd_pc (C : fv_C (fk D dA) WA X M mc ms) {idx : Nat} {v : Nat} (F : fv_FL (fk D dA) WA M.1.cls idx 4 1 .int false) (hd : decode M.2.1 pc = .ok (.putfield idx, 3)) (hn : pc + 3 = n) (hO : RDr dA h a g cnt fx) (hBs : Bs ≤ a) (kk : ∀ h' : fv_H, RDr dA h' a g v fx → fs h h' (fun z => z = a) → fv_V (fk D dA) Bs X nL Q n L st sz h' cells slots) : fv_V (fk D dA) Bs X nL Q pc L (.int (nI v) :: .ref (a) :: st) sz h cells slots := by
  refine fv_put C F (Or.inl rfl) hd hn hO.1 (by omega) rfl rfl (Nat.le_of_ble_eq_true rfl) ?_
  refine kk _ ⟨?_, ?_, ?_⟩ (fun z hz => va_up_ne _ _ hz)
  · exact va_up_self _ _ _
  · rw [va_up_ne _ _ (by omega)]; exact hO.2.1
  · rw [va_up_ne _ _ (by omega)]; exact hO.2.2
theorem rd_sg (C : fv_C (fk D dA) WA X M mc ms) {j : Nat} {x : Int32} (hd : decode M.2.1 pc = .ok (.iastore, 1)) (hn : pc + 1 = n) (hO : RDr dA h a g cnt fx) (hBs : Bs ≤ a) (hj : j < 4) (kk : ∀ h' : fv_H, RDr dA h' a (upd g j x) cnt fx → fs h h' (fun z => z = a + 1) → fv_V (fk D dA) Bs X nL Q n L st sz h' cells slots) : fv_V (fk D dA) Bs X nL Q pc L (.int x :: .int (nI j) :: .ref (a + 1) :: st) sz h cells slots := by
  refine fv_iastN C (t0 := 0) rfl hd hn hO.2.1 (by omega) hj (by decide) ?_
  refine kk _ ⟨?_, ?_, ?_⟩ (fun z hz => va_up_ne _ _ hz)
  · rw [va_up_ne _ _ (by omega)]; exact hO.1
  · exact va_up_self _ _ _
  · rw [va_up_ne _ _ (by omega)]; exact hO.2.2
theorem rd_cg (C : fv_C (fk D dA) WA X M mc ms) {idx a0 n0 sp dp zz : Nat} {gg : Nat → Int32} (hw1 : Cond.methodLink M.1.cls idx arraycopyName ∈ WA) (hd : decode M.2.1 pc = .ok (.invokestatic idx, 3)) (hn : pc + 3 = n) (hm : nL = M.2.2.1) (ha0 : h a0 = some (.inl (dA 0, n0, .inl gg))) (hO : RDr dA h a g cnt fx) (hBs : Bs ≤ a) (h4 : sp + zz ≤ n0) (h5 : dp + zz ≤ 4) (h0 : n0 < 2 ^ 31) (hf : 1 ≤ M.2.2.2.2.1) (hlo : (st.map fun v => v.category).sum + (nativeFrameWords "java/lang/System" "arraycopy" 5 + 11) ≤ M.2.2.2.2.2) (kk : ∀ h' : fv_H, RDr dA h' a (va_cpy gg g sp dp zz) cnt fx → fs h h' (fun z => z = a + 1) → fv_V (fk D dA) Bs X nL Q n L st sz h' cells slots) : fv_V (fk D dA) Bs X nL Q pc L (.int (nI zz) :: .int (nI dp) :: .ref (a + 1) :: .int (nI sp) :: .ref a0 :: st) sz h cells slots := by
  refine fv_copyN C (t0 := 0) rfl hw1 n_an n_as n_ai hd hn hm ha0 hO.2.1 (by omega) h4 h5 h0 (by decide) hf hlo ?_
  refine kk _ ⟨?_, ?_, ?_⟩ (fun z hz => va_up_ne _ _ hz)
  · rw [va_up_ne _ _ (by omega)]; exact hO.1
  · exact va_up_self _ _ _
  · rw [va_up_ne _ _ (by omega)]; exact hO.2.2
end RDrS
def RD (dA : Nat → ClassId) (h : fv_H) (a : Nat) (row : List Nat) (fx : Nat → Int32) : Prop := ∃ g : Nat → Int32, RDr dA h a g row.length fx ∧ ∀ j i : Nat, row[j]? = some i → g j = nI i
theorem RD.fs {dA : Nat → ClassId} {h h' : fv_H} {a : Nat} {row : List Nat} {fx : Nat → Int32} {S : Nat → Prop} (q : RD dA h a row fx) (hf : fs h h' S) (hd : ¬ S a ∧ ¬ S (a + 1) ∧ ¬ S (a + 2)) : RD dA h' a row fx := by
  obtain ⟨g, hO, hg⟩ := q
  exact ⟨g, hO.fs hf hd, hg⟩
theorem row_len : ∀ (n : Nat) (l : List Nat), l.Nodup → (∀ j ∈ l, j < n) → l.length ≤ n
  | 0, l, _, h => by
    cases l with
    | nil => exact Nat.le_refl _
    | cons a t => exact absurd (h a List.mem_cons_self) (by omega)
  | n + 1, l, hn, h => by
    by_cases hm : n ∈ l
    · have h1 := row_len n (l.erase n) (hn.erase n) (fun j hj => by
        have h2 := h j (List.mem_of_mem_erase hj)
        have h3 : j ≠ n := fun q => by rw [q] at hj; exact (List.Nodup.not_mem_erase hn) hj
        omega)
      have h4 := List.length_erase_of_mem hm
      have h5 : 0 < l.length := List.length_pos_of_mem hm
      omega
    · have h1 := row_len n l hn (fun j hj => by
        have h2 := h j hj
        have h3 : j ≠ n := fun q => hm (by rw [← q]; exact hj)
        omega)
      omega
section RDW
variable {l : Launch} {D : va_G} {dA : Nat → ClassId} {Bs sz : Nat} {h : fv_H} {a : Nat} {row : List Nat} {fx : Nat → Int32}
theorem ct_W_mark {i : Nat} (hi : i < 4) (hBs : Bs ≤ a) (hn : row.Nodup) (h4 : ∀ j ∈ row, j < 4) (hR : RD dA h a row fx) : fv_T l (fk D dA) Bs WA m_W_mark [.ref a, .int (nI i)] sz h 0 0 (fp_v sz (fun h' => RD dA h' a (tr_mark i row) fx ∧ fs h h' (fun x => a ≤ x ∧ x < a + 3))) := by
  obtain ⟨g, hO, hg⟩ := hR
  have hl4 := row_len 4 row hn h4
  refine fv_of (L := [_, _, _]) (by decide +kernel) rfl (Nat.le_of_ble_eq_true rfl) rfl ?_
  intro X hX C
  subst hX
  have loop : ∀ k j, j + k = row.length → (∀ t, t < j → row[t]? ≠ some i) → fv_V (fk D dA) Bs X 3 (fv_MQ (fk D dA) Bs X (fp_v sz (fun h' => RD dA h' a (tr_mark i row) fx ∧ fs h h' (fun x => a ≤ x ∧ x < a + 3))) 0 0) 2 [some (.ref a), some (.int (nI i)), some (.int (nI j))] [] sz h 0 0 := by
    intro k
    induction k with
    | zero =>
      intro j hj hno
      have hni : i ∉ row := by
        intro hm
        obtain ⟨t, ht⟩ := List.getElem?_of_mem hm
        exact hno t (by have := (List.getElem?_eq_some_iff.mp ht).1; omega) ht
      have hl3 : row.length < 4 := by
        have := row_len 4 (i :: row) (List.nodup_cons.mpr ⟨hni, hn⟩) (fun j hj => by rcases List.mem_cons.mp hj with rfl | hj; exact hi; exact h4 j hj)
        simp at this
        omega
      refine fv_iload_n C d_W_mark_2 (n := 3) rfl (i := 2) rfl rfl ?_
      refine fv_aload_n C d_W_mark_3 (n := 4) rfl (i := 0) rfl rfl ?_
      refine fv_get C (fl_W_15 D dA) d_W_mark_4 (n := 7) rfl hO.1 rfl ?_
      refine fv_icmpN_ge C (by omega) (by omega) d_W_mark_7 (tgt := 27) rfl (n := 10) rfl (fun hc7 => ?_) (fun hc7 => ?_)
      · refine fv_aload_n C d_W_mark_27 (n := 28) rfl (i := 0) rfl rfl ?_
        refine fv_get C (fl_W_15 D dA) d_W_mark_28 (n := 31) rfl hO.1 rfl ?_
        refine fv_iconst C d_W_mark_31 (n := 32) rfl kI_4 ?_
        refine fv_icmpN_ge C (by omega) (by omega) d_W_mark_32 (tgt := 55) rfl (n := 35) rfl (fun hc32 => ?_) (fun hc32 => ?_)
        · exact absurd hc32 (by omega)
        · refine fv_aload_n C d_W_mark_35 (n := 36) rfl (i := 0) rfl rfl ?_
          refine fv_get C (fl_W_9 D dA) d_W_mark_36 (n := 39) rfl hO.1 rfl ?_
          refine fv_aload_n C d_W_mark_39 (n := 40) rfl (i := 0) rfl rfl ?_
          refine fv_get C (fl_W_15 D dA) d_W_mark_40 (n := 43) rfl hO.1 rfl ?_
          refine fv_iload_n C d_W_mark_43 (n := 44) rfl (i := 1) rfl rfl ?_
          refine rd_sg C d_W_mark_44 (n := 45) rfl hO hBs hl3 (fun h1 hO hF1 => ?_)
          refine fv_aload_n C d_W_mark_45 (n := 46) rfl (i := 0) rfl rfl ?_
          refine fv_dup C d_W_mark_46 (n := 47) rfl rfl ?_
          refine fv_get C (fl_W_15 D dA) d_W_mark_47 (n := 50) rfl hO.1 rfl ?_
          refine fv_iconst C d_W_mark_50 (n := 51) rfl kI_1 ?_
          first | refine fv_iaddN C d_W_mark_51 (n := 52) rfl ?_ | refine fv_iadd C d_W_mark_51 (n := 52) rfl ?_
          refine rd_pc C (fl_W_15 D dA) d_W_mark_52 (n := 55) rfl hO hBs (fun h1 hO hF2 => ?_)
          refine fv_vret C rfl d_W_mark_55 (Nat.le_refl _) (Nat.le_refl _) ?_
          refine ⟨rfl, rfl, ⟨upd g row.length (nI i), ?_, ?_⟩, hF1.tr hF2 (fun x hx => by omega) (fun x hx => by omega)⟩
          · unfold tr_mark; rw [if_neg hni, List.length_append]; exact hO
          · intro t z hz
            unfold tr_mark at hz
            rw [if_neg hni] at hz
            by_cases h9 : t < row.length
            · rw [List.getElem?_append_left h9] at hz; unfold upd; rw [if_neg (by omega)]; exact hg t z hz
            · rw [List.getElem?_append_right (by omega)] at hz
              have h10 : t - row.length < 1 := (List.getElem?_eq_some_iff.mp hz).1
              have h11 : t = row.length := by omega
              subst h11
              rw [Nat.sub_self, List.getElem?_cons_zero] at hz
              cases hz
              simp [upd]
      · exact absurd hc7 (by omega)
    | succ k ih =>
      intro j hj hno
      obtain ⟨z, hz⟩ : ∃ z, row[j]? = some z := ⟨_, List.getElem?_eq_getElem (by omega)⟩
      have hgz := hg j z hz
      have hz4 := h4 z (List.mem_of_getElem? hz)
      refine fv_iload_n C d_W_mark_2 (n := 3) rfl (i := 2) rfl rfl ?_
      refine fv_aload_n C d_W_mark_3 (n := 4) rfl (i := 0) rfl rfl ?_
      refine fv_get C (fl_W_15 D dA) d_W_mark_4 (n := 7) rfl hO.1 rfl ?_
      refine fv_icmpN_ge C (by omega) (by omega) d_W_mark_7 (tgt := 27) rfl (n := 10) rfl (fun hc7 => ?_) (fun hc7 => ?_)
      · exact absurd hc7 (by omega)
      · refine fv_aload_n C d_W_mark_10 (n := 11) rfl (i := 0) rfl rfl ?_
        refine fv_get C (fl_W_9 D dA) d_W_mark_11 (n := 14) rfl hO.1 rfl ?_
        refine fv_iload_n C d_W_mark_14 (n := 15) rfl (i := 2) rfl rfl ?_
        refine fv_ialdN C (t0 := 0) rfl d_W_mark_15 (n := 16) rfl hO.2.1 (by omega) (by decide) ?_
        rw [hgz]
        refine fv_iload_n C d_W_mark_16 (n := 17) rfl (i := 1) rfl rfl ?_
        refine fv_icmpN_ne C (by omega) (by omega) d_W_mark_17 (tgt := 21) rfl (n := 20) rfl (fun hc17 => ?_) (fun hc17 => ?_)
        · refine fv_iincN C d_W_mark_21 (n := 24) rfl rfl (by decide) (L' := [_, _, _]) rfl ?_
          refine fv_goto C d_W_mark_24 (tgt := 2) rfl ?_
          refine ih (j + 1) (by omega) (fun t ht => ?_)
          by_cases h9 : t = j
          · subst h9; rw [hz]; exact fun q => hc17 (Option.some.inj q)
          · exact hno t (by omega)
        · have hin : i ∈ row := by rw [← hc17]; exact List.mem_of_getElem? hz
          refine fv_vret C rfl d_W_mark_20 (Nat.le_refl _) (Nat.le_refl _) ?_
          refine ⟨rfl, rfl, ⟨g, ?_, ?_⟩, fs_rf _ _⟩
          · unfold tr_mark; rw [if_pos hin]; exact hO
          · unfold tr_mark; rw [if_pos hin]; exact hg
  refine fv_iconst C d_W_mark_0 (n := 1) rfl kI_0 ?_
  refine fv_istore_n C d_W_mark_1 (n := 2) rfl (i := 2) rfl (by decide) (L' := [_, _, _]) rfl ?_
  exact loop row.length 0 (by omega) (fun t ht => absurd ht (by omega))
theorem ct_W_takeFirst0 (hR : RD dA h a [] fx) : fv_T l (fk D dA) Bs WA m_W_takeFirst [.ref a] sz h 0 0 (fp_r (.int (-1)) sz h) := by
  obtain ⟨g, hO, hg⟩ := hR
  have hO : RDr dA h a g 0 fx := hO
  refine fv_of (L := [_, _]) (by decide +kernel) rfl (Nat.le_of_ble_eq_true rfl) rfl ?_
  intro X hX C
  subst hX
  refine fv_aload_n C d_W_takeFirst_0 (n := 1) rfl (i := 0) rfl rfl ?_
  refine fv_get C (fl_W_15 D dA) d_W_takeFirst_1 (n := 4) rfl hO.1 rfl ?_
  refine fv_ifN_ne C (by omega) d_W_takeFirst_4 (tgt := 9) rfl (n := 7) rfl (fun hc4 => ?_) (fun hc4 => ?_)
  · exact absurd rfl hc4
  · refine fv_iconst C d_W_takeFirst_7 (n := 8) rfl kI_m1 ?_
    refine fv_iret C rfl d_W_takeFirst_8 (Nat.le_refl _) (Nat.le_refl _) ?_
    exact ⟨rfl, rfl, rfl⟩
theorem ct_W_takeFirst {i : Nat} {t : List Nat} (hBs : Bs ≤ a) (hl : t.length < 4) (hR : RD dA h a (i :: t) fx) : fv_T l (fk D dA) Bs WA m_W_takeFirst [.ref a] sz h 0 0 (fp_i sz (fun r h' => r = nI i ∧ RD dA h' a t fx ∧ fs h h' (fun x => a ≤ x ∧ x < a + 3))) := by
  obtain ⟨g, hO, hg⟩ := hR
  have hg0 := hg 0 i rfl
  have hlen : (i :: t).length = t.length + 1 := rfl
  rw [hlen] at hO
  refine fv_of (L := [_, _]) (by decide +kernel) rfl (Nat.le_of_ble_eq_true rfl) rfl ?_
  intro X hX C
  subst hX
  refine fv_aload_n C d_W_takeFirst_0 (n := 1) rfl (i := 0) rfl rfl ?_
  refine fv_get C (fl_W_15 D dA) d_W_takeFirst_1 (n := 4) rfl hO.1 rfl ?_
  refine fv_ifN_ne C (by omega) d_W_takeFirst_4 (tgt := 9) rfl (n := 7) rfl (fun hc4 => ?_) (fun hc4 => ?_)
  · refine fv_aload_n C d_W_takeFirst_9 (n := 10) rfl (i := 0) rfl rfl ?_
    refine fv_get C (fl_W_9 D dA) d_W_takeFirst_10 (n := 13) rfl hO.1 rfl ?_
    refine fv_iconst C d_W_takeFirst_13 (n := 14) rfl kI_0 ?_
    refine fv_ialdN C (t0 := 0) rfl d_W_takeFirst_14 (n := 15) rfl hO.2.1 (by omega) (by decide) ?_
    rw [hg0]
    refine fv_istore_n C d_W_takeFirst_15 (n := 16) rfl (i := 1) rfl (by decide) (L' := [_, _]) rfl ?_
    refine fv_aload_n C d_W_takeFirst_16 (n := 17) rfl (i := 0) rfl rfl ?_
    refine fv_dup C d_W_takeFirst_17 (n := 18) rfl rfl ?_
    refine fv_get C (fl_W_15 D dA) d_W_takeFirst_18 (n := 21) rfl hO.1 rfl ?_
    refine fv_iconst C d_W_takeFirst_21 (n := 22) rfl kI_1 ?_
    refine fv_isubN C (by omega) d_W_takeFirst_22 (n := 23) rfl ?_
    refine rd_pc C (fl_W_15 D dA) d_W_takeFirst_23 (n := 26) rfl hO hBs (fun h1 hO hF1 => ?_)
    rw [Nat.add_sub_cancel] at hO
    refine fv_aload_n C d_W_takeFirst_26 (n := 27) rfl (i := 0) rfl rfl ?_
    refine fv_get C (fl_W_9 D dA) d_W_takeFirst_27 (n := 30) rfl hO.1 rfl ?_
    refine fv_iconst C d_W_takeFirst_30 (n := 31) rfl kI_1 ?_
    refine fv_aload_n C d_W_takeFirst_31 (n := 32) rfl (i := 0) rfl rfl ?_
    refine fv_get C (fl_W_9 D dA) d_W_takeFirst_32 (n := 35) rfl hO.1 rfl ?_
    refine fv_iconst C d_W_takeFirst_35 (n := 36) rfl kI_0 ?_
    refine fv_aload_n C d_W_takeFirst_36 (n := 37) rfl (i := 0) rfl rfl ?_
    refine fv_get C (fl_W_15 D dA) d_W_takeFirst_37 (n := 40) rfl hO.1 rfl ?_
    refine rd_cg C nl_W_26 d_W_takeFirst_40 (n := 43) rfl rfl hO.2.1 hO hBs (by omega) (by omega) (by decide) (Nat.le_of_ble_eq_true rfl) (Nat.le_of_ble_eq_true rfl) (fun h1 hO hF2 => ?_)
    refine fv_iload_n C d_W_takeFirst_43 (n := 44) rfl (i := 1) rfl rfl ?_
    refine fv_iret C rfl d_W_takeFirst_44 (Nat.le_refl _) (Nat.le_refl _) ?_
    refine ⟨_, rfl, rfl, rfl, ⟨_, hO, ?_⟩, hF1.tr hF2 (fun x hx => by omega) (fun x hx => by omega)⟩
    intro j z hz
    have hj := (List.getElem?_eq_some_iff.mp hz).1
    have h9 : 0 ≤ j ∧ j < 0 + t.length := by omega
    simp only [va_cpy, if_pos h9]
    exact hg _ z (by rw [show 1 + (j - 0) = j + 1 by omega, List.getElem?_cons_succ]; exact hz)
  · exact absurd hc4 (by omega)
end RDW
end
section
/-! Track -/
def TKr (dA : Nat → ClassId) (h : fv_H) (a : Nat) (i : Nat) (ar : Nat) (hq : Nat → Option Nat) (hc : Nat) (nd : Nat) (sv : Nat → Int32) : Prop := h (a) = some (.inr (7, [.int (nI i), .ref ar, .ref (a + 1), .ref (a + 5), .ref (a + 6), .int (nI hc), .int (nI nd)])) ∧ h (a + 5) = some (.inl (dA 0, 19, .inl sv)) ∧ h (a + 6) = some (.inl (dA 3, 30, .inr (.inr (.inr (.inr hq)))))
section TKrS
variable {D : va_G} {dA : Nat → ClassId} {Bs : Nat} {X : fv_X} {M : fv_M} {mc ms nL : Nat} {Q : State → Prop} {pc n : Nat} {L L' : List (Option Value)} {st : List Value} {sz : Nat} {h : fv_H} {cells slots : Nat} {a : Nat} {i : Nat} {ar : Nat} {hq : Nat → Option Nat} {hc : Nat} {nd : Nat} {sv : Nat → Int32}
theorem TKr.fs {h' : fv_H} {S : Nat → Prop} (hO : TKr dA h a i ar hq hc nd sv) (hf : fs h h' S) (hd : ¬ S (a) ∧ ¬ S (a + 5) ∧ ¬ S (a + 6)) : TKr dA h' a i ar hq hc nd sv := by
  exact ⟨(hf _ hd.1).trans hO.1, (hf _ hd.2.1).trans hO.2.1, (hf _ hd.2.2).trans hO.2.2⟩
theorem tk_phc (C : fv_C (fk D dA) WA X M mc ms) {idx : Nat} {v : Nat} (F : fv_FL (fk D dA) WA M.1.cls idx 7 5 .int false) (hd : decode M.2.1 pc = .ok (.putfield idx, 3)) (hn : pc + 3 = n) (hO : TKr dA h a i ar hq hc nd sv) (hBs : Bs ≤ a) (kk : ∀ h' : fv_H, TKr dA h' a i ar hq v nd sv → fs h h' (fun z => z = a) → fv_V (fk D dA) Bs X nL Q n L st sz h' cells slots) : fv_V (fk D dA) Bs X nL Q pc L (.int (nI v) :: .ref (a) :: st) sz h cells slots := by
  refine fv_put C F (Or.inl rfl) hd hn hO.1 (by omega) rfl rfl (Nat.le_of_ble_eq_true rfl) ?_
  refine kk _ ⟨?_, ?_, ?_⟩ (fun z hz => va_up_ne _ _ hz)
  · exact va_up_self _ _ _
  · rw [va_up_ne _ _ (by omega)]; exact hO.2.1
  · rw [va_up_ne _ _ (by omega)]; exact hO.2.2
theorem tk_pnd (C : fv_C (fk D dA) WA X M mc ms) {idx : Nat} {v : Nat} (F : fv_FL (fk D dA) WA M.1.cls idx 7 6 .int false) (hd : decode M.2.1 pc = .ok (.putfield idx, 3)) (hn : pc + 3 = n) (hO : TKr dA h a i ar hq hc nd sv) (hBs : Bs ≤ a) (kk : ∀ h' : fv_H, TKr dA h' a i ar hq hc v sv → fs h h' (fun z => z = a) → fv_V (fk D dA) Bs X nL Q n L st sz h' cells slots) : fv_V (fk D dA) Bs X nL Q pc L (.int (nI v) :: .ref (a) :: st) sz h cells slots := by
  refine fv_put C F (Or.inl rfl) hd hn hO.1 (by omega) rfl rfl (Nat.le_of_ble_eq_true rfl) ?_
  refine kk _ ⟨?_, ?_, ?_⟩ (fun z hz => va_up_ne _ _ hz)
  · exact va_up_self _ _ _
  · rw [va_up_ne _ _ (by omega)]; exact hO.2.1
  · rw [va_up_ne _ _ (by omega)]; exact hO.2.2
theorem tk_sh (C : fv_C (fk D dA) WA X M mc ms) {j v : Nat} {vs : List Value} (hd : decode M.2.1 pc = .ok (.aastore, 1)) (hn : pc + 1 = n) (hO : TKr dA h a i ar hq hc nd sv) (hv : h v = some (.inr (2, vs))) (hBs : Bs ≤ a) (hj : j < 30) (kk : ∀ h' : fv_H, TKr dA h' a i ar (va_up hq j (some v)) hc nd sv → fs h h' (fun z => z = a + 6) → fv_V (fk D dA) Bs X nL Q n L st sz h' cells slots) : fv_V (fk D dA) Bs X nL Q pc L (.ref v :: .int (nI j) :: .ref (a + 6) :: st) sz h cells slots := by
  refine fv_aastN1 C (t0 := 3) (ci := 2) rfl hd hn hO.2.2 hv rfl (by omega) hj (by decide) ?_
  refine kk _ ⟨?_, ?_, ?_⟩ (fun z hz => va_up_ne _ _ hz)
  · rw [va_up_ne _ _ (by omega)]; exact hO.1
  · rw [va_up_ne _ _ (by omega)]; exact hO.2.1
  · exact va_up_self _ _ _
end TKrS
def EVS (h : fv_H) (aE : Nat) (log : List bo_E) : Prop := ∀ (k : Nat) (ev : bo_E), log[k]? = some ev → EV h (aE + k) ev
def ev_n (log : List bo_E) (k : Nat) : Nat := (log.getD k bo_e0).2.2.1
theorem ev_n_of {log : List bo_E} {k : Nat} {ev : bo_E} (h : log[k]? = some ev) : ev_n log k = ev.2.2.1 := by
  unfold ev_n
  rw [List.getD_eq_getElem?_getD, h]
  rfl
def TK (dA : Nat → ClassId) (h : fv_H) (a i ar aE : Nat) (log : List bo_E) (hs : List Nat) (nd : Nat) (sv : Nat → Int32) : Prop := ∃ hd : Nat → Option Nat, TKr dA h a i ar hd hs.length nd sv ∧ (∀ j k : Nat, hs[j]? = some k → hd j = some (aE + k)) ∧ hs.length ≤ 30 ∧ ∀ k ∈ hs, ∃ ev, log[k]? = some ev ∧ ev.2.1 = i
theorem TK.fs {dA : Nat → ClassId} {h h' : fv_H} {a i ar aE : Nat} {log : List bo_E} {hs : List Nat} {nd : Nat} {sv : Nat → Int32} {S : Nat → Prop} (q : TK dA h a i ar aE log hs nd sv) (hf : fs h h' S) (hd : ¬ S a ∧ ¬ S (a + 5) ∧ ¬ S (a + 6)) : TK dA h' a i ar aE log hs nd sv := by
  obtain ⟨g, hO, hg⟩ := q
  exact ⟨g, hO.fs hf hd, hg⟩
theorem EVS.fs {h h' : fv_H} {aE : Nat} {log : List bo_E} {S : Nat → Prop} (q : EVS h aE log) (hf : fs h h' S) (hd : ∀ x, aE ≤ x → ¬ S x) : EVS h' aE log := fun k ev hk => (hf _ (hd _ (Nat.le_add_right _ _))).trans (q k ev hk)
/-- every event's number is small -/
def ev_sm (log : List bo_E) : Prop := log.length ≤ 400 ∧ ∀ (k : Nat) (ev : bo_E), log[k]? = some ev → ev.2.2.1 ≤ 400
theorem perm_set {x k : Nat} : ∀ {L : List Nat} {j : Nat}, L[j]? = some k → (x :: L).Perm (k :: L.set j x)
  | [], j, h => by simp at h
  | b :: t, 0, h => by
    rw [List.getElem?_cons_zero] at h
    cases h
    exact List.Perm.swap _ _ _
  | b :: t, j + 1, h => by
    rw [List.getElem?_cons_succ] at h
    rw [List.set_cons_succ]
    exact (List.Perm.swap b x t).trans (((perm_set h).cons b).trans (List.Perm.swap _ _ _))
section TKW
variable {l : Launch} {D : va_G} {dA : Nat → ClassId} {Bs sz : Nat} {h : fv_H} {a i ar aE : Nat} {log : List bo_E} {hs : List Nat} {nd : Nat} {sv : Nat → Int32}
theorem ct_T_takeHeld {n : Nat} (hn : n < 2 ^ 31) (hBs : Bs ≤ a) (hE : EVS h aE log) (haE : a + 7 ≤ aE) (hsm : ev_sm log) (hT : TK dA h a i ar aE log hs nd sv) : fv_T l (fk D dA) Bs WA m_T_takeHeld [.ref a, .int (nI n)] sz h 0 0 (fp_a sz (fun r h' => (∃ k hs', r = some (aE + k) ∧ ev_n log k = n ∧ hs.Perm (k :: hs') ∧ TK dA h' a i ar aE log hs' nd sv ∧ fs h h' (fun x => x = a ∨ x = a + 6)) ∨ (r = none ∧ h' = h ∧ ∀ k ∈ hs, ev_n log k ≠ n))) := by
  obtain ⟨hd, hO, hhd, h30, hlog⟩ := hT
  refine fv_of (L := [_, _, _, _]) (by decide +kernel) rfl (Nat.le_of_ble_eq_true rfl) rfl ?_
  intro X hX C
  subst hX
  have loop : ∀ m j, j + m = hs.length → (∀ t k, t < j → hs[t]? = some k → ev_n log k ≠ n) → fv_V (fk D dA) Bs X 4 (fv_MQ (fk D dA) Bs X (fp_a sz (fun r h' => (∃ k hs', r = some (aE + k) ∧ ev_n log k = n ∧ hs.Perm (k :: hs') ∧ TK dA h' a i ar aE log hs' nd sv ∧ fs h h' (fun x => x = a ∨ x = a + 6)) ∨ (r = none ∧ h' = h ∧ ∀ k ∈ hs, ev_n log k ≠ n))) 0 0) 2 [some (.ref a), some (.int (nI n)), some (.int (nI j)), none] [] sz h 0 0 := by
    intro m
    induction m with
    | zero =>
      intro j hj hno
      refine fv_iload_n C d_T_takeHeld_2 (n := 3) rfl (i := 2) rfl rfl ?_
      refine fv_aload_n C d_T_takeHeld_3 (n := 4) rfl (i := 0) rfl rfl ?_
      refine fv_get C (fl_T_32 D dA) d_T_takeHeld_4 (n := 7) rfl hO.1 rfl ?_
      refine fv_icmpN_ge C (by omega) (by omega) d_T_takeHeld_7 (tgt := 62) rfl (n := 10) rfl (fun hc7 => ?_) (fun hc7 => ?_)
      · refine fv_null C d_T_takeHeld_62 (n := 63) rfl ?_
        refine fv_aret C rfl (Or.inl ⟨_, rfl⟩) (Or.inl rfl) d_T_takeHeld_63 (Nat.le_refl _) (Nat.le_refl _) ?_
        refine ⟨none, rfl, rfl, Or.inr ⟨rfl, rfl, fun k hk => ?_⟩⟩
        obtain ⟨t, ht⟩ := List.getElem?_of_mem hk
        exact hno t k (by have := (List.getElem?_eq_some_iff.mp ht).1; omega) ht
      · exact absurd hc7 (by omega)
    | succ m ih =>
      intro j hj hno
      obtain ⟨k, hk⟩ : ∃ k, hs[j]? = some k := ⟨_, List.getElem?_eq_getElem (by omega)⟩
      have hhk := hhd j k hk
      obtain ⟨ev, hev, hei⟩ := hlog k (List.mem_of_getElem? hk)
      have hEk := hE k ev hev
      have hsm1 := hsm.2 k ev hev
      have hnk := ev_n_of hev
      obtain ⟨Lh, x, hLx⟩ : ∃ (Lh : List Nat) (x : Nat), hs = Lh ++ [x] := by
        rcases bo_snoc hs with h9 | h9
        · rw [h9] at hj
          simp at hj
        · exact h9
      have hlen : hs.length = Lh.length + 1 := by rw [hLx]; simp
      have hx : hs[Lh.length]? = some x := by rw [hLx, List.getElem?_append_right (Nat.le_refl _), Nat.sub_self, List.getElem?_cons_zero]
      have hhx := hhd _ x hx
      obtain ⟨ex, hex, hexi⟩ := hlog x (List.mem_of_getElem? hx)
      refine fv_iload_n C d_T_takeHeld_2 (n := 3) rfl (i := 2) rfl rfl ?_
      refine fv_aload_n C d_T_takeHeld_3 (n := 4) rfl (i := 0) rfl rfl ?_
      refine fv_get C (fl_T_32 D dA) d_T_takeHeld_4 (n := 7) rfl hO.1 rfl ?_
      refine fv_icmpN_ge C (by omega) (by omega) d_T_takeHeld_7 (tgt := 62) rfl (n := 10) rfl (fun hc7 => ?_) (fun hc7 => ?_)
      · exact absurd hc7 (by omega)
      · refine fv_aload_n C d_T_takeHeld_10 (n := 11) rfl (i := 0) rfl rfl ?_
        refine fv_get C (fl_T_28 D dA) d_T_takeHeld_11 (n := 14) rfl hO.1 rfl ?_
        refine fv_iload_n C d_T_takeHeld_14 (n := 15) rfl (i := 2) rfl rfl ?_
        refine fv_aaldN C (t0 := 3) rfl d_T_takeHeld_15 (n := 16) rfl hO.2.2 (by omega) (by decide) (show va_rf (hd j) = .ref (aE + k) by rw [hhk]; rfl) ?_
        refine fv_astore_n C d_T_takeHeld_16 (n := 17) rfl (i := 3) rfl (by decide) (L' := [_, _, _, _]) rfl ?_
        refine fv_aload_n C d_T_takeHeld_17 (n := 18) rfl (i := 3) rfl rfl ?_
        refine fv_ifnull C d_T_takeHeld_18 (n := 21) rfl ?_
        refine fv_aload_n C d_T_takeHeld_21 (n := 22) rfl (i := 3) rfl rfl ?_
        refine fv_get C (fl_T_49 D dA) d_T_takeHeld_22 (n := 25) rfl hEk rfl ?_
        refine fv_iload_n C d_T_takeHeld_25 (n := 26) rfl (i := 1) rfl rfl ?_
        refine fv_icmpN_ne C (by omega) (by omega) d_T_takeHeld_26 (tgt := 56) rfl (n := 29) rfl (fun hc26 => ?_) (fun hc26 => ?_)
        · refine fv_iincN C d_T_takeHeld_56 (n := 59) rfl rfl (by decide) (L' := [_, _, _, _]) rfl ?_
          refine fv_goto C d_T_takeHeld_59 (tgt := 2) rfl ?_
          refine fv_drop 3 (L' := [_, _, _, _]) rfl ?_
          refine ih (j + 1) (by omega) (fun t z ht hz => ?_)
          by_cases h9 : t = j
          · subst h9; cases hk.symm.trans hz; rw [hnk]; exact hc26
          · exact hno t z (by omega) hz
        · refine fv_aload_n C d_T_takeHeld_29 (n := 30) rfl (i := 0) rfl rfl ?_
          refine fv_dup C d_T_takeHeld_30 (n := 31) rfl rfl ?_
          refine fv_get C (fl_T_32 D dA) d_T_takeHeld_31 (n := 34) rfl hO.1 rfl ?_
          refine fv_iconst C d_T_takeHeld_34 (n := 35) rfl kI_1 ?_
          refine fv_isubN C (by omega) d_T_takeHeld_35 (n := 36) rfl ?_
          refine tk_phc C (fl_T_32 D dA) d_T_takeHeld_36 (n := 39) rfl hO hBs (fun h1 hO hF1 => ?_)
          have hEv : EV h1 (aE + x) ex := (hF1 _ (by omega)).trans (hE x ex hex)
          refine fv_aload_n C d_T_takeHeld_39 (n := 40) rfl (i := 0) rfl rfl ?_
          refine fv_get C (fl_T_28 D dA) d_T_takeHeld_40 (n := 43) rfl hO.1 rfl ?_
          refine fv_iload_n C d_T_takeHeld_43 (n := 44) rfl (i := 2) rfl rfl ?_
          refine fv_aload_n C d_T_takeHeld_44 (n := 45) rfl (i := 0) rfl rfl ?_
          refine fv_get C (fl_T_28 D dA) d_T_takeHeld_45 (n := 48) rfl hO.1 rfl ?_
          refine fv_aload_n C d_T_takeHeld_48 (n := 49) rfl (i := 0) rfl rfl ?_
          refine fv_get C (fl_T_32 D dA) d_T_takeHeld_49 (n := 52) rfl hO.1 rfl ?_
          refine fv_aaldN C (t0 := 3) rfl d_T_takeHeld_52 (n := 53) rfl hO.2.2 (by omega) (by decide) (show va_rf (hd (hs.length - 1)) = .ref (aE + x) by rw [hlen, Nat.add_sub_cancel, hhx]; rfl) ?_
          refine tk_sh C d_T_takeHeld_53 (n := 54) rfl hO hEv hBs (by omega) (fun h1 hO hF2 => ?_)
          refine fv_aload_n C d_T_takeHeld_54 (n := 55) rfl (i := 3) rfl rfl ?_
          refine fv_aret C rfl (Or.inl ⟨_, rfl⟩) (Or.inr ⟨_, rfl⟩) d_T_takeHeld_55 (Nat.le_refl _) (Nat.le_refl _) ?_
          refine ⟨some (aE + k), rfl, rfl, Or.inl ⟨k, Lh.set j x, rfl, hnk.trans hc26, ?_, ⟨va_up hd j (some (aE + x)), ?_, ?_, ?_, ?_⟩, hF1.tr hF2 (fun z hz => Or.inl hz) (fun z hz => Or.inr hz)⟩⟩
          · rw [hLx]
            refine (List.perm_append_singleton x Lh).trans ?_
            by_cases h9 : j < Lh.length
            · rw [hLx, List.getElem?_append_left h9] at hk
              exact perm_set hk
            · have h10 : j = Lh.length := by omega
              rw [h10, hx] at hk
              cases hk
              rw [List.set_eq_of_length_le (by omega)]
          · rw [List.length_set]; rw [hlen, Nat.add_sub_cancel] at hO; exact hO
          · intro t z hz
            by_cases h9 : t = j
            · subst h9
              have h10 : t < Lh.length := by have := (List.getElem?_eq_some_iff.mp hz).1; rwa [List.length_set] at this
              rw [List.getElem?_set_self h10] at hz
              cases hz
              exact va_up_self _ _ _
            · rw [List.getElem?_set_ne (Ne.symm h9)] at hz
              rw [va_up_ne _ _ h9]
              exact hhd t z (by rw [hLx, List.getElem?_append_left (List.getElem?_eq_some_iff.mp hz).1]; exact hz)
          · rw [List.length_set]; omega
          · intro z hz
            rcases List.mem_or_eq_of_mem_set hz with h9 | h9
            · exact hlog z (by rw [hLx]; exact List.mem_append_left _ h9)
            · rw [h9]; exact hlog x (List.mem_of_getElem? hx)
  refine fv_iconst C d_T_takeHeld_0 (n := 1) rfl kI_0 ?_
  refine fv_istore_n C d_T_takeHeld_1 (n := 2) rfl (i := 2) rfl (by decide) (L' := [_, _, _, _]) rfl ?_
  exact loop hs.length 0 (by omega) (fun t k ht => absurd ht (by omega))
theorem ct_T_hold {k0 : Nat} {ev0 : bo_E} (hk0 : log[k0]? = some ev0) (hi0 : ev0.2.1 = i) (hBs : Bs ≤ a) (hE : EVS h aE log) (haE : a + 7 ≤ aE) (hsm : ev_sm log) (hT : TK dA h a i ar aE log hs nd sv) : fv_T l (fk D dA) Bs WA m_T_hold [.ref a, .ref (aE + k0)] sz h 0 0 (fp_v sz (fun h' => ∃ hs', TK dA h' a i ar aE log hs' nd sv ∧ fs h h' (fun x => x = a ∨ x = a + 6) ∧ ((hs' = hs ∧ ((∃ k ∈ hs, ev_n log k = ev0.2.2.1) ∨ 30 ≤ hs.length)) ∨ (hs' = hs ++ [k0] ∧ (∀ k ∈ hs, ev_n log k ≠ ev0.2.2.1) ∧ hs.length < 30)))) := by
  have hT0 := hT
  obtain ⟨hd, hO, hhd, h30, hlog⟩ := hT
  have hE0 := hE k0 ev0 hk0
  have hsm0 := hsm.2 k0 ev0 hk0
  refine fv_of (L := [_, _, _]) (by decide +kernel) rfl (Nat.le_of_ble_eq_true rfl) rfl ?_
  intro X hX C
  subst hX
  have loop : ∀ m j, j + m = hs.length → (∀ t k, t < j → hs[t]? = some k → ev_n log k ≠ ev0.2.2.1) → fv_V (fk D dA) Bs X 3 (fv_MQ (fk D dA) Bs X (fp_v sz (fun h' => ∃ hs', TK dA h' a i ar aE log hs' nd sv ∧ fs h h' (fun x => x = a ∨ x = a + 6) ∧ ((hs' = hs ∧ ((∃ k ∈ hs, ev_n log k = ev0.2.2.1) ∨ 30 ≤ hs.length)) ∨ (hs' = hs ++ [k0] ∧ (∀ k ∈ hs, ev_n log k ≠ ev0.2.2.1) ∧ hs.length < 30)))) 0 0) 2 [some (.ref a), some (.ref (aE + k0)), some (.int (nI j))] [] sz h 0 0 := by
    intro m
    induction m with
    | zero =>
      intro j hj hno
      have hno2 : ∀ k ∈ hs, ev_n log k ≠ ev0.2.2.1 := by
        intro k hk
        obtain ⟨t, ht⟩ := List.getElem?_of_mem hk
        exact hno t k (by have := (List.getElem?_eq_some_iff.mp ht).1; omega) ht
      refine fv_iload_n C d_T_hold_2 (n := 3) rfl (i := 2) rfl rfl ?_
      refine fv_aload_n C d_T_hold_3 (n := 4) rfl (i := 0) rfl rfl ?_
      refine fv_get C (fl_T_32 D dA) d_T_hold_4 (n := 7) rfl hO.1 rfl ?_
      refine fv_icmpN_ge C (by omega) (by omega) d_T_hold_7 (tgt := 42) rfl (n := 10) rfl (fun hc7 => ?_) (fun hc7 => ?_)
      · refine fv_aload_n C d_T_hold_42 (n := 43) rfl (i := 0) rfl rfl ?_
        refine fv_get C (fl_T_32 D dA) d_T_hold_43 (n := 46) rfl hO.1 rfl ?_
        refine fv_bipush C d_T_hold_46 (n := 48) rfl kB_30 ?_
        refine fv_icmpN_ge C (by omega) (by omega) d_T_hold_48 (tgt := 71) rfl (n := 51) rfl (fun hc48 => ?_) (fun hc48 => ?_)
        · exact fv_vret C rfl d_T_hold_71 (Nat.le_refl _) (Nat.le_refl _) ⟨rfl, rfl, hs, hT0, fs_rf _ _, Or.inl ⟨rfl, Or.inr hc48⟩⟩
        · refine fv_aload_n C d_T_hold_51 (n := 52) rfl (i := 0) rfl rfl ?_
          refine fv_get C (fl_T_28 D dA) d_T_hold_52 (n := 55) rfl hO.1 rfl ?_
          refine fv_aload_n C d_T_hold_55 (n := 56) rfl (i := 0) rfl rfl ?_
          refine fv_get C (fl_T_32 D dA) d_T_hold_56 (n := 59) rfl hO.1 rfl ?_
          refine fv_aload_n C d_T_hold_59 (n := 60) rfl (i := 1) rfl rfl ?_
          refine tk_sh C d_T_hold_60 (n := 61) rfl hO hE0 hBs (by omega) (fun h1 hO hF1 => ?_)
          refine fv_aload_n C d_T_hold_61 (n := 62) rfl (i := 0) rfl rfl ?_
          refine fv_dup C d_T_hold_62 (n := 63) rfl rfl ?_
          refine fv_get C (fl_T_32 D dA) d_T_hold_63 (n := 66) rfl hO.1 rfl ?_
          refine fv_iconst C d_T_hold_66 (n := 67) rfl kI_1 ?_
          first | refine fv_iaddN C d_T_hold_67 (n := 68) rfl ?_ | refine fv_iadd C d_T_hold_67 (n := 68) rfl ?_
          refine tk_phc C (fl_T_32 D dA) d_T_hold_68 (n := 71) rfl hO hBs (fun h1 hO hF2 => ?_)
          refine fv_vret C rfl d_T_hold_71 (Nat.le_refl _) (Nat.le_refl _) ?_
          refine ⟨rfl, rfl, hs ++ [k0], ⟨va_up hd hs.length (some (aE + k0)), ?_, ?_, ?_, ?_⟩, hF1.tr hF2 (fun z hz => Or.inr hz) (fun z hz => Or.inl hz), Or.inr ⟨rfl, hno2, hc48⟩⟩
          · rw [List.length_append]; exact hO
          · intro t z hz
            by_cases h9 : t < hs.length
            · rw [List.getElem?_append_left h9] at hz; rw [va_up_ne _ _ (by omega)]; exact hhd t z hz
            · rw [List.getElem?_append_right (by omega)] at hz
              have h10 : t - hs.length < 1 := (List.getElem?_eq_some_iff.mp hz).1
              have h11 : t = hs.length := by omega
              subst h11
              rw [Nat.sub_self, List.getElem?_cons_zero] at hz
              cases hz
              exact va_up_self _ _ _
          · rw [List.length_append]; simp; omega
          · intro z hz
            rcases List.mem_append.mp hz with h9 | h9
            · exact hlog z h9
            · rw [List.mem_singleton.mp h9]; exact ⟨ev0, hk0, hi0⟩
      · exact absurd hc7 (by omega)
    | succ m ih =>
      intro j hj hno
      obtain ⟨k, hk⟩ : ∃ k, hs[j]? = some k := ⟨_, List.getElem?_eq_getElem (by omega)⟩
      have hhk := hhd j k hk
      obtain ⟨ev, hev, hei⟩ := hlog k (List.mem_of_getElem? hk)
      have hEk := hE k ev hev
      have hsm1 := hsm.2 k ev hev
      have hnk := ev_n_of hev
      refine fv_iload_n C d_T_hold_2 (n := 3) rfl (i := 2) rfl rfl ?_
      refine fv_aload_n C d_T_hold_3 (n := 4) rfl (i := 0) rfl rfl ?_
      refine fv_get C (fl_T_32 D dA) d_T_hold_4 (n := 7) rfl hO.1 rfl ?_
      refine fv_icmpN_ge C (by omega) (by omega) d_T_hold_7 (tgt := 42) rfl (n := 10) rfl (fun hc7 => ?_) (fun hc7 => ?_)
      · exact absurd hc7 (by omega)
      · refine fv_aload_n C d_T_hold_10 (n := 11) rfl (i := 0) rfl rfl ?_
        refine fv_get C (fl_T_28 D dA) d_T_hold_11 (n := 14) rfl hO.1 rfl ?_
        refine fv_iload_n C d_T_hold_14 (n := 15) rfl (i := 2) rfl rfl ?_
        refine fv_aaldN C (t0 := 3) rfl d_T_hold_15 (n := 16) rfl hO.2.2 (by omega) (by decide) (show va_rf (hd j) = .ref (aE + k) by rw [hhk]; rfl) ?_
        refine fv_ifnull C d_T_hold_16 (n := 19) rfl ?_
        refine fv_aload_n C d_T_hold_19 (n := 20) rfl (i := 0) rfl rfl ?_
        refine fv_get C (fl_T_28 D dA) d_T_hold_20 (n := 23) rfl hO.1 rfl ?_
        refine fv_iload_n C d_T_hold_23 (n := 24) rfl (i := 2) rfl rfl ?_
        refine fv_aaldN C (t0 := 3) rfl d_T_hold_24 (n := 25) rfl hO.2.2 (by omega) (by decide) (show va_rf (hd j) = .ref (aE + k) by rw [hhk]; rfl) ?_
        refine fv_get C (fl_T_49 D dA) d_T_hold_25 (n := 28) rfl hEk rfl ?_
        refine fv_aload_n C d_T_hold_28 (n := 29) rfl (i := 1) rfl rfl ?_
        refine fv_get C (fl_T_49 D dA) d_T_hold_29 (n := 32) rfl hE0 rfl ?_
        refine fv_icmpN_ne C (by omega) (by omega) d_T_hold_32 (tgt := 36) rfl (n := 35) rfl (fun hc32 => ?_) (fun hc32 => ?_)
        · refine fv_iincN C d_T_hold_36 (n := 39) rfl rfl (by decide) (L' := [_, _, _]) rfl ?_
          refine fv_goto C d_T_hold_39 (tgt := 2) rfl ?_
          refine ih (j + 1) (by omega) (fun t z ht hz => ?_)
          by_cases h9 : t = j
          · subst h9; cases hk.symm.trans hz; rw [hnk]; exact hc32
          · exact hno t z (by omega) hz
        · refine fv_vret C rfl d_T_hold_35 (Nat.le_refl _) (Nat.le_refl _) ?_
          exact ⟨rfl, rfl, hs, hT0, fs_rf _ _, Or.inl ⟨rfl, Or.inl ⟨k, List.mem_of_getElem? hk, hnk.trans hc32⟩⟩⟩
  refine fv_iconst C d_T_hold_0 (n := 1) rfl kI_0 ?_
  refine fv_istore_n C d_T_hold_1 (n := 2) rfl (i := 2) rfl (by decide) (L' := [_, _, _]) rfl ?_
  exact loop hs.length 0 (by omega) (fun t k ht => absurd ht (by omega))
theorem ft_snoc (p : Nat → Bool) {hs : List Nat} {j k : Nat} (hk : hs[j]? = some k) : (hs.take (j + 1)).filter p = if p k = true then (hs.take j).filter p ++ [k] else (hs.take j).filter p := by
  rw [List.take_succ, hk, List.filter_append]
  by_cases hp : p k = true
  · simp [hp]
  · simp [hp]
theorem ct_T_forgetOldHeld {b : bo_B} {nn : Nat} (hnn : nn < 2 ^ 31) (hL : BL dA h (a + 1) b nn) (hBs : Bs ≤ a) (hE : EVS h aE log) (haE : a + 7 ≤ aE) (hsm : ev_sm log) (hT : TK dA h a i ar aE log hs nd sv) : fv_T l (fk D dA) Bs WA m_T_forgetOldHeld [.ref a] sz h 0 0 (fp_v sz (fun h' => TK dA h' a i ar aE log (hs.filter (fun k => decide (nn < ev_n log k))) nd sv ∧ fs h h' (fun x => x = a ∨ x = a + 6))) := by
  obtain ⟨hd, hO, hhd, h30, hlog⟩ := hT
  obtain ⟨ids, pri, siz, hB, hA, hw⟩ := hL
  refine fv_of (L := [_, _, _, _]) (by decide +kernel) rfl (Nat.le_of_ble_eq_true rfl) rfl ?_
  intro X hX C
  subst hX
  have loop : ∀ m j (h1 : fv_H) (hd1 : Nat → Option Nat), j + m = hs.length → TKr dA h1 a i ar hd1 hs.length nd sv → fs h h1 (fun x => x = a ∨ x = a + 6) → (∀ t k, ((hs.take j).filter (fun k => decide (nn < ev_n log k)))[t]? = some k → hd1 t = some (aE + k)) → (∀ t, j ≤ t → hd1 t = hd t) → fv_V (fk D dA) Bs X 4 (fv_MQ (fk D dA) Bs X (fp_v sz (fun h' => TK dA h' a i ar aE log (hs.filter (fun k => decide (nn < ev_n log k))) nd sv ∧ fs h h' (fun x => x = a ∨ x = a + 6))) 0 0) 4 [some (.ref a), some (.int (nI ((hs.take j).filter (fun k => decide (nn < ev_n log k))).length)), some (.int (nI j)), none] [] sz h1 0 0 := by
    intro m
    induction m with
    | zero =>
      intro j h1 hd1 hj hO hF hlo hhi
      have hj2 : hs.take j = hs := List.take_of_length_le (by omega)
      rw [hj2] at hlo ⊢
      have hfl := List.length_filter_le (fun k => decide (nn < ev_n log k)) hs
      refine fv_iload_n C d_T_forgetOldHeld_4 (n := 5) rfl (i := 2) rfl rfl ?_
      refine fv_aload_n C d_T_forgetOldHeld_5 (n := 6) rfl (i := 0) rfl rfl ?_
      refine fv_get C (fl_T_32 D dA) d_T_forgetOldHeld_6 (n := 9) rfl hO.1 rfl ?_
      refine fv_icmpN_ge C (by omega) (by omega) d_T_forgetOldHeld_9 (tgt := 53) rfl (n := 12) rfl (fun hc9 => ?_) (fun hc9 => ?_)
      · refine fv_aload_n C d_T_forgetOldHeld_53 (n := 54) rfl (i := 0) rfl rfl ?_
        refine fv_iload_n C d_T_forgetOldHeld_54 (n := 55) rfl (i := 1) rfl rfl ?_
        refine tk_phc C (fl_T_32 D dA) d_T_forgetOldHeld_55 (n := 58) rfl hO hBs (fun h2 hO hF2 => ?_)
        refine fv_vret C rfl d_T_forgetOldHeld_58 (Nat.le_refl _) (Nat.le_refl _) ?_
        exact ⟨rfl, rfl, ⟨hd1, hO, hlo, Nat.le_trans hfl h30, fun k hk => hlog k (List.mem_filter.mp hk).1⟩, hF.tr hF2 (fun z hz => hz) (fun z hz => Or.inl hz)⟩
      · exact absurd hc9 (by omega)
    | succ m ih =>
      intro j h1 hd1 hj hO hF hlo hhi
      obtain ⟨k, hk⟩ : ∃ k, hs[j]? = some k := ⟨_, List.getElem?_eq_getElem (by omega)⟩
      have hhk : hd1 j = some (aE + k) := (hhi j (Nat.le_refl _)).trans (hhd j k hk)
      obtain ⟨ev, hev, hei⟩ := hlog k (List.mem_of_getElem? hk)
      have hEk : EV h1 (aE + k) ev := (hF _ (by omega)).trans (hE k ev hev)
      have hsm1 := hsm.2 k ev hev
      have hnk := ev_n_of hev
      have hsn := ft_snoc (fun k => decide (nn < ev_n log k)) hk
      have hB1 := hB.1
      have hfl := Nat.le_trans (List.length_filter_le (fun k => decide (nn < ev_n log k)) (hs.take j)) (by rw [List.length_take]; exact Nat.min_le_left _ _)
      have hB1 : BK dA h1 (a + 1) ids pri siz (bo_srt 0 b.1).length b.1.length b.2 nn := ⟨(hF _ (by omega)).trans hB.1, (hF _ (by omega)).trans hB.2.1, (hF _ (by omega)).trans hB.2.2.1, (hF _ (by omega)).trans hB.2.2.2⟩
      refine fv_iload_n C d_T_forgetOldHeld_4 (n := 5) rfl (i := 2) rfl rfl ?_
      refine fv_aload_n C d_T_forgetOldHeld_5 (n := 6) rfl (i := 0) rfl rfl ?_
      refine fv_get C (fl_T_32 D dA) d_T_forgetOldHeld_6 (n := 9) rfl hO.1 rfl ?_
      refine fv_icmpN_ge C (by omega) (by omega) d_T_forgetOldHeld_9 (tgt := 53) rfl (n := 12) rfl (fun hc9 => ?_) (fun hc9 => ?_)
      · exact absurd hc9 (by omega)
      · refine fv_aload_n C d_T_forgetOldHeld_12 (n := 13) rfl (i := 0) rfl rfl ?_
        refine fv_get C (fl_T_28 D dA) d_T_forgetOldHeld_13 (n := 16) rfl hO.1 rfl ?_
        refine fv_iload_n C d_T_forgetOldHeld_16 (n := 17) rfl (i := 2) rfl rfl ?_
        refine fv_aaldN C (t0 := 3) rfl d_T_forgetOldHeld_17 (n := 18) rfl hO.2.2 (by omega) (by decide) (show va_rf (hd1 j) = .ref (aE + k) by rw [hhk]; rfl) ?_
        refine fv_astore_n C d_T_forgetOldHeld_18 (n := 19) rfl (i := 3) rfl (by decide) (L' := [_, _, _, _]) rfl ?_
        refine fv_aload_n C d_T_forgetOldHeld_19 (n := 20) rfl (i := 3) rfl rfl ?_
        refine fv_ifnull C d_T_forgetOldHeld_20 (n := 23) rfl ?_
        refine fv_aload_n C d_T_forgetOldHeld_23 (n := 24) rfl (i := 3) rfl rfl ?_
        refine fv_get C (fl_T_49 D dA) d_T_forgetOldHeld_24 (n := 27) rfl hEk rfl ?_
        refine fv_aload_n C d_T_forgetOldHeld_27 (n := 28) rfl (i := 0) rfl rfl ?_
        refine fv_get C (fl_T_12 D dA) d_T_forgetOldHeld_28 (n := 31) rfl hO.1 rfl ?_
        refine fv_get C (fl_T_46 D dA) d_T_forgetOldHeld_31 (n := 34) rfl hB1.1 rfl ?_
        refine fv_icmpN_le C (by omega) (by omega) d_T_forgetOldHeld_34 (tgt := 47) rfl (n := 37) rfl (fun hc34 => ?_) (fun hc34 => ?_)
        · have hp : ¬ decide (nn < ev_n log k) = true := by rw [hnk]; simpa using hc34
          rw [if_neg hp] at hsn
          refine fv_iincN C d_T_forgetOldHeld_47 (n := 50) rfl rfl (by decide) (L' := [_, _, _, _]) rfl ?_
          refine fv_goto C d_T_forgetOldHeld_50 (tgt := 4) rfl ?_
          refine fv_drop 3 (L' := [_, _, _, _]) rfl ?_
          refine fv_eqL (by rw [hsn]) (ih (j + 1) h1 hd1 (by omega) hO hF (by rw [hsn]; exact hlo) (fun t ht => hhi t (by omega)))
        · have hp : decide (nn < ev_n log k) = true := by rw [hnk]; simpa using hc34
          rw [if_pos hp] at hsn
          refine fv_aload_n C d_T_forgetOldHeld_37 (n := 38) rfl (i := 0) rfl rfl ?_
          refine fv_get C (fl_T_28 D dA) d_T_forgetOldHeld_38 (n := 41) rfl hO.1 rfl ?_
          refine fv_iload_n C d_T_forgetOldHeld_41 (n := 42) rfl (i := 1) rfl rfl ?_
          refine fv_aload_n C d_T_forgetOldHeld_42 (n := 43) rfl (i := 3) rfl rfl ?_
          refine tk_sh C d_T_forgetOldHeld_43 (n := 44) rfl hO hEk hBs (by omega) (fun h2 hO hF2 => ?_)
          refine fv_iincN C d_T_forgetOldHeld_44 (n := 47) rfl rfl (by decide) (L' := [_, _, _, _]) rfl ?_
          refine fv_iincN C d_T_forgetOldHeld_47 (n := 50) rfl rfl (by decide) (L' := [_, _, _, _]) rfl ?_
          refine fv_goto C d_T_forgetOldHeld_50 (tgt := 4) rfl ?_
          refine fv_drop 3 (L' := [_, _, _, _]) rfl ?_
          refine fv_eqL (by rw [hsn, List.length_append]; rfl) (ih (j + 1) h2 _ (by omega) hO (hF.tr hF2 (fun z hz => hz) (fun z hz => Or.inr hz)) (fun t z hz => ?_) (fun t ht => by rw [va_up_ne _ _ (by omega)]; exact hhi t (by omega)))
          rw [hsn] at hz
          by_cases h9 : t < ((hs.take j).filter (fun k => decide (nn < ev_n log k))).length
          · rw [List.getElem?_append_left h9] at hz; rw [va_up_ne _ _ (by omega)]; exact hlo t z hz
          · rw [List.getElem?_append_right (by omega)] at hz
            have h10 : t - ((hs.take j).filter (fun k => decide (nn < ev_n log k))).length < 1 := (List.getElem?_eq_some_iff.mp hz).1
            have h11 : t = ((hs.take j).filter (fun k => decide (nn < ev_n log k))).length := by omega
            rw [h11, Nat.sub_self, List.getElem?_cons_zero] at hz
            cases hz
            rw [h11]
            exact va_up_self _ _ _
  refine fv_iconst C d_T_forgetOldHeld_0 (n := 1) rfl kI_0 ?_
  refine fv_istore_n C d_T_forgetOldHeld_1 (n := 2) rfl (i := 1) rfl (by decide) (L' := [_, _, _, _]) rfl ?_
  refine fv_iconst C d_T_forgetOldHeld_2 (n := 3) rfl kI_0 ?_
  refine fv_istore_n C d_T_forgetOldHeld_3 (n := 4) rfl (i := 2) rfl (by decide) (L' := [_, _, _, _]) rfl ?_
  exact loop hs.length 0 h hd (by omega) hO (fs_rf _ _) (fun t k hk => by simp at hk) (fun t _ => rfl)
end TKW
end
section
/-! Track: follow, take, restore -/
theorem fe_num_at {log : List bo_E} (hok : fe_ok log) {k : Nat} {ev : bo_E} (hk : log[k]? = some ev) : (fe_li log ev.2.1)[ev.2.2.1 - 1]? = some ev ∧ 1 ≤ ev.2.2.1 ∧ ev.2.2.1 ≤ (fe_li log ev.2.1).length := by
  have hm : ev ∈ fe_li log ev.2.1 := List.mem_filter.mpr ⟨List.mem_of_getElem? hk, by simp⟩
  obtain ⟨j, hj⟩ := List.getElem?_of_mem hm
  obtain ⟨h1, -, -⟩ := hok _ j ev hj
  have hl := (List.getElem?_eq_some_iff.mp hj).1
  rw [h1, Nat.add_sub_cancel]
  exact ⟨hj, by omega, by omega⟩
theorem fe_li_400 {log : List bo_E} (hsm : ev_sm log) (i : Nat) : (fe_li log i).length ≤ 400 := Nat.le_trans (fe_li_len log i) hsm.1
def SX (a ar : Nat) : Nat → Prop := fun x => (a ≤ x ∧ x < a + 7) ∨ (ar ≤ x ∧ x < ar + 3)
def TRP (dA : Nat → ClassId) (h : fv_H) (a i ar aE : Nat) (log : List bo_E) (nd : Nat) (fx : Nat → Int32) (t : tr_T) (h' : fv_H) : Prop :=
  ∃ (hs : List Nat) (sv : Nat → Int32), TK dA h' a i ar aE log hs nd sv ∧ (∀ c, c < 19 → sv c = fe_vw (fe_bk log i t.1) c) ∧ BL dA h' (a + 1) (fe_bk log i t.1) t.1 ∧ RD dA h' ar t.2.2 fx ∧ (hs.map (ev_n log)).Perm t.2.1 ∧ fs h h' (SX a ar)
theorem tr_dif_congr {f g v : Nat → Int32} (h : ∀ c, c < 19 → f c = g c) : tr_dif f v = tr_dif g v := by
  unfold tr_dif
  rw [Bool.eq_iff_iff, List.any_eq_true, List.any_eq_true]
  constructor
  · rintro ⟨c, hc, h1⟩
    exact ⟨c, hc, by rw [← h c (List.mem_range.mp hc)]; exact h1⟩
  · rintro ⟨c, hc, h1⟩
    exact ⟨c, hc, by rw [h c (List.mem_range.mp hc)]; exact h1⟩
section TK2
variable {l : Launch} {D : va_G} {dA : Nat → ClassId} {Bs sz : Nat} {h : fv_H} {a i ar aE : Nat} {log : List bo_E} {hs : List Nat} {nd : Nat} {sv : Nat → Int32} {fx : Nat → Int32}
theorem ct_T_follow {m n : Nat} {hl row : List Nat} (hok : fe_ok log) (hsm : ev_sm log) (hi : i < 4) (hBs : Bs ≤ a) (hBr : Bs ≤ ar) (hdis : ar + 3 ≤ a) (haE : a + 7 ≤ aE) (hE : EVS h aE log) (hT : TK dA h a i ar aE log hs nd sv) (hsv : ∀ c, c < 19 → sv c = fe_vw (fe_bk log i m) c) (hL : BL dA h (a + 1) (fe_bk log i n) n) (hR : RD dA h ar row fx) (hJ : tr_J log i (n, hl, row)) (hp : (hs.map (ev_n log)).Perm hl) : fv_T l (fk D dA) Bs WA m_T_follow [.ref a] sz h 0 0 (fp_v sz (TRP dA h a i ar aE log nd fx (tr_fol log i hl.length (tr_bec log i n (m, hl, row))))) := by
  have h400 := fe_li_400 hsm i
  refine fv_of (L := [_, _, _]) (by decide +kernel) rfl (Nat.le_of_ble_eq_true rfl) rfl ?_
  intro X hX C
  subst hX
  obtain ⟨tt, htt⟩ : ∃ tt, tt = (tr_fol log i hl.length (tr_bec log i n (m, hl, row))) := ⟨_, rfl⟩
  rw [← htt]
  have loop : ∀ (q m n c : Nat) (hl row hs : List Nat) (sv : Nat → Int32) (h1 : fv_H), hl.length = q → c + q ≤ 30 → fs h h1 (SX a ar) → TK dA h1 a i ar aE log hs nd sv → (∀ c, c < 19 → sv c = fe_vw (fe_bk log i m) c) → BL dA h1 (a + 1) (fe_bk log i n) n → RD dA h1 ar row fx → tr_J log i (n, hl, row) → (hs.map (ev_n log)).Perm hl → tt = (tr_fol log i hl.length (tr_bec log i n (m, hl, row))) → fv_V (fk D dA) Bs X 3 (fv_MQ (fk D dA) Bs X (fp_v sz (TRP dA h a i ar aE log nd fx tt)) 0 0) 2 [some (.ref a), some (.int (nI c)), none] [] sz h1 0 0 := by
    intro q
    induction q using Nat.strongRecOn with
    | ind q ih =>
    intro m n c hl row hs sv h1 hq hc hF hT hsv hL hR hJ hp htt
    have hn400 : n ≤ 400 := Nat.le_trans hJ.1 h400
    have hL0 := hL
    obtain ⟨hd, hO, hhd, h30, hlog⟩ := hT
    obtain ⟨ids, pri, siz, hB, hA, hw⟩ := hL0
    have rest : ∀ (h2 : fv_H) (sv2 : Nat → Int32) (row2 : List Nat), fs h h2 (SX a ar) → TK dA h2 a i ar aE log hs nd sv2 → (∀ c, c < 19 → sv2 c = fe_vw (fe_bk log i n) c) → BL dA h2 (a + 1) (fe_bk log i n) n → RD dA h2 ar row2 fx → tr_bec log i n (m, hl, row) = (n, hl, row2) → tr_J log i (n, hl, row2) → fv_V (fk D dA) Bs X 3 (fv_MQ (fk D dA) Bs X (fp_v sz (TRP dA h a i ar aE log nd fx tt)) 0 0) 33 [some (.ref a), some (.int (nI c)), none] [] sz h2 0 0 := by
      intro h2 sv2 row2 hF hT hsv2 hL hR hbec hJ2
      have hT0 := hT
      have hL1 := hL
      obtain ⟨hd, hO, hhd, h30, hlog⟩ := hT
      obtain ⟨ids, pri, siz, hB, hA, hw⟩ := hL1
      have hE2 : EVS h2 aE log := hE.fs hF (fun x hx => by unfold SX; omega)
      refine fv_aload_n C d_T_follow_33 (n := 34) rfl (i := 0) rfl rfl ?_
      refine fv_aload_n C d_T_follow_34 (n := 35) rfl (i := 0) rfl rfl ?_
      refine fv_get C (fl_T_12 D dA) d_T_follow_35 (n := 38) rfl hO.1 rfl ?_
      refine fv_get C (fl_T_46 D dA) d_T_follow_38 (n := 41) rfl hB.1 rfl ?_
      refine fv_iconst C d_T_follow_41 (n := 42) rfl kI_1 ?_
      first | refine fv_iaddN C d_T_follow_42 (n := 43) rfl ?_ | refine fv_iadd C d_T_follow_42 (n := 43) rfl ?_
      refine fv_callV_a C (ml_T_85 D dA) im_T_takeHeld se_T_takeHeld hO.1 rfl (ct_T_takeHeld (n := n + 1) (by omega) hBs hE2 haE hsm hT0) d_T_follow_43 (n := 46) rfl rfl rfl rfl (Nat.le_of_ble_eq_true rfl) (Nat.le_of_ble_eq_true rfl) (Nat.le_of_ble_eq_true rfl) (Nat.le_refl _) (Nat.le_refl _) (fun r0 h3 hp3 => ?_)
      rcases hp3 with ⟨k, hs2, rfl, hnk, hperm, hT3, hF3⟩ | ⟨rfl, rfl, hno⟩
      · have hkm : k ∈ hs := hperm.mem_iff.mpr List.mem_cons_self
        obtain ⟨ev, hev, hei⟩ := hlog k hkm
        have hnum := (ev_n_of hev).symm.trans hnk
        obtain ⟨hat, h1n, hnl⟩ := fe_num_at hok hev
        rw [hnum, hei] at hat hnl
        rw [Nat.add_sub_cancel] at hat
        obtain ⟨-, hew, hbok⟩ := hok i n ev hat
        have hEk : EV h3 (aE + k) ev := (hF3 _ (by omega)).trans (hE2 k ev hev)
        have hL3 := hL.fs hF3 ⟨by omega, by omega, by omega, by omega⟩
        have hR3 := hR.fs hF3 ⟨by omega, by omega, by omega⟩
        obtain ⟨ids, pri, siz, hB, hA, hw⟩ := hL3
        have hL3 : BL dA h3 (a + 1) (fe_bk log i n) n := ⟨ids, pri, siz, hB, hA, hw⟩
        have hO : TKr dA h3 a i ar hT3.choose hs2.length nd sv2 := hT3.choose_spec.1
        have hmp : (n + 1) :: (hs2.map (ev_n log)) |>.Perm hl := by
          have h9 := (hperm.map (ev_n log)).symm.trans hp
          rw [List.map_cons, hnk] at h9
          exact h9
        obtain ⟨hin, hpe⟩ := List.cons_perm_iff_perm_erase.mp hmp
        have hel := List.length_erase_of_mem hin
        have hpos : 0 < hl.length := List.length_pos_of_mem hin
        refine fv_astore_n C d_T_follow_46 (n := 47) rfl (i := 2) rfl (by decide) (L' := [_, _, _]) rfl ?_
        refine fv_aload_n C d_T_follow_47 (n := 48) rfl (i := 2) rfl rfl ?_
        refine fv_ifnonnull C d_T_follow_48 (tgt := 52) rfl ?_
        refine fv_aload_n C d_T_follow_52 (n := 53) rfl (i := 0) rfl rfl ?_
        refine fv_get C (fl_T_12 D dA) d_T_follow_53 (n := 56) rfl hO.1 rfl ?_
        refine fv_aload_n C d_T_follow_56 (n := 57) rfl (i := 2) rfl rfl ?_
        refine fv_callV_v C (ml_T_52 D dA) im_B_apply se_B_apply hB.1 rfl (ct_B_apply hEk (by omega) (by omega) hew hbok hL3) d_T_follow_57 (n := 60) rfl rfl rfl rfl (Nat.le_of_ble_eq_true rfl) (Nat.le_of_ble_eq_true rfl) (Nat.le_of_ble_eq_true rfl) (Nat.le_refl _) (Nat.le_refl _) (fun h4 hp4 => ?_)
        obtain ⟨hL4, hF4⟩ := hp4
        rw [← fe_bk_succ hat] at hL4
        refine fv_iincN C d_T_follow_60 (n := 63) rfl rfl (by decide) (L' := [_, _, _]) rfl ?_
        refine fv_goto C d_T_follow_63 (tgt := 2) rfl ?_
        refine fv_drop 2 (L' := [_, _, _]) rfl ?_
        refine ih (hl.erase (n + 1)).length (by omega) n (n + 1) (c + 1) (hl.erase (n + 1)) row2 hs2 sv2 h4 rfl (by omega) ?_ (hT3.fs hF4 ⟨by omega, by omega, by omega⟩) hsv2 hL4 (hR3.fs hF4 ⟨by omega, by omega, by omega⟩) ?_ hpe ?_
        · exact (hF.tr hF3 (U := SX a ar) (fun x hx => hx) (fun x hx => by unfold SX; omega)).tr hF4 (fun x hx => hx) (fun x hx => by unfold SX; omega)
        · obtain ⟨j1, j2, j3, j4, j5, j6⟩ := hJ2
          refine ⟨hnl, j2.erase _, fun x hx => ⟨?_, (j3 x (List.mem_of_mem_erase hx)).2⟩, by show (hl.erase (n + 1)).length ≤ 30; dsimp only at j4; omega, j5, j6⟩
          have hx1 := (j3 x (List.mem_of_mem_erase hx)).1
          have hx2 : x ≠ n + 1 := fun q => by rw [q] at hx; exact (List.Nodup.not_mem_erase j2) hx
          dsimp only at hx1 ⊢
          omega
        · rw [htt, hbec, show hl.length = (hl.erase (n + 1)).length + 1 by omega, tr_fol, if_pos hin]
      · have hni : n + 1 ∉ hl := by
          intro hin
          obtain ⟨k, hk, hkn⟩ := List.mem_map.mp (hp.mem_iff.mpr hin)
          exact hno k hk hkn
        have hfin : tt = (n, hl, row2) := by
          rw [htt, hbec]
          cases hl.length with
          | zero => rfl
          | succ q => rw [tr_fol, if_neg hni]
        refine fv_astore_nN C d_T_follow_46 (n := 47) rfl (i := 2) rfl (by decide) (L' := [_, _, _]) rfl ?_
        refine fv_aload_nN C d_T_follow_47 (n := 48) rfl (i := 2) rfl rfl ?_
        refine fv_ifnonnullN C d_T_follow_48 (n := 51) rfl ?_
        refine fv_vret C rfl d_T_follow_51 (Nat.le_refl _) (Nat.le_refl _) ?_
        rw [hfin]
        exact ⟨rfl, rfl, hs, sv2, hT0, hsv2, hL, hR, hp, hF⟩
    have hE1 : EVS h1 aE log := hE.fs hF (fun x hx => by unfold SX; omega)
    have hdc := tr_dif_congr (v := fe_vw (fe_bk log i n)) hsv
    obtain ⟨gR, hRr, hRg⟩ := hR
    have hR : RD dA h1 ar row fx := ⟨gR, hRr, hRg⟩
    refine fv_iload_n C d_T_follow_2 (n := 3) rfl (i := 1) rfl rfl ?_
    refine fv_bipush C d_T_follow_3 (n := 5) rfl kB_30 ?_
    refine fv_icmpN_gt C (by omega) (by omega) d_T_follow_5 (tgt := 66) rfl (n := 8) rfl (fun hc5 => ?_) (fun hc5 => ?_)
    · exact absurd hc5 (by omega)
    · refine fv_aload_n C d_T_follow_8 (n := 9) rfl (i := 0) rfl rfl ?_
      refine fv_get C (fl_T_12 D dA) d_T_follow_9 (n := 12) rfl hO.1 rfl ?_
      refine fv_aload_n C d_T_follow_12 (n := 13) rfl (i := 0) rfl rfl ?_
      refine fv_get C (fl_T_22 D dA) d_T_follow_13 (n := 16) rfl hO.1 rfl ?_
      refine fv_callV_i C (ml_T_75 D dA) im_B_refresh se_B_refresh hB.1 rfl (ct_B_refresh hO.2.1 (by omega) (by omega) hL) d_T_follow_16 (n := 19) rfl rfl rfl rfl (Nat.le_of_ble_eq_true rfl) (Nat.le_of_ble_eq_true rfl) (Nat.le_of_ble_eq_true rfl) (Nat.le_refl _) (Nat.le_refl _) (fun r0 h2 hp2 => ?_)
      obtain ⟨rfl, hc2, hF2⟩ := hp2
      have hO : TKr dA h2 a i ar hd hs.length nd _ := ⟨(hF2.at (by omega)).trans hO.1, hc2, (hF2.at (by omega)).trans hO.2.2⟩
      have hT2 : TK dA h2 a i ar aE log hs nd _ := ⟨hd, hO, hhd, h30, hlog⟩
      have hL2 := hL.fr hF2 (by omega)
      have hR2 := hR.fs hF2.fs ⟨by omega, by omega, by omega⟩
      have hRr : RDr dA h2 ar gR row.length fx := hRr.fs hF2.fs ⟨by omega, by omega, by omega⟩
      have hF2 := hF.tr hF2.fs (U := SX a ar) (fun x hx => hx) (fun x hx => by unfold SX; omega)
      rw [hdc]
      refine fv_ifB_eq C d_T_follow_19 (tgt := 33) rfl (n := 22) rfl (fun hc19 => ?_) (fun hc19 => ?_)
      · exact rest h2 _ row hF2 hT2 (fun c hc => by rw [if_pos hc]) hL2 hR2 (by unfold tr_bec; dsimp only; rw [hc19]; rfl) hJ
      · refine fv_aload_n C d_T_follow_22 (n := 23) rfl (i := 0) rfl rfl ?_
        refine fv_get C (fl_T_42 D dA) d_T_follow_23 (n := 26) rfl hO.1 rfl ?_
        refine fv_aload_n C d_T_follow_26 (n := 27) rfl (i := 0) rfl rfl ?_
        refine fv_get C (fl_T_39 D dA) d_T_follow_27 (n := 30) rfl hO.1 rfl ?_
        refine fv_callV_v C (ml_T_79 D dA) im_W_mark se_W_mark hRr.1 rfl (ct_W_mark hi hBr hJ.2.2.2.2.1 hJ.2.2.2.2.2 hR2) d_T_follow_30 (n := 33) rfl rfl rfl rfl (Nat.le_of_ble_eq_true rfl) (Nat.le_of_ble_eq_true rfl) (Nat.le_of_ble_eq_true rfl) (Nat.le_refl _) (Nat.le_refl _) (fun h3 hp3 => ?_)
        obtain ⟨hR3, hF3⟩ := hp3
        exact rest h3 _ (tr_mark i row) (hF2.tr hF3 (fun x hx => hx) (fun x hx => by unfold SX; omega)) (hT2.fs hF3 ⟨by omega, by omega, by omega⟩) (fun c hc => by rw [if_pos hc]) (hL2.fs hF3 ⟨by omega, by omega, by omega, by omega⟩) hR3 (by unfold tr_bec; dsimp only; rw [hc19]; rfl) ⟨hJ.1, hJ.2.1, hJ.2.2.1, hJ.2.2.2.1, (tr_mark_I hi hJ.2.2.2.2.1 hJ.2.2.2.2.2).1, (tr_mark_I hi hJ.2.2.2.2.1 hJ.2.2.2.2.2).2⟩
  refine fv_iconst C d_T_follow_0 (n := 1) rfl kI_0 ?_
  refine fv_istore_n C d_T_follow_1 (n := 2) rfl (i := 1) rfl (by decide) (L' := [_, _, _]) rfl ?_
  exact loop hl.length m n 0 hl row hs sv h rfl (by have := hJ.2.2.2.1; dsimp only at this; omega) (fs_rf _ _) hT hsv hL hR hJ hp htt
theorem ct_T_take {n k0 : Nat} {hl row : List Nat} {ev0 : bo_E} (hok : fe_ok log) (hsm : ev_sm log) (hi : i < 4) (hBs : Bs ≤ a) (hBr : Bs ≤ ar) (hdis : ar + 3 ≤ a) (haE : a + 7 ≤ aE) (hE : EVS h aE log) (hk0 : log[k0]? = some ev0) (hi0 : ev0.2.1 = i) (hT : TK dA h a i ar aE log hs nd sv) (hsv : ∀ c, c < 19 → sv c = fe_vw (fe_bk log i n) c) (hL : BL dA h (a + 1) (fe_bk log i n) n) (hR : RD dA h ar row fx) (hI : tr_I log i (n, hl, row)) (hp : (hs.map (ev_n log)).Perm hl) : fv_T l (fk D dA) Bs WA m_T_take [.ref a, .ref (aE + k0)] sz h 0 0 (fp_v sz (TRP dA h a i ar aE log nd fx (tr_take log i ev0.2.2.1 (n, hl, row)))) := by
  have h400 := fe_li_400 hsm i
  have hn400 : n ≤ 400 := Nat.le_trans hI.1 h400
  have hsm0 := hsm.2 k0 ev0 hk0
  have hE0 := hE k0 ev0 hk0
  obtain ⟨hat, h1n, hnl⟩ := fe_num_at hok hk0
  rw [hi0] at hat hnl
  have hT0 := hT
  have hL0 := hL
  obtain ⟨hd, hO, hhd, h30, hlog⟩ := hT
  obtain ⟨ids, pri, siz, hB, hA, hw⟩ := hL0
  refine fv_of (L := [_, _, _]) (by decide +kernel) rfl (Nat.le_of_ble_eq_true rfl) rfl ?_
  intro X hX C
  subst hX
  refine fv_aload_n C d_T_take_0 (n := 1) rfl (i := 0) rfl rfl ?_
  refine fv_get C (fl_T_12 D dA) d_T_take_1 (n := 4) rfl hO.1 rfl ?_
  refine fv_get C (fl_T_46 D dA) d_T_take_4 (n := 7) rfl hB.1 rfl ?_
  refine fv_iconst C d_T_take_7 (n := 8) rfl kI_1 ?_
  first | refine fv_iaddN C d_T_take_8 (n := 9) rfl ?_ | refine fv_iadd C d_T_take_8 (n := 9) rfl ?_
  refine fv_istore_n C d_T_take_9 (n := 10) rfl (i := 2) rfl (by decide) (L' := [_, _, _]) rfl ?_
  refine fv_aload_n C d_T_take_10 (n := 11) rfl (i := 1) rfl rfl ?_
  refine fv_get C (fl_T_49 D dA) d_T_take_11 (n := 14) rfl hE0 rfl ?_
  refine fv_iload_n C d_T_take_14 (n := 15) rfl (i := 2) rfl rfl ?_
  refine fv_icmpN_ne C (by omega) (by omega) d_T_take_15 (tgt := 33) rfl (n := 18) rfl (fun hc15 => ?_) (fun hc15 => ?_)
  · have htk : tr_take log i ev0.2.2.1 (n, hl, row) = if n + 1 < ev0.2.2.1 ∧ ev0.2.2.1 ∉ hl ∧ hl.length < 30 then (n, hl ++ [ev0.2.2.1], row) else (n, hl, row) := by unfold tr_take; rw [if_neg hc15]
    refine fv_aload_n C d_T_take_33 (n := 34) rfl (i := 1) rfl rfl ?_
    refine fv_get C (fl_T_49 D dA) d_T_take_34 (n := 37) rfl hE0 rfl ?_
    refine fv_iload_n C d_T_take_37 (n := 38) rfl (i := 2) rfl rfl ?_
    refine fv_icmpN_le C (by omega) (by omega) d_T_take_38 (tgt := 46) rfl (n := 41) rfl (fun hc38 => ?_) (fun hc38 => ?_)
    · rw [if_neg (fun q => by omega)] at htk
      refine fv_vret C rfl d_T_take_46 (Nat.le_refl _) (Nat.le_refl _) ?_
      rw [htk]
      exact ⟨rfl, rfl, hs, sv, hT0, hsv, hL, hR, hp, fs_rf _ _⟩
    · refine fv_aload_n C d_T_take_41 (n := 42) rfl (i := 0) rfl rfl ?_
      refine fv_aload_n C d_T_take_42 (n := 43) rfl (i := 1) rfl rfl ?_
      refine fv_callV_v C (ml_T_59 D dA) im_T_hold se_T_hold hO.1 rfl (ct_T_hold hk0 hi0 hBs hE haE hsm hT0) d_T_take_43 (n := 46) rfl rfl rfl rfl (Nat.le_of_ble_eq_true rfl) (Nat.le_of_ble_eq_true rfl) (Nat.le_of_ble_eq_true rfl) (Nat.le_refl _) (Nat.le_refl _) (fun h3 hp3 => ?_)
      obtain ⟨hs3, q1, q2, q3⟩ := hp3
      refine fv_vret C rfl d_T_take_46 (Nat.le_refl _) (Nat.le_refl _) ?_
      rw [htk]
      have hmem : ev0.2.2.1 ∈ hl ↔ ∃ k ∈ hs, ev_n log k = ev0.2.2.1 := by rw [← hp.mem_iff, List.mem_map]
      have hlen : hl.length = hs.length := by rw [← hp.length_eq, List.length_map]
      have hL3 := hL.fs q2 ⟨by omega, by omega, by omega, by omega⟩
      have hR3 := hR.fs q2 ⟨by omega, by omega, by omega⟩
      have hF3 : fs h h3 (SX a ar) := q2.mono (fun x hx => by unfold SX; omega)
      rcases q3 with ⟨rfl, h9⟩ | ⟨rfl, h9, h10⟩
      · rw [if_neg (fun q => by rcases h9 with h9 | h9; exact q.2.1 (hmem.mpr h9); omega)]
        exact ⟨rfl, rfl, hs3, sv, q1, hsv, hL3, hR3, hp, hF3⟩
      · rw [if_pos ⟨hc38, fun q => by obtain ⟨k, hk, e⟩ := hmem.mp q; exact h9 k hk e, by omega⟩]
        refine ⟨rfl, rfl, _, sv, q1, hsv, hL3, hR3, ?_, hF3⟩
        rw [List.map_append, List.map_cons, List.map_nil, ev_n_of hk0]
        exact hp.append_right _
  · rw [hc15, Nat.add_sub_cancel] at hat
    obtain ⟨-, hew, hbok⟩ := hok i n ev0 hat
    refine fv_aload_n C d_T_take_18 (n := 19) rfl (i := 0) rfl rfl ?_
    refine fv_get C (fl_T_12 D dA) d_T_take_19 (n := 22) rfl hO.1 rfl ?_
    refine fv_aload_n C d_T_take_22 (n := 23) rfl (i := 1) rfl rfl ?_
    refine fv_callV_v C (ml_T_52 D dA) im_B_apply se_B_apply hB.1 rfl (ct_B_apply hE0 (by omega) (by omega) hew hbok hL) d_T_take_23 (n := 26) rfl rfl rfl rfl (Nat.le_of_ble_eq_true rfl) (Nat.le_of_ble_eq_true rfl) (Nat.le_of_ble_eq_true rfl) (Nat.le_refl _) (Nat.le_refl _) (fun h2 hp2 => ?_)
    obtain ⟨hL2, hF2⟩ := hp2
    rw [← fe_bk_succ hat] at hL2
    have hT2 := hT0.fs hF2.fs ⟨by omega, by omega, by omega⟩
    have hO : TKr dA h2 a i ar hd hs.length nd sv := hO.fs hF2.fs ⟨by omega, by omega, by omega⟩
    have hJ2 : tr_J log i (n + 1, hl, row) := ⟨by rw [hc15] at hnl; exact hnl, hI.2.1, fun x hx => hI.2.2.1 x hx, hI.2.2.2⟩
    refine fv_aload_n C d_T_take_26 (n := 27) rfl (i := 0) rfl rfl ?_
    refine fv_callV_v C (ml_T_56 D dA) im_T_follow se_T_follow hO.1 rfl (ct_T_follow (m := n) (n := n + 1) hok hsm hi hBs hBr hdis haE (hE.fs hF2.fs (fun x hx => by omega)) hT2 hsv hL2 (hR.fs hF2.fs ⟨by omega, by omega, by omega⟩) hJ2 hp) d_T_take_27 (n := 30) rfl rfl rfl rfl (Nat.le_of_ble_eq_true rfl) (Nat.le_of_ble_eq_true rfl) (Nat.le_of_ble_eq_true rfl) (Nat.le_refl _) (Nat.le_refl _) (fun h3 hp3 => ?_)
    obtain ⟨hs3, sv3, q1, q2, q3, q4, q5, q6⟩ := hp3
    have htk : tr_take log i ev0.2.2.1 (n, hl, row) = tr_fol log i hl.length (tr_bec log i (n + 1) (n, hl, row)) := by unfold tr_take; rw [if_pos hc15, hc15]
    refine fv_goto C d_T_take_30 (tgt := 46) rfl ?_
    refine fv_vret C rfl d_T_take_46 (Nat.le_refl _) (Nat.le_refl _) ?_
    rw [htk]
    exact ⟨rfl, rfl, hs3, sv3, q1, q2, q3, q4, q5, hF2.fs.tr q6 (fun x hx => by unfold SX; omega) (fun x hx => hx)⟩
end TK2
end
section
/-! Snapshot, and Track.restore -/
def SNr (dA : Nat → ClassId) (h : fv_H) (a : Nat) (si : Nat) (cov : Nat) : Prop := h (a) = some (.inr (6, [.ref (a + 1), .int (nI si), .int (nI cov)]))
section SNrS
variable {D : va_G} {dA : Nat → ClassId} {Bs : Nat} {X : fv_X} {M : fv_M} {mc ms nL : Nat} {Q : State → Prop} {pc n : Nat} {L L' : List (Option Value)} {st : List Value} {sz : Nat} {h : fv_H} {cells slots : Nat} {a : Nat} {si : Nat} {cov : Nat}
theorem SNr.fs {h' : fv_H} {S : Nat → Prop} (hO : SNr dA h a si cov) (hf : fs h h' S) (hd : ¬ S (a)) : SNr dA h' a si cov := by
  exact (hf _ hd).trans hO
theorem sn_pi (C : fv_C (fk D dA) WA X M mc ms) {idx : Nat} {v : Nat} (F : fv_FL (fk D dA) WA M.1.cls idx 6 1 .int false) (hd : decode M.2.1 pc = .ok (.putfield idx, 3)) (hn : pc + 3 = n) (hO : SNr dA h a si cov) (hBs : Bs ≤ a) (kk : ∀ h' : fv_H, SNr dA h' a v cov → fs h h' (fun z => z = a) → fv_V (fk D dA) Bs X nL Q n L st sz h' cells slots) : fv_V (fk D dA) Bs X nL Q pc L (.int (nI v) :: .ref (a) :: st) sz h cells slots := by
  refine fv_put C F (Or.inl rfl) hd hn hO (by omega) rfl rfl (Nat.le_of_ble_eq_true rfl) ?_
  refine kk _ ?_ (fun z hz => va_up_ne _ _ hz)
  exact va_up_self _ _ _
theorem sn_pc (C : fv_C (fk D dA) WA X M mc ms) {idx : Nat} {v : Nat} (F : fv_FL (fk D dA) WA M.1.cls idx 6 2 .int false) (hd : decode M.2.1 pc = .ok (.putfield idx, 3)) (hn : pc + 3 = n) (hO : SNr dA h a si cov) (hBs : Bs ≤ a) (kk : ∀ h' : fv_H, SNr dA h' a si v → fs h h' (fun z => z = a) → fv_V (fk D dA) Bs X nL Q n L st sz h' cells slots) : fv_V (fk D dA) Bs X nL Q pc L (.int (nI v) :: .ref (a) :: st) sz h cells slots := by
  refine fv_put C F (Or.inl rfl) hd hn hO (by omega) rfl rfl (Nat.le_of_ble_eq_true rfl) ?_
  refine kk _ ?_ (fun z hz => va_up_ne _ _ hz)
  exact va_up_self _ _ _
end SNrS
/-- how many pieces a book of n orders has -/
def sn_pcs (n : Nat) : Nat := if n = 0 then 1 else (n + 2) / 3
/-- is x the number of a piece -/
def sn_has (x : Int32) (n : Nat) : Bool := decide (nI 1 ≤ x ∧ x ≤ nI (sn_pcs n))
section SNW
variable {l : Launch} {D : va_G} {dA : Nat → ClassId} {Bs sz : Nat} {h : fv_H} {a : Nat}
theorem ct_S_fix {si cov i2 cov2 a2 n2 n1 : Nat} {b2 b1 : bo_B} (hBs : Bs ≤ a) (hd : a2 + 4 ≤ a ∨ a + 5 ≤ a2) (hO : SNr dA h a si cov) (hL : BL dA h (a + 1) b1 n1) (hL2 : BL dA h a2 b2 n2) : fv_T l (fk D dA) Bs WA m_S_fix [.ref a, .int (nI i2), .ref a2, .int (nI cov2)] sz h 0 0 (fp_v sz (fun h' => SNr dA h' a i2 cov2 ∧ BL dA h' (a + 1) b2 n2 ∧ fs h h' (fun x => a ≤ x ∧ x < a + 5))) := by
  refine fv_of (L := [_, _, _, _]) (by decide +kernel) rfl (Nat.le_of_ble_eq_true rfl) rfl ?_
  intro X hX C
  subst hX
  refine fv_aload_n C d_S_fix_0 (n := 1) rfl (i := 0) rfl rfl ?_
  refine fv_iload_n C d_S_fix_1 (n := 2) rfl (i := 1) rfl rfl ?_
  refine sn_pi C (fl_S_18 D dA) d_S_fix_2 (n := 5) rfl hO hBs (fun h1 hO hF1 => ?_)
  have hL := hL.fs hF1 ⟨by omega, by omega, by omega, by omega⟩
  have hL2 := hL2.fs hF1 ⟨by omega, by omega, by omega, by omega⟩
  have hL0 := hL
  obtain ⟨ids, pri, siz, hB, hA, hw⟩ := hL0
  refine fv_aload_n C d_S_fix_5 (n := 6) rfl (i := 0) rfl rfl ?_
  refine fv_get C (fl_S_12 D dA) d_S_fix_6 (n := 9) rfl hO rfl ?_
  refine fv_aload_n C d_S_fix_9 (n := 10) rfl (i := 2) rfl rfl ?_
  refine fv_callV_v C (ml_S_25 D dA) im_B_become se_B_become hB.1 rfl (ct_B_become (by omega) (by omega) hL hL2) d_S_fix_10 (n := 13) rfl rfl rfl rfl (Nat.le_of_ble_eq_true rfl) (Nat.le_of_ble_eq_true rfl) (Nat.le_of_ble_eq_true rfl) (Nat.le_refl _) (Nat.le_refl _) (fun h2 hp2 => ?_)
  obtain ⟨hL3, hF2⟩ := hp2
  have hO : SNr dA h2 a i2 cov := hO.fs hF2.fs (by omega)
  refine fv_aload_n C d_S_fix_13 (n := 14) rfl (i := 0) rfl rfl ?_
  refine fv_iload_n C d_S_fix_14 (n := 15) rfl (i := 3) rfl rfl ?_
  refine sn_pc C (fl_S_22 D dA) d_S_fix_15 (n := 18) rfl hO hBs (fun h3 hO hF3 => ?_)
  refine fv_vret C rfl d_S_fix_18 (Nat.le_refl _) (Nat.le_refl _) ?_
  exact ⟨rfl, rfl, hO, hL3.fs hF3 ⟨by omega, by omega, by omega, by omega⟩, (hF1.tr hF2.fs (U := fun x => a ≤ x ∧ x < a + 5) (fun x hx => by omega) (fun x hx => by omega)).tr hF3 (fun x hx => hx) (fun x hx => by omega)⟩
theorem sn_max (n : Nat) (hn : n ≤ 24) : (if nI 1 < nI ((n + 3 - 1) / 3) then nI ((n + 3 - 1) / 3) else nI 1) = nI (sn_pcs n) := by
  unfold sn_pcs
  by_cases h0 : n = 0
  · subst h0
    decide +kernel
  · rw [if_neg h0]
    by_cases h1 : 1 < (n + 3 - 1) / 3
    · rw [if_pos ((nI_ltI (by decide) (by omega)).mpr h1)]
      rfl
    · rw [if_neg (fun q => h1 ((nI_ltI (by decide) (by omega)).mp q))]
      congr 1
      omega
theorem ct_S_hasPiece {si cov n : Nat} {b : bo_B} {x : Int32} (hO : SNr dA h a si cov) (hL : BL dA h (a + 1) b n) : fv_T l (fk D dA) Bs WA m_S_hasPiece [.ref a, .int x] sz h 0 0 (fp_r (.int (fv_b (sn_has x b.1.length))) sz h) := by
  have h24 := hL.wf.2.2.2
  obtain ⟨ids, pri, siz, hB, hA, hw⟩ := hL
  have hmx := sn_max b.1.length h24
  refine fv_of (L := [_, _, _]) (by decide +kernel) rfl (Nat.le_of_ble_eq_true rfl) rfl ?_
  intro X hX C
  subst hX
  refine fv_aload_n C d_S_hasPiece_0 (n := 1) rfl (i := 0) rfl rfl ?_
  refine fv_get C (fl_S_12 D dA) d_S_hasPiece_1 (n := 4) rfl hO rfl ?_
  refine fv_get C (fl_S_29 D dA) d_S_hasPiece_4 (n := 7) rfl hB.1 rfl ?_
  refine fv_iconst C d_S_hasPiece_7 (n := 8) rfl kI_3 ?_
  first | refine fv_iaddN C d_S_hasPiece_8 (n := 9) rfl ?_ | refine fv_iadd C d_S_hasPiece_8 (n := 9) rfl ?_
  refine fv_iconst C d_S_hasPiece_9 (n := 10) rfl kI_1 ?_
  refine fv_isubN C (by omega) d_S_hasPiece_10 (n := 11) rfl ?_
  refine fv_iconst C d_S_hasPiece_11 (n := 12) rfl kI_3 ?_
  refine fv_idivN C (by omega) (by omega) (by omega) d_S_hasPiece_12 (n := 13) rfl ?_
  refine fv_istore_n C d_S_hasPiece_13 (n := 14) rfl (i := 2) rfl (by decide) (L' := [_, _, _]) rfl ?_
  refine fv_iload_n C d_S_hasPiece_14 (n := 15) rfl (i := 1) rfl rfl ?_
  refine fv_iconst C d_S_hasPiece_15 (n := 16) rfl kI_1 ?_
  refine fv_icmp_lt C d_S_hasPiece_16 (tgt := 32) rfl (n := 19) rfl (fun hc16 => ?_) (fun hc16 => ?_)
  · have hcv : nI 0 = fv_b (sn_has x b.1.length) := by unfold sn_has; rw [decide_eq_false (fun q => absurd hc16 (Int32.not_lt.mpr q.1))]; rfl
    refine fv_iconst C d_S_hasPiece_32 (n := 33) rfl kI_0 ?_
    rw [hcv]
    refine fv_zret C rfl d_S_hasPiece_33 (fv_b_nar _) (Nat.le_refl _) (Nat.le_refl _) ?_
    exact ⟨rfl, rfl, rfl⟩
  · have h9 := Int32.not_lt.mp hc16
    refine fv_iload_n C d_S_hasPiece_19 (n := 20) rfl (i := 1) rfl rfl ?_
    refine fv_iconst C d_S_hasPiece_20 (n := 21) rfl kI_1 ?_
    refine fv_iload_n C d_S_hasPiece_21 (n := 22) rfl (i := 2) rfl rfl ?_
    refine fv_mmax C nl_S_32 n_ms n_mi n_mc d_S_hasPiece_22 (n := 25) rfl rfl (Nat.le_of_ble_eq_true rfl) (Nat.le_of_ble_eq_true rfl) (Nat.le_refl _) (Nat.le_refl _) ?_
    rw [hmx]
    refine fv_icmp_gt C d_S_hasPiece_25 (tgt := 32) rfl (n := 28) rfl (fun hc25 => ?_) (fun hc25 => ?_)
    · have hcv : nI 0 = fv_b (sn_has x b.1.length) := by unfold sn_has; rw [decide_eq_false (fun q => absurd hc25 (Int32.not_lt.mpr q.2))]; rfl
      refine fv_iconst C d_S_hasPiece_32 (n := 33) rfl kI_0 ?_
      rw [hcv]
      refine fv_zret C rfl d_S_hasPiece_33 (fv_b_nar _) (Nat.le_refl _) (Nat.le_refl _) ?_
      exact ⟨rfl, rfl, rfl⟩
    · have hcv : nI 1 = fv_b (sn_has x b.1.length) := by unfold sn_has; rw [decide_eq_true ⟨h9, Int32.not_lt.mp hc25⟩]; rfl
      refine fv_iconst C d_S_hasPiece_28 (n := 29) rfl kI_1 ?_
      refine fv_goto C d_S_hasPiece_29 (tgt := 33) rfl ?_
      rw [hcv]
      refine fv_zret C rfl d_S_hasPiece_33 (fv_b_nar _) (Nat.le_refl _) (Nat.le_refl _) ?_
      exact ⟨rfl, rfl, rfl⟩
end SNW
def rs_cv (nd cov : Nat) : Bool := decide (0 < nd ∧ nd ≤ cov)
def rs_nd (nd cov : Nat) : Nat := if rs_cv nd cov = true then 0 else nd
def rs_t (log : List bo_E) (i ns : Nat) (t : tr_T) : tr_T := if t.1 < ns then tr_fol log i (t.2.1.filter (fun x => decide (ns < x))).length (tr_bec log i ns (t.1, t.2.1.filter (fun x => decide (ns < x)), t.2.2)) else t
def rs_a (nd cov n ns : Nat) : Nat := if n < ns then 1 else if rs_cv nd cov = true then 2 else 0
section TK3
variable {l : Launch} {D : va_G} {dA : Nat → ClassId} {Bs sz : Nat} {h : fv_H} {a i ar aE : Nat} {log : List bo_E} {hs : List Nat} {nd : Nat} {sv : Nat → Int32} {fx : Nat → Int32}
theorem ct_T_restore {n ns si cov as0 : Nat} {hl row : List Nat} (hok : fe_ok log) (hsm : ev_sm log) (hi : i < 4) (hBs : Bs ≤ a) (hBr : Bs ≤ ar) (hdis : ar + 3 ≤ a) (haE : a + 7 ≤ aE) (hE : EVS h aE log) (hnd : nd ≤ 400) (hcov : cov ≤ 400) (hS : SNr dA h as0 si cov) (hSL : BL dA h (as0 + 1) (fe_bk log i ns) ns) (hns : ns ≤ (fe_li log i).length) (has : as0 + 5 ≤ ar) (hT : TK dA h a i ar aE log hs nd sv) (hsv : ∀ c, c < 19 → sv c = fe_vw (fe_bk log i n) c) (hL : BL dA h (a + 1) (fe_bk log i n) n) (hR : RD dA h ar row fx) (hI : tr_I log i (n, hl, row)) (hp : (hs.map (ev_n log)).Perm hl) : fv_T l (fk D dA) Bs WA m_T_restore [.ref a, .ref as0] sz h 0 0 (fp_i sz (fun r h' => r = nI (rs_a nd cov n ns) ∧ TRP dA h a i ar aE log (rs_nd nd cov) fx (rs_t log i ns (n, hl, row)) h')) := by
  have h400 := fe_li_400 hsm i
  have hn400 : n ≤ 400 := Nat.le_trans hI.1 h400
  have hT0 := hT
  have hL0 := hL
  have hSL0 := hSL
  obtain ⟨hd, hO, hhd, h30, hlog⟩ := hT
  obtain ⟨ids, pri, siz, hB, hA, hw⟩ := hL0
  obtain ⟨i2, p2, z2, hB2, hA2, hw2⟩ := hSL0
  refine fv_of (L := [_, _, _, _]) (by decide +kernel) rfl (Nat.le_of_ble_eq_true rfl) rfl ?_
  intro X hX C
  subst hX
  have ends : ∀ h2 : fv_H, TRP dA h a i ar aE log (rs_nd nd cov) fx (rs_t log i ns (n, hl, row)) h2 → fv_V (fk D dA) Bs X 4 (fv_MQ (fk D dA) Bs X (fp_i sz (fun r h' => r = nI (rs_a nd cov n ns) ∧ TRP dA h a i ar aE log (rs_nd nd cov) fx (rs_t log i ns (n, hl, row)) h')) 0 0) 79 [some (.ref a), some (.ref as0), some (.int (fv_b (decide (n < ns)))), some (.int (fv_b (rs_cv nd cov)))] [] sz h2 0 0 := by
    intro h2 hP
    refine fv_iload_n C d_T_restore_79 (n := 80) rfl (i := 2) rfl rfl ?_
    refine fv_ifB_eq C d_T_restore_80 (tgt := 87) rfl (n := 83) rfl (fun hc80 => ?_) (fun hc80 => ?_)
    · have h9 : ¬ n < ns := of_decide_eq_false hc80
      refine fv_iload_n C d_T_restore_87 (n := 88) rfl (i := 3) rfl rfl ?_
      refine fv_ifB_eq C d_T_restore_88 (tgt := 95) rfl (n := 91) rfl (fun hc88 => ?_) (fun hc88 => ?_)
      · have hra : rs_a nd cov n ns = 0 := by unfold rs_a; rw [if_neg h9, hc88]; rfl
        refine fv_iconst C d_T_restore_95 (n := 96) rfl kI_0 ?_
        refine fv_iret C rfl d_T_restore_96 (Nat.le_refl _) (Nat.le_refl _) ?_
        exact ⟨_, rfl, rfl, by rw [hra], hP⟩
      · have hra : rs_a nd cov n ns = 2 := by unfold rs_a; rw [if_neg h9, hc88]; rfl
        refine fv_iconst C d_T_restore_91 (n := 92) rfl kI_2 ?_
        refine fv_goto C d_T_restore_92 (tgt := 96) rfl ?_
        refine fv_iret C rfl d_T_restore_96 (Nat.le_refl _) (Nat.le_refl _) ?_
        exact ⟨_, rfl, rfl, by rw [hra], hP⟩
    · have h9 : n < ns := of_decide_eq_true hc80
      have hra : rs_a nd cov n ns = 1 := by unfold rs_a; rw [if_pos h9]
      refine fv_iconst C d_T_restore_83 (n := 84) rfl kI_1 ?_
      refine fv_goto C d_T_restore_84 (tgt := 96) rfl ?_
      refine fv_iret C rfl d_T_restore_96 (Nat.le_refl _) (Nat.le_refl _) ?_
      exact ⟨_, rfl, rfl, by rw [hra], hP⟩
  have tail : ∀ h2 : fv_H, fs h h2 (fun x => x = a) → TK dA h2 a i ar aE log hs (rs_nd nd cov) sv → fv_V (fk D dA) Bs X 4 (fv_MQ (fk D dA) Bs X (fp_i sz (fun r h' => r = nI (rs_a nd cov n ns) ∧ TRP dA h a i ar aE log (rs_nd nd cov) fx (rs_t log i ns (n, hl, row)) h')) 0 0) 56 [some (.ref a), some (.ref as0), some (.int (fv_b (decide (n < ns)))), some (.int (fv_b (rs_cv nd cov)))] [] sz h2 0 0 := by
    intro h2 hF hT
    have hT2 := hT
    obtain ⟨hd, hO, hhd, h30, hlog⟩ := hT
    have hL2 := hL.fs hF ⟨by omega, by omega, by omega, by omega⟩
    have hSL2 := hSL.fs hF ⟨by omega, by omega, by omega, by omega⟩
    have hR2 := hR.fs hF ⟨by omega, by omega, by omega⟩
    have hS2 : SNr dA h2 as0 si cov := hS.fs hF (by omega)
    have hL3 := hL2
    obtain ⟨ids, pri, siz, hB, hA, hw⟩ := hL3
    have hSL3 := hSL2
    obtain ⟨i2, p2, z2, hB2, hA2, hw2⟩ := hSL3
    refine fv_iload_n C d_T_restore_56 (n := 57) rfl (i := 2) rfl rfl ?_
    refine fv_ifB_eq C d_T_restore_57 (tgt := 79) rfl (n := 60) rfl (fun hc57 => ?_) (fun hc57 => ?_)
    · have h9 : ¬ n < ns := of_decide_eq_false hc57
      exact ends h2 (by unfold rs_t; rw [if_neg h9]; exact ⟨hs, sv, hT2, hsv, hL2, hR2, hp, hF.mono (fun x hx => by unfold SX; omega)⟩)
    · have h9 : n < ns := of_decide_eq_true hc57
      refine fv_aload_n C d_T_restore_60 (n := 61) rfl (i := 0) rfl rfl ?_
      refine fv_get C (fl_T_12 D dA) d_T_restore_61 (n := 64) rfl hO.1 rfl ?_
      refine fv_aload_n C d_T_restore_64 (n := 65) rfl (i := 1) rfl rfl ?_
      refine fv_get C (fl_T_62 D dA) d_T_restore_65 (n := 68) rfl hS2 rfl ?_
      refine fv_callV_v C (ml_T_68 D dA) im_B_become se_B_become hB.1 rfl (ct_B_become (by omega) (by omega) hL2 hSL2) d_T_restore_68 (n := 71) rfl rfl rfl rfl (Nat.le_of_ble_eq_true rfl) (Nat.le_of_ble_eq_true rfl) (Nat.le_of_ble_eq_true rfl) (Nat.le_refl _) (Nat.le_refl _) (fun h3 hp3 => ?_)
      obtain ⟨hL4, hF3⟩ := hp3
      have hT3 := hT2.fs hF3.fs ⟨by omega, by omega, by omega⟩
      have hO : TKr dA h3 a i ar hd hs.length (rs_nd nd cov) sv := hO.fs hF3.fs ⟨by omega, by omega, by omega⟩
      have hF3b := hF.tr hF3.fs (U := SX a ar) (fun x hx => by unfold SX; omega) (fun x hx => by unfold SX; omega)
      have hE3 := hE.fs hF3b (fun x hx => by unfold SX; omega)
      refine fv_aload_n C d_T_restore_71 (n := 72) rfl (i := 0) rfl rfl ?_
      refine fv_callV_v C (ml_T_72 D dA) im_T_forgetOldHeld se_T_forgetOldHeld hO.1 rfl (ct_T_forgetOldHeld (nn := ns) (by omega) hL4 hBs hE3 haE hsm hT3) d_T_restore_72 (n := 75) rfl rfl rfl rfl (Nat.le_of_ble_eq_true rfl) (Nat.le_of_ble_eq_true rfl) (Nat.le_of_ble_eq_true rfl) (Nat.le_refl _) (Nat.le_refl _) (fun h4 hp4 => ?_)
      obtain ⟨hT4, hF4⟩ := hp4
      have hO : TKr dA h4 a i ar hT4.choose _ (rs_nd nd cov) sv := hT4.choose_spec.1
      have hF4b := hF3b.tr hF4 (U := SX a ar) (fun x hx => hx) (fun x hx => by unfold SX; omega)
      have hpf : ((hs.filter (fun k => decide (ns < ev_n log k))).map (ev_n log)).Perm (hl.filter (fun x => decide (ns < x))) := by
        have h10 := hp.filter (fun x => decide (ns < x))
        rw [List.filter_map] at h10
        exact h10
      have hJ4 : tr_J log i (ns, hl.filter (fun x => decide (ns < x)), row) := ⟨hns, hI.2.1.filter _, fun x hx => ⟨by simpa using (List.mem_filter.mp hx).2, (hI.2.2.1 x (List.mem_filter.mp hx).1).2⟩, Nat.le_trans (List.length_filter_le _ _) hI.2.2.2.1, hI.2.2.2.2⟩
      refine fv_aload_n C d_T_restore_75 (n := 76) rfl (i := 0) rfl rfl ?_
      refine fv_callV_v C (ml_T_56 D dA) im_T_follow se_T_follow hO.1 rfl (ct_T_follow (m := n) (n := ns) hok hsm hi hBs hBr hdis haE (hE.fs hF4b (fun x hx => by unfold SX; omega)) hT4 hsv (hL4.fs hF4 ⟨by omega, by omega, by omega, by omega⟩) ((hR2.fs hF3.fs ⟨by omega, by omega, by omega⟩).fs hF4 ⟨by omega, by omega, by omega⟩) hJ4 hpf) d_T_restore_76 (n := 79) rfl rfl rfl rfl (Nat.le_of_ble_eq_true rfl) (Nat.le_of_ble_eq_true rfl) (Nat.le_of_ble_eq_true rfl) (Nat.le_refl _) (Nat.le_refl _) (fun h5 hp5 => ?_)
      obtain ⟨hs5, sv5, q1, q2, q3, q4, q5, q6⟩ := hp5
      have hrt : rs_t log i ns (n, hl, row) = tr_fol log i (hl.filter (fun x => decide (ns < x))).length (tr_bec log i ns (n, hl.filter (fun x => decide (ns < x)), row)) := by unfold rs_t; rw [if_pos h9]
      exact ends h5 (by rw [hrt]; exact ⟨hs5, sv5, q1, q2, q3, q4, q5, hF4b.tr q6 (fun x hx => hx) (fun x hx => hx)⟩)
  have mid : fv_V (fk D dA) Bs X 4 (fv_MQ (fk D dA) Bs X (fp_i sz (fun r h' => r = nI (rs_a nd cov n ns) ∧ TRP dA h a i ar aE log (rs_nd nd cov) fx (rs_t log i ns (n, hl, row)) h')) 0 0) 47 [some (.ref a), some (.ref as0), some (.int (fv_b (decide (n < ns)))), some (.int (fv_b (rs_cv nd cov)))] [] sz h 0 0 := by
    refine fv_iload_n C d_T_restore_47 (n := 48) rfl (i := 3) rfl rfl ?_
    refine fv_ifB_eq C d_T_restore_48 (tgt := 56) rfl (n := 51) rfl (fun hc48 => ?_) (fun hc48 => ?_)
    · have hnd2 : rs_nd nd cov = nd := by unfold rs_nd; rw [hc48]; rfl
      exact tail h (fs_rf _ _) (by rw [hnd2]; exact hT0)
    · have hnd2 : rs_nd nd cov = 0 := by unfold rs_nd; rw [hc48]; rfl
      refine fv_aload_n C d_T_restore_51 (n := 52) rfl (i := 0) rfl rfl ?_
      refine fv_iconst C d_T_restore_52 (n := 53) rfl kI_0 ?_
      refine tk_pnd C (fl_T_36 D dA) d_T_restore_53 (n := 56) rfl hO hBs (fun h2 hO hF2 => ?_)
      exact tail h2 hF2 (by rw [hnd2]; exact ⟨hd, hO, hhd, h30, hlog⟩)
  refine fv_aload_n C d_T_restore_0 (n := 1) rfl (i := 1) rfl rfl ?_
  refine fv_get C (fl_T_62 D dA) d_T_restore_1 (n := 4) rfl hS rfl ?_
  refine fv_get C (fl_T_46 D dA) d_T_restore_4 (n := 7) rfl hB2.1 rfl ?_
  refine fv_aload_n C d_T_restore_7 (n := 8) rfl (i := 0) rfl rfl ?_
  refine fv_get C (fl_T_12 D dA) d_T_restore_8 (n := 11) rfl hO.1 rfl ?_
  refine fv_get C (fl_T_46 D dA) d_T_restore_11 (n := 14) rfl hB.1 rfl ?_
  refine fv_icmpN_le C (by omega) (by omega) d_T_restore_14 (tgt := 21) rfl (n := 17) rfl (fun hc14 => ?_) (fun hc14 => ?_)
  · have hcv : nI 0 = fv_b (decide (n < ns)) := by rw [decide_eq_false (by omega)]; rfl
    refine fv_iconst C d_T_restore_21 (n := 22) rfl kI_0 ?_
    rw [hcv]
    refine fv_istore_n C d_T_restore_22 (n := 23) rfl (i := 2) rfl (by decide) (L' := [_, _, _, _]) rfl ?_
    refine fv_aload_n C d_T_restore_23 (n := 24) rfl (i := 0) rfl rfl ?_
    refine fv_get C (fl_T_36 D dA) d_T_restore_24 (n := 27) rfl hO.1 rfl ?_
    refine fv_ifN_le C (by omega) d_T_restore_27 (tgt := 45) rfl (n := 30) rfl (fun hc27 => ?_) (fun hc27 => ?_)
    · have hcw : nI 0 = fv_b (rs_cv nd cov) := by unfold rs_cv; rw [decide_eq_false (by omega)]; rfl
      refine fv_iconst C d_T_restore_45 (n := 46) rfl kI_0 ?_
      rw [hcw]
      refine fv_istore_n C d_T_restore_46 (n := 47) rfl (i := 3) rfl (by decide) (L' := [_, _, _, _]) rfl ?_
      exact mid
    · refine fv_aload_n C d_T_restore_30 (n := 31) rfl (i := 1) rfl rfl ?_
      refine fv_get C (fl_T_65 D dA) d_T_restore_31 (n := 34) rfl hS rfl ?_
      refine fv_aload_n C d_T_restore_34 (n := 35) rfl (i := 0) rfl rfl ?_
      refine fv_get C (fl_T_36 D dA) d_T_restore_35 (n := 38) rfl hO.1 rfl ?_
      refine fv_icmpN_lt C (by omega) (by omega) d_T_restore_38 (tgt := 45) rfl (n := 41) rfl (fun hc38 => ?_) (fun hc38 => ?_)
      · have hcw : nI 0 = fv_b (rs_cv nd cov) := by unfold rs_cv; rw [decide_eq_false (by omega)]; rfl
        refine fv_iconst C d_T_restore_45 (n := 46) rfl kI_0 ?_
        rw [hcw]
        refine fv_istore_n C d_T_restore_46 (n := 47) rfl (i := 3) rfl (by decide) (L' := [_, _, _, _]) rfl ?_
        exact mid
      · have hcw : nI 1 = fv_b (rs_cv nd cov) := by unfold rs_cv; rw [decide_eq_true (by omega)]; rfl
        refine fv_iconst C d_T_restore_41 (n := 42) rfl kI_1 ?_
        refine fv_goto C d_T_restore_42 (tgt := 46) rfl ?_
        rw [hcw]
        refine fv_istore_n C d_T_restore_46 (n := 47) rfl (i := 3) rfl (by decide) (L' := [_, _, _, _]) rfl ?_
        exact mid
  · have hcv : nI 1 = fv_b (decide (n < ns)) := by rw [decide_eq_true (by omega)]; rfl
    refine fv_iconst C d_T_restore_17 (n := 18) rfl kI_1 ?_
    refine fv_goto C d_T_restore_18 (tgt := 22) rfl ?_
    rw [hcv]
    refine fv_istore_n C d_T_restore_22 (n := 23) rfl (i := 2) rfl (by decide) (L' := [_, _, _, _]) rfl ?_
    refine fv_aload_n C d_T_restore_23 (n := 24) rfl (i := 0) rfl rfl ?_
    refine fv_get C (fl_T_36 D dA) d_T_restore_24 (n := 27) rfl hO.1 rfl ?_
    refine fv_ifN_le C (by omega) d_T_restore_27 (tgt := 45) rfl (n := 30) rfl (fun hc27 => ?_) (fun hc27 => ?_)
    · have hcw : nI 0 = fv_b (rs_cv nd cov) := by unfold rs_cv; rw [decide_eq_false (by omega)]; rfl
      refine fv_iconst C d_T_restore_45 (n := 46) rfl kI_0 ?_
      rw [hcw]
      refine fv_istore_n C d_T_restore_46 (n := 47) rfl (i := 3) rfl (by decide) (L' := [_, _, _, _]) rfl ?_
      exact mid
    · refine fv_aload_n C d_T_restore_30 (n := 31) rfl (i := 1) rfl rfl ?_
      refine fv_get C (fl_T_65 D dA) d_T_restore_31 (n := 34) rfl hS rfl ?_
      refine fv_aload_n C d_T_restore_34 (n := 35) rfl (i := 0) rfl rfl ?_
      refine fv_get C (fl_T_36 D dA) d_T_restore_35 (n := 38) rfl hO.1 rfl ?_
      refine fv_icmpN_lt C (by omega) (by omega) d_T_restore_38 (tgt := 45) rfl (n := 41) rfl (fun hc38 => ?_) (fun hc38 => ?_)
      · have hcw : nI 0 = fv_b (rs_cv nd cov) := by unfold rs_cv; rw [decide_eq_false (by omega)]; rfl
        refine fv_iconst C d_T_restore_45 (n := 46) rfl kI_0 ?_
        rw [hcw]
        refine fv_istore_n C d_T_restore_46 (n := 47) rfl (i := 3) rfl (by decide) (L' := [_, _, _, _]) rfl ?_
        exact mid
      · have hcw : nI 1 = fv_b (rs_cv nd cov) := by unfold rs_cv; rw [decide_eq_true (by omega)]; rfl
        refine fv_iconst C d_T_restore_41 (n := 42) rfl kI_1 ?_
        refine fv_goto C d_T_restore_42 (tgt := 46) rfl ?_
        rw [hcw]
        refine fv_istore_n C d_T_restore_46 (n := 47) rfl (i := 3) rfl (by decide) (L' := [_, _, _, _]) rfl ?_
        exact mid
end TK3
end
section
/-! Event -/
theorem nf_no (own : String) (idx : Nat) (h : (fk_NF.all fun w => !(decide (w.1 = own) && decide (w.2.1 = idx))) = true) : ∀ host C0 nm ds : String, (own, idx, C0, nm, ds, host) ∉ fk_NF := by
  intro host C0 nm ds hm
  have := List.all_eq_true.mp h _ hm
  simp at this
def ev_by (x i : Int32) : Int32 := (x.toUInt32 >>> ((nI 24 - nI 8 * i).toUInt32 &&& Int32.toUInt32 31)).toInt32 &&& nI 255
/-- byte j of an event -/
def ev_bt (e : bo_E) (j : Nat) : Int32 := if j = 0 then nI e.1 else if j = 1 then nI e.2.1 else if j < 6 then ev_by (nI e.2.2.1) (nI (j - 2)) else if j < 10 then ev_by e.2.2.2.1 (nI (j - 6)) else if j = 10 then nI e.2.2.2.2.1 else if j < 15 then ev_by e.2.2.2.2.2.1 (nI (j - 11)) else ev_by e.2.2.2.2.2.2 (nI (j - 15))
def ev_cell (e : bo_E) : va_E := .inr (2, [.int (nI e.1), .int (nI e.2.1), .int (nI e.2.2.1), .int e.2.2.2.1, .int (nI e.2.2.2.2.1), .int e.2.2.2.2.2.1, .int e.2.2.2.2.2.2])
section EVW
variable {l : Launch} {D : va_G} {dA : Nat → ClassId} {Bs sz : Nat} {h : fv_H} {a : Nat}
theorem ct_E_init {q so ins num s : Nat} {id pr v : Int32} (hq : h q = some (.inr (2, [.int 0, .int 0, .int 0, .int 0, .int 0, .int 0, .int 0]))) (hBs : Bs ≤ q) : fv_T l (fk D dA) Bs WA m_E_init [.ref q, .int (nI so), .int (nI ins), .int (nI num), .int id, .int (nI s), .int pr, .int v] sz h 0 0 (fp_v sz (fun h' => h' = va_up h q (some (ev_cell (so, ins, num, id, s, pr, v))))) := by
  refine fv_of (L := [_, _, _, _, _, _, _, _]) (by decide +kernel) rfl (Nat.le_of_ble_eq_true rfl) rfl ?_
  intro X hX C
  subst hX
  refine fv_aload_n C d_E_init_0 (n := 1) rfl (i := 0) rfl rfl ?_
  refine fv_objInit C nl_E_1 n_oi n_oc d_E_init_1 (n := 4) rfl rfl (Nat.le_of_ble_eq_true rfl) (Nat.le_of_ble_eq_true rfl) ?_
  refine fv_aload_n C d_E_init_4 (n := 5) rfl (i := 0) rfl rfl ?_
  refine fv_iload_n C d_E_init_5 (n := 6) rfl (i := 1) rfl rfl ?_
  refine fv_put C (fl_E_7 D dA) (Or.inr ⟨rfl, rfl, _, rfl, nf_no _ _ (by decide +kernel)⟩) d_E_init_6 (n := 9) rfl hq hBs rfl rfl (Nat.le_of_ble_eq_true rfl) ?_
  refine fv_aload_n C d_E_init_9 (n := 10) rfl (i := 0) rfl rfl ?_
  refine fv_iload_n C d_E_init_10 (n := 11) rfl (i := 2) rfl rfl ?_
  refine fv_put C (fl_E_13 D dA) (Or.inr ⟨rfl, rfl, _, rfl, nf_no _ _ (by decide +kernel)⟩) d_E_init_11 (n := 14) rfl (va_up_self _ _ _) hBs rfl rfl (Nat.le_of_ble_eq_true rfl) ?_
  rw [bx_uu]
  refine fv_aload_n C d_E_init_14 (n := 15) rfl (i := 0) rfl rfl ?_
  refine fv_iload_n C d_E_init_15 (n := 16) rfl (i := 3) rfl rfl ?_
  refine fv_put C (fl_E_16 D dA) (Or.inr ⟨rfl, rfl, _, rfl, nf_no _ _ (by decide +kernel)⟩) d_E_init_16 (n := 19) rfl (va_up_self _ _ _) hBs rfl rfl (Nat.le_of_ble_eq_true rfl) ?_
  rw [bx_uu]
  refine fv_aload_n C d_E_init_19 (n := 20) rfl (i := 0) rfl rfl ?_
  refine fv_iload C d_E_init_20 (n := 22) rfl rfl ?_
  refine fv_put C (fl_E_19 D dA) (Or.inr ⟨rfl, rfl, _, rfl, nf_no _ _ (by decide +kernel)⟩) d_E_init_22 (n := 25) rfl (va_up_self _ _ _) hBs rfl rfl (Nat.le_of_ble_eq_true rfl) ?_
  rw [bx_uu]
  refine fv_aload_n C d_E_init_25 (n := 26) rfl (i := 0) rfl rfl ?_
  refine fv_iload C d_E_init_26 (n := 28) rfl rfl ?_
  refine fv_put C (fl_E_22 D dA) (Or.inr ⟨rfl, rfl, _, rfl, nf_no _ _ (by decide +kernel)⟩) d_E_init_28 (n := 31) rfl (va_up_self _ _ _) hBs rfl rfl (Nat.le_of_ble_eq_true rfl) ?_
  rw [bx_uu]
  refine fv_aload_n C d_E_init_31 (n := 32) rfl (i := 0) rfl rfl ?_
  refine fv_iload C d_E_init_32 (n := 34) rfl rfl ?_
  refine fv_put C (fl_E_25 D dA) (Or.inr ⟨rfl, rfl, _, rfl, nf_no _ _ (by decide +kernel)⟩) d_E_init_34 (n := 37) rfl (va_up_self _ _ _) hBs rfl rfl (Nat.le_of_ble_eq_true rfl) ?_
  rw [bx_uu]
  refine fv_aload_n C d_E_init_37 (n := 38) rfl (i := 0) rfl rfl ?_
  refine fv_iload C d_E_init_38 (n := 40) rfl rfl ?_
  refine fv_put C (fl_E_28 D dA) (Or.inr ⟨rfl, rfl, _, rfl, nf_no _ _ (by decide +kernel)⟩) d_E_init_40 (n := 43) rfl (va_up_self _ _ _) hBs rfl rfl (Nat.le_of_ble_eq_true rfl) ?_
  rw [bx_uu]
  refine fv_vret C rfl d_E_init_43 (Nat.le_refl _) (Nat.le_refl _) ?_
  exact ⟨rfl, rfl, rfl⟩
theorem ct_E_byteOf {x i : Int32} : fv_T l (fk D dA) Bs WA m_E_byteOf [.int x, .int i] sz h 0 0 (fp_r (.int (ev_by x i)) sz h) := by
  refine fv_of (L := [_, _]) (by decide +kernel) rfl (Nat.le_of_ble_eq_true rfl) rfl ?_
  intro X hX C
  subst hX
  refine fv_iload_n C d_E_byteOf_0 (n := 1) rfl (i := 0) rfl rfl ?_
  refine fv_bipush C d_E_byteOf_1 (n := 3) rfl kB_24 ?_
  refine fv_bipush C d_E_byteOf_3 (n := 5) rfl kB_8 ?_
  refine fv_iload_n C d_E_byteOf_5 (n := 6) rfl (i := 1) rfl rfl ?_
  refine fv_imul C d_E_byteOf_6 (n := 7) rfl ?_
  refine fv_isub C d_E_byteOf_7 (n := 8) rfl ?_
  refine fv_iushr C d_E_byteOf_8 (n := 9) rfl rfl ?_
  refine fv_sipush C d_E_byteOf_9 (n := 12) rfl kS_255 ?_
  refine fv_iand C d_E_byteOf_12 (n := 13) rfl ?_
  refine fv_iret C rfl d_E_byteOf_13 (Nat.le_refl _) (Nat.le_refl _) ?_
  exact ⟨rfl, rfl, rfl⟩
theorem ct_E_byteAt {ev : bo_E} {j : Nat} (hj : j < 19) (hE : EV h a ev) : fv_T l (fk D dA) Bs WA m_E_byteAt [.ref a, .int (nI j)] sz h 0 0 (fp_r (.int (ev_bt ev j)) sz h) := by
  refine fv_of (L := [_, _]) (by decide +kernel) rfl (Nat.le_of_ble_eq_true rfl) rfl ?_
  intro X hX C
  subst hX
  refine fv_iload_n C d_E_byteAt_0 (n := 1) rfl (i := 1) rfl rfl ?_
  refine fv_ifN_ne C (by omega) d_E_byteAt_1 (tgt := 9) rfl (n := 4) rfl (fun hc1 => ?_) (fun hc1 => ?_)
  · refine fv_iload_n C d_E_byteAt_9 (n := 10) rfl (i := 1) rfl rfl ?_
    refine fv_iconst C d_E_byteAt_10 (n := 11) rfl kI_1 ?_
    refine fv_icmpN_ne C (by omega) (by omega) d_E_byteAt_11 (tgt := 19) rfl (n := 14) rfl (fun hc11 => ?_) (fun hc11 => ?_)
    · refine fv_iload_n C d_E_byteAt_19 (n := 20) rfl (i := 1) rfl rfl ?_
      refine fv_bipush C d_E_byteAt_20 (n := 22) rfl kB_6 ?_
      refine fv_icmpN_ge C (by omega) (by omega) d_E_byteAt_22 (tgt := 36) rfl (n := 25) rfl (fun hc22 => ?_) (fun hc22 => ?_)
      · refine fv_iload_n C d_E_byteAt_36 (n := 37) rfl (i := 1) rfl rfl ?_
        refine fv_bipush C d_E_byteAt_37 (n := 39) rfl kB_10 ?_
        refine fv_icmpN_ge C (by omega) (by omega) d_E_byteAt_39 (tgt := 54) rfl (n := 42) rfl (fun hc39 => ?_) (fun hc39 => ?_)
        · refine fv_iload_n C d_E_byteAt_54 (n := 55) rfl (i := 1) rfl rfl ?_
          refine fv_bipush C d_E_byteAt_55 (n := 57) rfl kB_10 ?_
          refine fv_icmpN_ne C (by omega) (by omega) d_E_byteAt_57 (tgt := 65) rfl (n := 60) rfl (fun hc57 => ?_) (fun hc57 => ?_)
          · refine fv_iload_n C d_E_byteAt_65 (n := 66) rfl (i := 1) rfl rfl ?_
            refine fv_bipush C d_E_byteAt_66 (n := 68) rfl kB_15 ?_
            refine fv_icmpN_ge C (by omega) (by omega) d_E_byteAt_68 (tgt := 85) rfl (n := 71) rfl (fun hc68 => ?_) (fun hc68 => ?_)
            · refine fv_aload_n C d_E_byteAt_85 (n := 86) rfl (i := 0) rfl rfl ?_
              refine fv_get C (fl_E_28 D dA) d_E_byteAt_86 (n := 89) rfl hE rfl ?_
              refine fv_iload_n C d_E_byteAt_89 (n := 90) rfl (i := 1) rfl rfl ?_
              refine fv_bipush C d_E_byteAt_90 (n := 92) rfl kB_15 ?_
              refine fv_isubN C (by omega) d_E_byteAt_92 (n := 93) rfl ?_
              refine fv_callS_r C (ml_E_31 D dA) sm_E_byteOf ct_E_byteOf d_E_byteAt_93 (n := 96) rfl rfl rfl rfl (Nat.le_of_ble_eq_true rfl) (Nat.le_of_ble_eq_true rfl) (Nat.le_of_ble_eq_true rfl) (Nat.le_refl _) (Nat.le_refl _) ?_
              refine fv_iret C rfl d_E_byteAt_96 (Nat.le_refl _) (Nat.le_refl _) ?_
              refine ⟨?_, rfl, rfl⟩
              unfold ev_bt
              repeat first | rw [if_neg (by omega)] | rw [if_pos (by omega)]
            · refine fv_aload_n C d_E_byteAt_71 (n := 72) rfl (i := 0) rfl rfl ?_
              refine fv_get C (fl_E_25 D dA) d_E_byteAt_72 (n := 75) rfl hE rfl ?_
              refine fv_iload_n C d_E_byteAt_75 (n := 76) rfl (i := 1) rfl rfl ?_
              refine fv_bipush C d_E_byteAt_76 (n := 78) rfl kB_11 ?_
              refine fv_isubN C (by omega) d_E_byteAt_78 (n := 79) rfl ?_
              refine fv_callS_r C (ml_E_31 D dA) sm_E_byteOf ct_E_byteOf d_E_byteAt_79 (n := 82) rfl rfl rfl rfl (Nat.le_of_ble_eq_true rfl) (Nat.le_of_ble_eq_true rfl) (Nat.le_of_ble_eq_true rfl) (Nat.le_refl _) (Nat.le_refl _) ?_
              refine fv_goto C d_E_byteAt_82 (tgt := 96) rfl ?_
              refine fv_iret C rfl d_E_byteAt_96 (Nat.le_refl _) (Nat.le_refl _) ?_
              refine ⟨?_, rfl, rfl⟩
              unfold ev_bt
              repeat first | rw [if_neg (by omega)] | rw [if_pos (by omega)]
          · refine fv_aload_n C d_E_byteAt_60 (n := 61) rfl (i := 0) rfl rfl ?_
            refine fv_get C (fl_E_22 D dA) d_E_byteAt_61 (n := 64) rfl hE rfl ?_
            refine fv_iret C rfl d_E_byteAt_64 (Nat.le_refl _) (Nat.le_refl _) ?_
            refine ⟨?_, rfl, rfl⟩
            unfold ev_bt
            repeat first | rw [if_neg (by omega)] | rw [if_pos (by omega)]
        · refine fv_aload_n C d_E_byteAt_42 (n := 43) rfl (i := 0) rfl rfl ?_
          refine fv_get C (fl_E_19 D dA) d_E_byteAt_43 (n := 46) rfl hE rfl ?_
          refine fv_iload_n C d_E_byteAt_46 (n := 47) rfl (i := 1) rfl rfl ?_
          refine fv_bipush C d_E_byteAt_47 (n := 49) rfl kB_6 ?_
          refine fv_isubN C (by omega) d_E_byteAt_49 (n := 50) rfl ?_
          refine fv_callS_r C (ml_E_31 D dA) sm_E_byteOf ct_E_byteOf d_E_byteAt_50 (n := 53) rfl rfl rfl rfl (Nat.le_of_ble_eq_true rfl) (Nat.le_of_ble_eq_true rfl) (Nat.le_of_ble_eq_true rfl) (Nat.le_refl _) (Nat.le_refl _) ?_
          refine fv_iret C rfl d_E_byteAt_53 (Nat.le_refl _) (Nat.le_refl _) ?_
          refine ⟨?_, rfl, rfl⟩
          unfold ev_bt
          repeat first | rw [if_neg (by omega)] | rw [if_pos (by omega)]
      · refine fv_aload_n C d_E_byteAt_25 (n := 26) rfl (i := 0) rfl rfl ?_
        refine fv_get C (fl_E_16 D dA) d_E_byteAt_26 (n := 29) rfl hE rfl ?_
        refine fv_iload_n C d_E_byteAt_29 (n := 30) rfl (i := 1) rfl rfl ?_
        refine fv_iconst C d_E_byteAt_30 (n := 31) rfl kI_2 ?_
        refine fv_isubN C (by omega) d_E_byteAt_31 (n := 32) rfl ?_
        refine fv_callS_r C (ml_E_31 D dA) sm_E_byteOf ct_E_byteOf d_E_byteAt_32 (n := 35) rfl rfl rfl rfl (Nat.le_of_ble_eq_true rfl) (Nat.le_of_ble_eq_true rfl) (Nat.le_of_ble_eq_true rfl) (Nat.le_refl _) (Nat.le_refl _) ?_
        refine fv_iret C rfl d_E_byteAt_35 (Nat.le_refl _) (Nat.le_refl _) ?_
        refine ⟨?_, rfl, rfl⟩
        unfold ev_bt
        repeat first | rw [if_neg (by omega)] | rw [if_pos (by omega)]
    · refine fv_aload_n C d_E_byteAt_14 (n := 15) rfl (i := 0) rfl rfl ?_
      refine fv_get C (fl_E_13 D dA) d_E_byteAt_15 (n := 18) rfl hE rfl ?_
      refine fv_iret C rfl d_E_byteAt_18 (Nat.le_refl _) (Nat.le_refl _) ?_
      refine ⟨?_, rfl, rfl⟩
      unfold ev_bt
      repeat first | rw [if_neg (by omega)] | rw [if_pos (by omega)]
  · refine fv_aload_n C d_E_byteAt_4 (n := 5) rfl (i := 0) rfl rfl ?_
    refine fv_get C (fl_E_7 D dA) d_E_byteAt_5 (n := 8) rfl hE rfl ?_
    refine fv_iret C rfl d_E_byteAt_8 (Nat.le_refl _) (Nat.le_refl _) ?_
    refine ⟨?_, rfl, rfl⟩
    unfold ev_bt
    repeat first | rw [if_neg (by omega)] | rw [if_pos (by omega)]
end EVW
end
section
/-! Publisher -/
/-- how many events there are up to the end of packet p -/
def fe_E (ends : List Nat) (p : Nat) : Nat := (0 :: ends).getD p 0
theorem fe_E_0 (ends : List Nat) : fe_E ends 0 = 0 := rfl
theorem fe_E_app {ends : List Nat} {x p : Nat} (hp : p ≤ ends.length) : fe_E (ends ++ [x]) p = fe_E ends p := by
  unfold fe_E
  rw [List.getD_eq_getElem?_getD, List.getD_eq_getElem?_getD, ← List.cons_append, List.getElem?_append_left (by simp; omega)]
theorem fe_E_new (ends : List Nat) (x : Nat) : fe_E (ends ++ [x]) (ends.length + 1) = x := by
  unfold fe_E
  rw [List.getD_eq_getElem?_getD, ← List.cons_append, List.getElem?_append_right (by simp)]
  simp
/-- the packets' ends: they grow, and none is beyond the log; the open packet has at most five -/
def fe_ends (log : List bo_E) (ends : List Nat) : Prop := (∀ p, p < ends.length → fe_E ends p < fe_E ends (p + 1) ∧ fe_E ends (p + 1) ≤ log.length) ∧ fe_E ends ends.length ≤ log.length ∧ log.length ≤ fe_E ends ends.length + 5 ∧ log.length ≤ 400
theorem fe_ends_mono {log : List bo_E} {ends : List Nat} (h : fe_ends log ends) : ∀ p, p ≤ ends.length → p ≤ fe_E ends p ∧ fe_E ends p ≤ log.length
  | 0, _ => ⟨Nat.zero_le _, Nat.zero_le _⟩
  | p + 1, hp => by
    have h1 := fe_ends_mono h p (by omega)
    have h2 := h.1 p (by omega)
    omega
theorem fe_ends_len {log : List bo_E} {ends : List Nat} (h : fe_ends log ends) : ends.length ≤ 400 := by
  have := fe_ends_mono h ends.length (Nat.le_refl _)
  have := h.2.2.2
  omega
def PBr (dA : Nat → ClassId) (h : fv_H) (a : Nat) (evs : Nat → Option Nat) (ne : Nat) (en : Nat → Int32) (cl : Nat) (sc : Nat) : Prop := h (a) = some (.inr (3, [.ref (a + 1), .ref (a + 2), .int (nI ne), .ref (a + 3), .int (nI cl), .ref (a + 4), .int (nI sc)])) ∧ h (a + 1) = some (.inl (dA 2, 4, .inr (.inr (.inr (.inr (fun j => if j < 4 then some (a + 5 + 4 * j) else none)))))) ∧ h (a + 2) = some (.inl (dA 3, 400, .inr (.inr (.inr (.inr evs))))) ∧ h (a + 3) = some (.inl (dA 0, 401, .inl en)) ∧ h (a + 4) = some (.inl (dA 6, 8, .inr (.inr (.inr (.inr (fun j => if j < 8 then some (a + 21 + 5 * j) else none))))))
section PBrS
variable {D : va_G} {dA : Nat → ClassId} {Bs : Nat} {X : fv_X} {M : fv_M} {mc ms nL : Nat} {Q : State → Prop} {pc n : Nat} {L L' : List (Option Value)} {st : List Value} {sz : Nat} {h : fv_H} {cells slots : Nat} {a : Nat} {evs : Nat → Option Nat} {ne : Nat} {en : Nat → Int32} {cl : Nat} {sc : Nat}
theorem PBr.fs {h' : fv_H} {S : Nat → Prop} (hO : PBr dA h a evs ne en cl sc) (hf : fs h h' S) (hd : ¬ S (a) ∧ ¬ S (a + 1) ∧ ¬ S (a + 2) ∧ ¬ S (a + 3) ∧ ¬ S (a + 4)) : PBr dA h' a evs ne en cl sc := by
  exact ⟨(hf _ hd.1).trans hO.1, (hf _ hd.2.1).trans hO.2.1, (hf _ hd.2.2.1).trans hO.2.2.1, (hf _ hd.2.2.2.1).trans hO.2.2.2.1, (hf _ hd.2.2.2.2).trans hO.2.2.2.2⟩
theorem pb_pne (C : fv_C (fk D dA) WA X M mc ms) {idx : Nat} {v : Nat} (F : fv_FL (fk D dA) WA M.1.cls idx 3 2 .int false) (hd : decode M.2.1 pc = .ok (.putfield idx, 3)) (hn : pc + 3 = n) (hO : PBr dA h a evs ne en cl sc) (hBs : Bs ≤ a) (kk : ∀ h' : fv_H, PBr dA h' a evs v en cl sc → fs h h' (fun z => z = a) → fv_V (fk D dA) Bs X nL Q n L st sz h' cells slots) : fv_V (fk D dA) Bs X nL Q pc L (.int (nI v) :: .ref (a) :: st) sz h cells slots := by
  refine fv_put C F (Or.inl rfl) hd hn hO.1 (by omega) rfl rfl (Nat.le_of_ble_eq_true rfl) ?_
  refine kk _ ⟨?_, ?_, ?_, ?_, ?_⟩ (fun z hz => va_up_ne _ _ hz)
  · exact va_up_self _ _ _
  · rw [va_up_ne _ _ (by omega)]; exact hO.2.1
  · rw [va_up_ne _ _ (by omega)]; exact hO.2.2.1
  · rw [va_up_ne _ _ (by omega)]; exact hO.2.2.2.1
  · rw [va_up_ne _ _ (by omega)]; exact hO.2.2.2.2
theorem pb_pcl (C : fv_C (fk D dA) WA X M mc ms) {idx : Nat} {v : Nat} (F : fv_FL (fk D dA) WA M.1.cls idx 3 4 .int false) (hd : decode M.2.1 pc = .ok (.putfield idx, 3)) (hn : pc + 3 = n) (hO : PBr dA h a evs ne en cl sc) (hBs : Bs ≤ a) (kk : ∀ h' : fv_H, PBr dA h' a evs ne en v sc → fs h h' (fun z => z = a) → fv_V (fk D dA) Bs X nL Q n L st sz h' cells slots) : fv_V (fk D dA) Bs X nL Q pc L (.int (nI v) :: .ref (a) :: st) sz h cells slots := by
  refine fv_put C F (Or.inl rfl) hd hn hO.1 (by omega) rfl rfl (Nat.le_of_ble_eq_true rfl) ?_
  refine kk _ ⟨?_, ?_, ?_, ?_, ?_⟩ (fun z hz => va_up_ne _ _ hz)
  · exact va_up_self _ _ _
  · rw [va_up_ne _ _ (by omega)]; exact hO.2.1
  · rw [va_up_ne _ _ (by omega)]; exact hO.2.2.1
  · rw [va_up_ne _ _ (by omega)]; exact hO.2.2.2.1
  · rw [va_up_ne _ _ (by omega)]; exact hO.2.2.2.2
theorem pb_psc (C : fv_C (fk D dA) WA X M mc ms) {idx : Nat} {v : Nat} (F : fv_FL (fk D dA) WA M.1.cls idx 3 6 .int false) (hd : decode M.2.1 pc = .ok (.putfield idx, 3)) (hn : pc + 3 = n) (hO : PBr dA h a evs ne en cl sc) (hBs : Bs ≤ a) (kk : ∀ h' : fv_H, PBr dA h' a evs ne en cl v → fs h h' (fun z => z = a) → fv_V (fk D dA) Bs X nL Q n L st sz h' cells slots) : fv_V (fk D dA) Bs X nL Q pc L (.int (nI v) :: .ref (a) :: st) sz h cells slots := by
  refine fv_put C F (Or.inl rfl) hd hn hO.1 (by omega) rfl rfl (Nat.le_of_ble_eq_true rfl) ?_
  refine kk _ ⟨?_, ?_, ?_, ?_, ?_⟩ (fun z hz => va_up_ne _ _ hz)
  · exact va_up_self _ _ _
  · rw [va_up_ne _ _ (by omega)]; exact hO.2.1
  · rw [va_up_ne _ _ (by omega)]; exact hO.2.2.1
  · rw [va_up_ne _ _ (by omega)]; exact hO.2.2.2.1
  · rw [va_up_ne _ _ (by omega)]; exact hO.2.2.2.2
theorem pb_sev (C : fv_C (fk D dA) WA X M mc ms) {j v : Nat} {vs : List Value} (hd : decode M.2.1 pc = .ok (.aastore, 1)) (hn : pc + 1 = n) (hO : PBr dA h a evs ne en cl sc) (hv : h v = some (.inr (2, vs))) (hBs : Bs ≤ a) (hj : j < 400) (kk : ∀ h' : fv_H, PBr dA h' a (va_up evs j (some v)) ne en cl sc → fs h h' (fun z => z = a + 2) → fv_V (fk D dA) Bs X nL Q n L st sz h' cells slots) : fv_V (fk D dA) Bs X nL Q pc L (.ref v :: .int (nI j) :: .ref (a + 2) :: st) sz h cells slots := by
  refine fv_aastN1 C (t0 := 3) (ci := 2) rfl hd hn hO.2.2.1 hv rfl (by omega) hj (by decide) ?_
  refine kk _ ⟨?_, ?_, ?_, ?_, ?_⟩ (fun z hz => va_up_ne _ _ hz)
  · rw [va_up_ne _ _ (by omega)]; exact hO.1
  · rw [va_up_ne _ _ (by omega)]; exact hO.2.1
  · exact va_up_self _ _ _
  · rw [va_up_ne _ _ (by omega)]; exact hO.2.2.2.1
  · rw [va_up_ne _ _ (by omega)]; exact hO.2.2.2.2
theorem pb_sen (C : fv_C (fk D dA) WA X M mc ms) {j : Nat} {x : Int32} (hd : decode M.2.1 pc = .ok (.iastore, 1)) (hn : pc + 1 = n) (hO : PBr dA h a evs ne en cl sc) (hBs : Bs ≤ a) (hj : j < 401) (kk : ∀ h' : fv_H, PBr dA h' a evs ne (upd en j x) cl sc → fs h h' (fun z => z = a + 3) → fv_V (fk D dA) Bs X nL Q n L st sz h' cells slots) : fv_V (fk D dA) Bs X nL Q pc L (.int x :: .int (nI j) :: .ref (a + 3) :: st) sz h cells slots := by
  refine fv_iastN C (t0 := 0) rfl hd hn hO.2.2.2.1 (by omega) hj (by decide) ?_
  refine kk _ ⟨?_, ?_, ?_, ?_, ?_⟩ (fun z hz => va_up_ne _ _ hz)
  · rw [va_up_ne _ _ (by omega)]; exact hO.1
  · rw [va_up_ne _ _ (by omega)]; exact hO.2.1
  · rw [va_up_ne _ _ (by omega)]; exact hO.2.2.1
  · exact va_up_self _ _ _
  · rw [va_up_ne _ _ (by omega)]; exact hO.2.2.2.2
end PBrS
def PB (dA : Nat → ClassId) (h : fv_H) (a aE : Nat) (log : List bo_E) (ends : List Nat) (sc : Nat) : Prop := ∃ (evs : Nat → Option Nat) (en : Nat → Int32), PBr dA h a evs log.length en ends.length sc ∧ (∀ j, j < log.length → evs j = some (aE + j)) ∧ ∀ p, p ≤ ends.length → en p = nI (fe_E ends p)
theorem PB.fs {dA : Nat → ClassId} {h h' : fv_H} {a aE sc : Nat} {log : List bo_E} {ends : List Nat} {S : Nat → Prop} (q : PB dA h a aE log ends sc) (hf : fs h h' S) (hd : ¬ S a ∧ ¬ S (a + 1) ∧ ¬ S (a + 2) ∧ ¬ S (a + 3) ∧ ¬ S (a + 4)) : PB dA h' a aE log ends sc := by
  obtain ⟨evs, en, hO, h1, h2⟩ := q
  exact ⟨evs, en, hO.fs hf hd, h1, h2⟩
/-- is x the number of one of n closed packets -/
def fe_cl (x : Int32) (n : Nat) : Bool := decide (nI 1 ≤ x ∧ x ≤ nI n)
section PBW
variable {l : Launch} {D : va_G} {dA : Nat → ClassId} {Bs sz : Nat} {h : fv_H} {a aE sc : Nat} {log : List bo_E} {ends : List Nat}
theorem ct_P_isClosed {x : Int32} (hEn : fe_ends log ends) (hP : PB dA h a aE log ends sc) : fv_T l (fk D dA) Bs WA m_P_isClosed [.ref a, .int x] sz h 0 0 (fp_r (.int (fv_b (fe_cl x ends.length))) sz h) := by
  obtain ⟨evs, en, hO, hev, hen⟩ := hP
  have hcl := fe_ends_len hEn
  have hmo := fe_ends_mono hEn
  refine fv_of (L := [_, _]) (by decide +kernel) rfl (Nat.le_of_ble_eq_true rfl) rfl ?_
  intro X hX C
  subst hX
  refine fv_iload_n C d_P_isClosed_0 (n := 1) rfl (i := 1) rfl rfl ?_
  refine fv_iconst C d_P_isClosed_1 (n := 2) rfl kI_1 ?_
  refine fv_icmp_lt C d_P_isClosed_2 (tgt := 17) rfl (n := 5) rfl (fun hc2 => ?_) (fun hc2 => ?_)
  · have hcv : nI 0 = fv_b (fe_cl x ends.length) := by unfold fe_cl; rw [decide_eq_false (fun q => absurd hc2 (Int32.not_lt.mpr q.1))]; rfl
    refine fv_iconst C d_P_isClosed_17 (n := 18) rfl kI_0 ?_
    rw [hcv]
    refine fv_zret C rfl d_P_isClosed_18 (fv_b_nar _) (Nat.le_refl _) (Nat.le_refl _) ?_
    exact ⟨rfl, rfl, rfl⟩
  · have h9 := Int32.not_lt.mp hc2
    refine fv_iload_n C d_P_isClosed_5 (n := 6) rfl (i := 1) rfl rfl ?_
    refine fv_aload_n C d_P_isClosed_6 (n := 7) rfl (i := 0) rfl rfl ?_
    refine fv_get C (fl_P_31 D dA) d_P_isClosed_7 (n := 10) rfl hO.1 rfl ?_
    refine fv_icmp_gt C d_P_isClosed_10 (tgt := 17) rfl (n := 13) rfl (fun hc10 => ?_) (fun hc10 => ?_)
    · have hcv : nI 0 = fv_b (fe_cl x ends.length) := by unfold fe_cl; rw [decide_eq_false (fun q => absurd hc10 (Int32.not_lt.mpr q.2))]; rfl
      refine fv_iconst C d_P_isClosed_17 (n := 18) rfl kI_0 ?_
      rw [hcv]
      refine fv_zret C rfl d_P_isClosed_18 (fv_b_nar _) (Nat.le_refl _) (Nat.le_refl _) ?_
      exact ⟨rfl, rfl, rfl⟩
    · have hcv : nI 1 = fv_b (fe_cl x ends.length) := by unfold fe_cl; rw [decide_eq_true ⟨h9, Int32.not_lt.mp hc10⟩]; rfl
      refine fv_iconst C d_P_isClosed_13 (n := 14) rfl kI_1 ?_
      refine fv_goto C d_P_isClosed_14 (tgt := 18) rfl ?_
      rw [hcv]
      refine fv_zret C rfl d_P_isClosed_18 (fv_b_nar _) (Nat.le_refl _) (Nat.le_refl _) ?_
      exact ⟨rfl, rfl, rfl⟩
theorem ct_P_startOf {p : Nat} (h1 : 1 ≤ p) (h2 : p ≤ ends.length + 1) (hEn : fe_ends log ends) (hP : PB dA h a aE log ends sc) : fv_T l (fk D dA) Bs WA m_P_startOf [.ref a, .int (nI p)] sz h 0 0 (fp_r (.int (nI (fe_E ends (p - 1)))) sz h) := by
  obtain ⟨evs, en, hO, hev, hen⟩ := hP
  have hcl := fe_ends_len hEn
  have hmo := fe_ends_mono hEn
  refine fv_of (L := [_, _]) (by decide +kernel) rfl (Nat.le_of_ble_eq_true rfl) rfl ?_
  intro X hX C
  subst hX
  refine fv_aload_n C d_P_startOf_0 (n := 1) rfl (i := 0) rfl rfl ?_
  refine fv_get C (fl_P_27 D dA) d_P_startOf_1 (n := 4) rfl hO.1 rfl ?_
  refine fv_iload_n C d_P_startOf_4 (n := 5) rfl (i := 1) rfl rfl ?_
  refine fv_iconst C d_P_startOf_5 (n := 6) rfl kI_1 ?_
  refine fv_isubN C (by omega) d_P_startOf_6 (n := 7) rfl ?_
  refine fv_ialdN C (t0 := 0) rfl d_P_startOf_7 (n := 8) rfl hO.2.2.2.1 (by omega) (by decide) ?_
  refine fv_iret C rfl d_P_startOf_8 (Nat.le_refl _) (Nat.le_refl _) ?_
  rw [hen (p - 1) (by omega)]
  exact ⟨rfl, rfl, rfl⟩
theorem ct_P_endOf {p : Nat} (h2 : p ≤ ends.length) (hEn : fe_ends log ends) (hP : PB dA h a aE log ends sc) : fv_T l (fk D dA) Bs WA m_P_endOf [.ref a, .int (nI p)] sz h 0 0 (fp_r (.int (nI (fe_E ends p))) sz h) := by
  obtain ⟨evs, en, hO, hev, hen⟩ := hP
  have hcl := fe_ends_len hEn
  have hmo := fe_ends_mono hEn
  refine fv_of (L := [_, _]) (by decide +kernel) rfl (Nat.le_of_ble_eq_true rfl) rfl ?_
  intro X hX C
  subst hX
  refine fv_aload_n C d_P_endOf_0 (n := 1) rfl (i := 0) rfl rfl ?_
  refine fv_get C (fl_P_27 D dA) d_P_endOf_1 (n := 4) rfl hO.1 rfl ?_
  refine fv_iload_n C d_P_endOf_4 (n := 5) rfl (i := 1) rfl rfl ?_
  refine fv_ialdN C (t0 := 0) rfl d_P_endOf_5 (n := 6) rfl hO.2.2.2.1 (by omega) (by decide) ?_
  refine fv_iret C rfl d_P_endOf_6 (Nat.le_refl _) (Nat.le_refl _) ?_
  rw [hen p (by omega)]
  exact ⟨rfl, rfl, rfl⟩
/-- are all events of packet p and after among the last 40 that were closed -/
def fe_rep (ends : List Nat) (p : Nat) : Bool := decide (fe_E ends ends.length ≤ fe_E ends (p - 1) + 40)
theorem sub40 {a b : Nat} (ha : a ≤ 400) (hb : b ≤ 400) : nI a < nI b - nI 40 ↔ a + 40 < b := by
  rw [Int32.lt_iff_toInt_lt, nI_toInt (by omega), pk_sub_toInt (by omega) (by omega)]
  omega
theorem ct_P_canReplayFrom {p : Nat} (h1 : 1 ≤ p) (h2 : p ≤ ends.length + 1) (hEn : fe_ends log ends) (hP : PB dA h a aE log ends sc) : fv_T l (fk D dA) Bs WA m_P_canReplayFrom [.ref a, .int (nI p)] sz h 0 0 (fp_r (.int (fv_b (fe_rep ends p))) sz h) := by
  have hP0 := hP
  obtain ⟨evs, en, hO, hev, hen⟩ := hP
  have hcl := fe_ends_len hEn
  have hmo := fe_ends_mono hEn
  have m1 := hmo (p - 1) (by omega)
  have m2 := hmo ends.length (Nat.le_refl _)
  have m3 := hEn.2.2.2
  refine fv_of (L := [_, _]) (by decide +kernel) rfl (Nat.le_of_ble_eq_true rfl) rfl ?_
  intro X hX C
  subst hX
  refine fv_aload_n C d_P_canReplayFrom_0 (n := 1) rfl (i := 0) rfl rfl ?_
  refine fv_iload_n C d_P_canReplayFrom_1 (n := 2) rfl (i := 1) rfl rfl ?_
  refine fv_callV_r C (ml_P_62 D dA) im_P_startOf se_P_startOf hO.1 rfl (ct_P_startOf h1 h2 hEn hP0) d_P_canReplayFrom_2 (n := 5) rfl rfl rfl rfl (Nat.le_of_ble_eq_true rfl) (Nat.le_of_ble_eq_true rfl) (Nat.le_of_ble_eq_true rfl) (Nat.le_refl _) (Nat.le_refl _) ?_
  refine fv_aload_n C d_P_canReplayFrom_5 (n := 6) rfl (i := 0) rfl rfl ?_
  refine fv_aload_n C d_P_canReplayFrom_6 (n := 7) rfl (i := 0) rfl rfl ?_
  refine fv_get C (fl_P_31 D dA) d_P_canReplayFrom_7 (n := 10) rfl hO.1 rfl ?_
  refine fv_callV_r C (ml_P_66 D dA) im_P_endOf se_P_endOf hO.1 rfl (ct_P_endOf (Nat.le_refl _) hEn hP0) d_P_canReplayFrom_10 (n := 13) rfl rfl rfl rfl (Nat.le_of_ble_eq_true rfl) (Nat.le_of_ble_eq_true rfl) (Nat.le_of_ble_eq_true rfl) (Nat.le_refl _) (Nat.le_refl _) ?_
  refine fv_bipush C d_P_canReplayFrom_13 (n := 15) rfl kB_40 ?_
  refine fv_isub C d_P_canReplayFrom_15 (n := 16) rfl ?_
  refine fv_icmp_lt C d_P_canReplayFrom_16 (tgt := 23) rfl (n := 19) rfl (fun hc16 => ?_) (fun hc16 => ?_)
  · rw [sub40 (by omega) (by omega)] at hc16
    have hcv : nI 0 = fv_b (fe_rep ends p) := by unfold fe_rep; rw [decide_eq_false (by omega)]; rfl
    refine fv_iconst C d_P_canReplayFrom_23 (n := 24) rfl kI_0 ?_
    rw [hcv]
    refine fv_zret C rfl d_P_canReplayFrom_24 (fv_b_nar _) (Nat.le_refl _) (Nat.le_refl _) ?_
    exact ⟨rfl, rfl, rfl⟩
  · rw [sub40 (by omega) (by omega)] at hc16
    have hcv : nI 1 = fv_b (fe_rep ends p) := by unfold fe_rep; rw [decide_eq_true (by omega)]; rfl
    refine fv_iconst C d_P_canReplayFrom_19 (n := 20) rfl kI_1 ?_
    refine fv_goto C d_P_canReplayFrom_20 (tgt := 24) rfl ?_
    rw [hcv]
    refine fv_zret C rfl d_P_canReplayFrom_24 (fv_b_nar _) (Nat.le_refl _) (Nat.le_refl _) ?_
    exact ⟨rfl, rfl, rfl⟩
theorem ct_P_closePacket (hBs : Bs ≤ a) (hEn : fe_ends log ends) (hP : PB dA h a aE log ends sc) : fv_T l (fk D dA) Bs WA m_P_closePacket [.ref a] sz h 0 0 (fp_i sz (fun r h' => (log.length = fe_E ends ends.length ∧ r = nI 0 ∧ h' = h) ∨ (log.length ≠ fe_E ends ends.length ∧ r = nI (ends.length + 1) ∧ PB dA h' a aE log (ends ++ [log.length]) sc ∧ fs h h' (fun x => x = a ∨ x = a + 3)))) := by
  obtain ⟨evs, en, hO, hev, hen⟩ := hP
  have hcl := fe_ends_len hEn
  have hmo := fe_ends_mono hEn
  have m2 := hmo ends.length (Nat.le_refl _)
  have m3 := hEn.2.2.2
  have he0 := hen ends.length (Nat.le_refl _)
  refine fv_of (L := [_]) (by decide +kernel) rfl (Nat.le_of_ble_eq_true rfl) rfl ?_
  intro X hX C
  subst hX
  refine fv_aload_n C d_P_closePacket_0 (n := 1) rfl (i := 0) rfl rfl ?_
  refine fv_get C (fl_P_23 D dA) d_P_closePacket_1 (n := 4) rfl hO.1 rfl ?_
  refine fv_aload_n C d_P_closePacket_4 (n := 5) rfl (i := 0) rfl rfl ?_
  refine fv_get C (fl_P_27 D dA) d_P_closePacket_5 (n := 8) rfl hO.1 rfl ?_
  refine fv_aload_n C d_P_closePacket_8 (n := 9) rfl (i := 0) rfl rfl ?_
  refine fv_get C (fl_P_31 D dA) d_P_closePacket_9 (n := 12) rfl hO.1 rfl ?_
  refine fv_ialdN C (t0 := 0) rfl d_P_closePacket_12 (n := 13) rfl hO.2.2.2.1 (by omega) (by decide) ?_
  rw [he0]
  refine fv_icmpN_ne C (by omega) (by omega) d_P_closePacket_13 (tgt := 18) rfl (n := 16) rfl (fun hc13 => ?_) (fun hc13 => ?_)
  · refine fv_aload_n C d_P_closePacket_18 (n := 19) rfl (i := 0) rfl rfl ?_
    refine fv_dup C d_P_closePacket_19 (n := 20) rfl rfl ?_
    refine fv_get C (fl_P_31 D dA) d_P_closePacket_20 (n := 23) rfl hO.1 rfl ?_
    refine fv_iconst C d_P_closePacket_23 (n := 24) rfl kI_1 ?_
    first | refine fv_iaddN C d_P_closePacket_24 (n := 25) rfl ?_ | refine fv_iadd C d_P_closePacket_24 (n := 25) rfl ?_
    refine pb_pcl C (fl_P_31 D dA) d_P_closePacket_25 (n := 28) rfl hO hBs (fun h1 hO hF1 => ?_)
    refine fv_aload_n C d_P_closePacket_28 (n := 29) rfl (i := 0) rfl rfl ?_
    refine fv_get C (fl_P_27 D dA) d_P_closePacket_29 (n := 32) rfl hO.1 rfl ?_
    refine fv_aload_n C d_P_closePacket_32 (n := 33) rfl (i := 0) rfl rfl ?_
    refine fv_get C (fl_P_31 D dA) d_P_closePacket_33 (n := 36) rfl hO.1 rfl ?_
    refine fv_aload_n C d_P_closePacket_36 (n := 37) rfl (i := 0) rfl rfl ?_
    refine fv_get C (fl_P_23 D dA) d_P_closePacket_37 (n := 40) rfl hO.1 rfl ?_
    refine pb_sen C d_P_closePacket_40 (n := 41) rfl hO hBs (by omega) (fun h2 hO hF2 => ?_)
    refine fv_aload_n C d_P_closePacket_41 (n := 42) rfl (i := 0) rfl rfl ?_
    refine fv_get C (fl_P_31 D dA) d_P_closePacket_42 (n := 45) rfl hO.1 rfl ?_
    refine fv_iret C rfl d_P_closePacket_45 (Nat.le_refl _) (Nat.le_refl _) ?_
    refine ⟨_, rfl, rfl, Or.inr ⟨hc13, rfl, ⟨evs, upd en (ends.length + 1) (nI log.length), ?_, hev, ?_⟩, hF1.tr hF2 (fun x hx => Or.inl hx) (fun x hx => Or.inr hx)⟩⟩
    · rw [List.length_append]; exact hO
    · intro p hp
      rw [List.length_append] at hp
      simp only [List.length_cons, List.length_nil] at hp
      by_cases h9 : p = ends.length + 1
      · rw [h9, fe_E_new]; simp [upd]
      · unfold upd; rw [if_neg h9, fe_E_app (by omega)]; exact hen p (by omega)
  · refine fv_iconst C d_P_closePacket_16 (n := 17) rfl kI_0 ?_
    refine fv_iret C rfl d_P_closePacket_17 (Nat.le_refl _) (Nat.le_refl _) ?_
    exact ⟨_, rfl, rfl, Or.inl ⟨hc13, rfl, rfl⟩⟩
end PBW
end
