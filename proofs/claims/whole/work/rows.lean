section
-- ===== PART A: goes FIRST, ahead of the names: the tables' words, and 'selects' of the private methods out of them =====
/-- a private method of a class that the tables say can be made, by its rows of tables_1 -/
def lw_okq (q : MethodName × Nat) : Prop := (q.1.cls ≠ "java/lang/invoke/MethodHandle" ∧ q.1.cls ≠ "java/lang/invoke/VarHandle") ∧ Cond.instantiable q.1.cls q.2 ∈ tables_1 ∧ Cond.privateMethod q.1 ∈ tables_1 ∧ Cond.instanceMethod q.1 ∈ tables_1
theorem lw_p0 : lw_okq (⟨"SlottedMesh", "isNode", "(I)Z"⟩, 9) := ⟨⟨by decide +kernel, by decide +kernel⟩, List.mem_of_getElem? (i := 11) (by decide +kernel), List.mem_of_getElem? (i := 234) (by decide +kernel), List.mem_of_getElem? (i := 235) (by decide +kernel)⟩
theorem lw_p1 : lw_okq (⟨"SlottedMesh$Plan", "findRanks", "([LSlottedMesh$Node;)Z"⟩, 9) := ⟨⟨by decide +kernel, by decide +kernel⟩, List.mem_of_getElem? (i := 163) (by decide +kernel), List.mem_of_getElem? (i := 249) (by decide +kernel), List.mem_of_getElem? (i := 250) (by decide +kernel)⟩
theorem lw_p2 : lw_okq (⟨"SlottedMesh$Plan", "nextNearOfRank", "(LSlottedMesh$Node;II)I"⟩, 9) := ⟨⟨by decide +kernel, by decide +kernel⟩, List.mem_of_getElem? (i := 163) (by decide +kernel), List.mem_of_getElem? (i := 253) (by decide +kernel), List.mem_of_getElem? (i := 254) (by decide +kernel)⟩
theorem lw_p3 : lw_okq (⟨"SlottedMesh$Plan", "findParents", "([LSlottedMesh$Node;)V"⟩, 9) := ⟨⟨by decide +kernel, by decide +kernel⟩, List.mem_of_getElem? (i := 163) (by decide +kernel), List.mem_of_getElem? (i := 257) (by decide +kernel), List.mem_of_getElem? (i := 258) (by decide +kernel)⟩
theorem lw_p4 : lw_okq (⟨"SlottedMesh$Plan", "placeAdverts", "()Z"⟩, 9) := ⟨⟨by decide +kernel, by decide +kernel⟩, List.mem_of_getElem? (i := 163) (by decide +kernel), List.mem_of_getElem? (i := 261) (by decide +kernel), List.mem_of_getElem? (i := 262) (by decide +kernel)⟩
theorem lw_p5 : lw_okq (⟨"SlottedMesh$Plan", "placeAdvert", "(I)Z"⟩, 9) := ⟨⟨by decide +kernel, by decide +kernel⟩, List.mem_of_getElem? (i := 163) (by decide +kernel), List.mem_of_getElem? (i := 265) (by decide +kernel), List.mem_of_getElem? (i := 266) (by decide +kernel)⟩
theorem lw_p6 : lw_okq (⟨"SlottedMesh$Plan", "fillSlot", "(II)V"⟩, 9) := ⟨⟨by decide +kernel, by decide +kernel⟩, List.mem_of_getElem? (i := 163) (by decide +kernel), List.mem_of_getElem? (i := 273) (by decide +kernel), List.mem_of_getElem? (i := 274) (by decide +kernel)⟩
theorem lw_p7 : lw_okq (⟨"SlottedMesh$Plan", "placeLinks", "()Z"⟩, 9) := ⟨⟨by decide +kernel, by decide +kernel⟩, List.mem_of_getElem? (i := 163) (by decide +kernel), List.mem_of_getElem? (i := 277) (by decide +kernel), List.mem_of_getElem? (i := 278) (by decide +kernel)⟩
theorem lw_p8 : lw_okq (⟨"SlottedMesh$Plan", "placeLink", "(III)Z"⟩, 9) := ⟨⟨by decide +kernel, by decide +kernel⟩, List.mem_of_getElem? (i := 163) (by decide +kernel), List.mem_of_getElem? (i := 281) (by decide +kernel), List.mem_of_getElem? (i := 282) (by decide +kernel)⟩
theorem lw_p9 : lw_okq (⟨"SlottedMesh$Plan", "freeChannel", "(III)I"⟩, 9) := ⟨⟨by decide +kernel, by decide +kernel⟩, List.mem_of_getElem? (i := 163) (by decide +kernel), List.mem_of_getElem? (i := 285) (by decide +kernel), List.mem_of_getElem? (i := 286) (by decide +kernel)⟩
theorem lw_p10 : lw_okq (⟨"SlottedMesh", "isFieldNode", "(I)Z"⟩, 9) := ⟨⟨by decide +kernel, by decide +kernel⟩, List.mem_of_getElem? (i := 11) (by decide +kernel), List.mem_of_getElem? (i := 317) (by decide +kernel), List.mem_of_getElem? (i := 318) (by decide +kernel)⟩
theorem lw_p11 : lw_okq (⟨"SlottedMesh", "isChannel", "(I)Z"⟩, 9) := ⟨⟨by decide +kernel, by decide +kernel⟩, List.mem_of_getElem? (i := 11) (by decide +kernel), List.mem_of_getElem? (i := 337) (by decide +kernel), List.mem_of_getElem? (i := 338) (by decide +kernel)⟩
theorem lw_p12 : lw_okq (⟨"SlottedMesh", "driftClocks", "()V"⟩, 9) := ⟨⟨by decide +kernel, by decide +kernel⟩, List.mem_of_getElem? (i := 11) (by decide +kernel), List.mem_of_getElem? (i := 357) (by decide +kernel), List.mem_of_getElem? (i := 358) (by decide +kernel)⟩
theorem lw_p13 : lw_okq (⟨"SlottedMesh", "playCells", "(I)V"⟩, 9) := ⟨⟨by decide +kernel, by decide +kernel⟩, List.mem_of_getElem? (i := 11) (by decide +kernel), List.mem_of_getElem? (i := 364) (by decide +kernel), List.mem_of_getElem? (i := 365) (by decide +kernel)⟩
theorem lw_p14 : lw_okq (⟨"SlottedMesh", "advertise", "(LSlottedMesh$Node;LSlottedMesh$Channel;)V"⟩, 9) := ⟨⟨by decide +kernel, by decide +kernel⟩, List.mem_of_getElem? (i := 11) (by decide +kernel), List.mem_of_getElem? (i := 372) (by decide +kernel), List.mem_of_getElem? (i := 373) (by decide +kernel)⟩
theorem lw_p15 : lw_okq (⟨"SlottedMesh", "answerAdvert", "(LSlottedMesh$Node;LSlottedMesh$Node;)V"⟩, 9) := ⟨⟨by decide +kernel, by decide +kernel⟩, List.mem_of_getElem? (i := 11) (by decide +kernel), List.mem_of_getElem? (i := 384) (by decide +kernel), List.mem_of_getElem? (i := 385) (by decide +kernel)⟩
def lw_privs_1 : List (MethodName × Nat) := [(⟨"SlottedMesh", "isNode", "(I)Z"⟩, 9), (⟨"SlottedMesh$Plan", "findRanks", "([LSlottedMesh$Node;)Z"⟩, 9), (⟨"SlottedMesh$Plan", "nextNearOfRank", "(LSlottedMesh$Node;II)I"⟩, 9), (⟨"SlottedMesh$Plan", "findParents", "([LSlottedMesh$Node;)V"⟩, 9), (⟨"SlottedMesh$Plan", "placeAdverts", "()Z"⟩, 9), (⟨"SlottedMesh$Plan", "placeAdvert", "(I)Z"⟩, 9), (⟨"SlottedMesh$Plan", "fillSlot", "(II)V"⟩, 9), (⟨"SlottedMesh$Plan", "placeLinks", "()Z"⟩, 9), (⟨"SlottedMesh$Plan", "placeLink", "(III)Z"⟩, 9), (⟨"SlottedMesh$Plan", "freeChannel", "(III)I"⟩, 9), (⟨"SlottedMesh", "isFieldNode", "(I)Z"⟩, 9), (⟨"SlottedMesh", "isChannel", "(I)Z"⟩, 9), (⟨"SlottedMesh", "driftClocks", "()V"⟩, 9), (⟨"SlottedMesh", "playCells", "(I)V"⟩, 9), (⟨"SlottedMesh", "advertise", "(LSlottedMesh$Node;LSlottedMesh$Channel;)V"⟩, 9), (⟨"SlottedMesh", "answerAdvert", "(LSlottedMesh$Node;LSlottedMesh$Node;)V"⟩, 9)]
theorem lw_r1 : ∀ q ∈ lw_privs_1, lw_okq q := List.forall_mem_cons.mpr ⟨lw_p0, List.forall_mem_cons.mpr ⟨lw_p1, List.forall_mem_cons.mpr ⟨lw_p2, List.forall_mem_cons.mpr ⟨lw_p3, List.forall_mem_cons.mpr ⟨lw_p4, List.forall_mem_cons.mpr ⟨lw_p5, List.forall_mem_cons.mpr ⟨lw_p6, List.forall_mem_cons.mpr ⟨lw_p7, List.forall_mem_cons.mpr ⟨lw_p8, List.forall_mem_cons.mpr ⟨lw_p9, List.forall_mem_cons.mpr ⟨lw_p10, List.forall_mem_cons.mpr ⟨lw_p11, List.forall_mem_cons.mpr ⟨lw_p12, List.forall_mem_cons.mpr ⟨lw_p13, List.forall_mem_cons.mpr ⟨lw_p14, List.forall_mem_cons.mpr ⟨lw_p15, fun _ h => absurd h List.not_mem_nil⟩⟩⟩⟩⟩⟩⟩⟩⟩⟩⟩⟩⟩⟩⟩⟩
theorem lw_p16 : lw_okq (⟨"SlottedMesh", "sendUp", "(LSlottedMesh$Node;LSlottedMesh$Node;LSlottedMesh$Channel;)V"⟩, 9) := ⟨⟨by decide +kernel, by decide +kernel⟩, List.mem_of_getElem? (i := 11) (by decide +kernel), List.mem_of_getElem? (i := 395) (by decide +kernel), List.mem_of_getElem? (i := 396) (by decide +kernel)⟩
theorem lw_p17 : lw_okq (⟨"SlottedMesh", "hears", "(LSlottedMesh$Node;LSlottedMesh$Node;LSlottedMesh$Channel;)Z"⟩, 9) := ⟨⟨by decide +kernel, by decide +kernel⟩, List.mem_of_getElem? (i := 11) (by decide +kernel), List.mem_of_getElem? (i := 399) (by decide +kernel), List.mem_of_getElem? (i := 400) (by decide +kernel)⟩
theorem lw_p18 : lw_okq (⟨"SlottedMesh", "settleUp", "(LSlottedMesh$FrameRow;LSlottedMesh$Node;)Z"⟩, 9) := ⟨⟨by decide +kernel, by decide +kernel⟩, List.mem_of_getElem? (i := 11) (by decide +kernel), List.mem_of_getElem? (i := 403) (by decide +kernel), List.mem_of_getElem? (i := 404) (by decide +kernel)⟩
theorem lw_p19 : lw_okq (⟨"SlottedMesh", "cacheSample", "(III)V"⟩, 9) := ⟨⟨by decide +kernel, by decide +kernel⟩, List.mem_of_getElem? (i := 11) (by decide +kernel), List.mem_of_getElem? (i := 407) (by decide +kernel), List.mem_of_getElem? (i := 408) (by decide +kernel)⟩
theorem lw_p20 : lw_okq (⟨"SlottedMesh", "sendDown", "(LSlottedMesh$Node;LSlottedMesh$Node;LSlottedMesh$Channel;)V"⟩, 9) := ⟨⟨by decide +kernel, by decide +kernel⟩, List.mem_of_getElem? (i := 11) (by decide +kernel), List.mem_of_getElem? (i := 436) (by decide +kernel), List.mem_of_getElem? (i := 437) (by decide +kernel)⟩
theorem lw_p21 : lw_okq (⟨"SlottedMeshModel", "noNode", "(I)Z"⟩, 34) := ⟨⟨by decide +kernel, by decide +kernel⟩, List.mem_of_getElem? (i := 495) (by decide +kernel), List.mem_of_getElem? (i := 610) (by decide +kernel), List.mem_of_getElem? (i := 611) (by decide +kernel)⟩
theorem lw_p22 : lw_okq (⟨"SlottedMeshModel", "ranks", "()Z"⟩, 34) := ⟨⟨by decide +kernel, by decide +kernel⟩, List.mem_of_getElem? (i := 495) (by decide +kernel), List.mem_of_getElem? (i := 618) (by decide +kernel), List.mem_of_getElem? (i := 619) (by decide +kernel)⟩
theorem lw_p23 : lw_okq (⟨"SlottedMeshModel", "findParents", "()V"⟩, 34) := ⟨⟨by decide +kernel, by decide +kernel⟩, List.mem_of_getElem? (i := 495) (by decide +kernel), List.mem_of_getElem? (i := 622) (by decide +kernel), List.mem_of_getElem? (i := 623) (by decide +kernel)⟩
theorem lw_p24 : lw_okq (⟨"SlottedMeshModel", "placeAll", "()Z"⟩, 34) := ⟨⟨by decide +kernel, by decide +kernel⟩, List.mem_of_getElem? (i := 495) (by decide +kernel), List.mem_of_getElem? (i := 626) (by decide +kernel), List.mem_of_getElem? (i := 627) (by decide +kernel)⟩
theorem lw_p25 : lw_okq (⟨"SlottedMeshModel", "placeAdvert", "(I)Z"⟩, 34) := ⟨⟨by decide +kernel, by decide +kernel⟩, List.mem_of_getElem? (i := 495) (by decide +kernel), List.mem_of_getElem? (i := 630) (by decide +kernel), List.mem_of_getElem? (i := 631) (by decide +kernel)⟩
theorem lw_p26 : lw_okq (⟨"SlottedMeshModel", "place", "(I)Z"⟩, 34) := ⟨⟨by decide +kernel, by decide +kernel⟩, List.mem_of_getElem? (i := 495) (by decide +kernel), List.mem_of_getElem? (i := 634) (by decide +kernel), List.mem_of_getElem? (i := 635) (by decide +kernel)⟩
theorem lw_p27 : lw_okq (⟨"SlottedMeshModel", "add", "(IIII)V"⟩, 34) := ⟨⟨by decide +kernel, by decide +kernel⟩, List.mem_of_getElem? (i := 495) (by decide +kernel), List.mem_of_getElem? (i := 664) (by decide +kernel), List.mem_of_getElem? (i := 665) (by decide +kernel)⟩
theorem lw_p28 : lw_okq (⟨"SlottedMeshModel", "slot", "()V"⟩, 34) := ⟨⟨by decide +kernel, by decide +kernel⟩, List.mem_of_getElem? (i := 495) (by decide +kernel), List.mem_of_getElem? (i := 676) (by decide +kernel), List.mem_of_getElem? (i := 677) (by decide +kernel)⟩
theorem lw_p29 : lw_okq (⟨"SlottedMeshModel", "advert", "(I)V"⟩, 34) := ⟨⟨by decide +kernel, by decide +kernel⟩, List.mem_of_getElem? (i := 495) (by decide +kernel), List.mem_of_getElem? (i := 680) (by decide +kernel), List.mem_of_getElem? (i := 681) (by decide +kernel)⟩
theorem lw_p30 : lw_okq (⟨"SlottedMeshModel", "close", "(II)Z"⟩, 34) := ⟨⟨by decide +kernel, by decide +kernel⟩, List.mem_of_getElem? (i := 495) (by decide +kernel), List.mem_of_getElem? (i := 687) (by decide +kernel), List.mem_of_getElem? (i := 688) (by decide +kernel)⟩
theorem lw_p31 : lw_okq (⟨"SlottedMeshModel", "down", "(III)V"⟩, 34) := ⟨⟨by decide +kernel, by decide +kernel⟩, List.mem_of_getElem? (i := 495) (by decide +kernel), List.mem_of_getElem? (i := 691) (by decide +kernel), List.mem_of_getElem? (i := 692) (by decide +kernel)⟩
def lw_privs_2 : List (MethodName × Nat) := [(⟨"SlottedMesh", "sendUp", "(LSlottedMesh$Node;LSlottedMesh$Node;LSlottedMesh$Channel;)V"⟩, 9), (⟨"SlottedMesh", "hears", "(LSlottedMesh$Node;LSlottedMesh$Node;LSlottedMesh$Channel;)Z"⟩, 9), (⟨"SlottedMesh", "settleUp", "(LSlottedMesh$FrameRow;LSlottedMesh$Node;)Z"⟩, 9), (⟨"SlottedMesh", "cacheSample", "(III)V"⟩, 9), (⟨"SlottedMesh", "sendDown", "(LSlottedMesh$Node;LSlottedMesh$Node;LSlottedMesh$Channel;)V"⟩, 9), (⟨"SlottedMeshModel", "noNode", "(I)Z"⟩, 34), (⟨"SlottedMeshModel", "ranks", "()Z"⟩, 34), (⟨"SlottedMeshModel", "findParents", "()V"⟩, 34), (⟨"SlottedMeshModel", "placeAll", "()Z"⟩, 34), (⟨"SlottedMeshModel", "placeAdvert", "(I)Z"⟩, 34), (⟨"SlottedMeshModel", "place", "(I)Z"⟩, 34), (⟨"SlottedMeshModel", "add", "(IIII)V"⟩, 34), (⟨"SlottedMeshModel", "slot", "()V"⟩, 34), (⟨"SlottedMeshModel", "advert", "(I)V"⟩, 34), (⟨"SlottedMeshModel", "close", "(II)Z"⟩, 34), (⟨"SlottedMeshModel", "down", "(III)V"⟩, 34)]
theorem lw_r2 : ∀ q ∈ lw_privs_2, lw_okq q := List.forall_mem_cons.mpr ⟨lw_p16, List.forall_mem_cons.mpr ⟨lw_p17, List.forall_mem_cons.mpr ⟨lw_p18, List.forall_mem_cons.mpr ⟨lw_p19, List.forall_mem_cons.mpr ⟨lw_p20, List.forall_mem_cons.mpr ⟨lw_p21, List.forall_mem_cons.mpr ⟨lw_p22, List.forall_mem_cons.mpr ⟨lw_p23, List.forall_mem_cons.mpr ⟨lw_p24, List.forall_mem_cons.mpr ⟨lw_p25, List.forall_mem_cons.mpr ⟨lw_p26, List.forall_mem_cons.mpr ⟨lw_p27, List.forall_mem_cons.mpr ⟨lw_p28, List.forall_mem_cons.mpr ⟨lw_p29, List.forall_mem_cons.mpr ⟨lw_p30, List.forall_mem_cons.mpr ⟨lw_p31, fun _ h => absurd h List.not_mem_nil⟩⟩⟩⟩⟩⟩⟩⟩⟩⟩⟩⟩⟩⟩⟩⟩
theorem lw_p32 : lw_okq (⟨"SlottedMeshModel", "below", "(II)Z"⟩, 34) := ⟨⟨by decide +kernel, by decide +kernel⟩, List.mem_of_getElem? (i := 495) (by decide +kernel), List.mem_of_getElem? (i := 695) (by decide +kernel), List.mem_of_getElem? (i := 696) (by decide +kernel)⟩
theorem lw_p33 : lw_okq (⟨"SlottedMeshModel", "hears", "(III)Z"⟩, 34) := ⟨⟨by decide +kernel, by decide +kernel⟩, List.mem_of_getElem? (i := 495) (by decide +kernel), List.mem_of_getElem? (i := 699) (by decide +kernel), List.mem_of_getElem? (i := 700) (by decide +kernel)⟩
theorem lw_p34 : lw_okq (⟨"SlottedMeshModel", "leave", "(I)V"⟩, 34) := ⟨⟨by decide +kernel, by decide +kernel⟩, List.mem_of_getElem? (i := 495) (by decide +kernel), List.mem_of_getElem? (i := 703) (by decide +kernel), List.mem_of_getElem? (i := 704) (by decide +kernel)⟩
theorem lw_p35 : lw_okq (⟨"SlottedMeshModel", "up", "(III)V"⟩, 34) := ⟨⟨by decide +kernel, by decide +kernel⟩, List.mem_of_getElem? (i := 495) (by decide +kernel), List.mem_of_getElem? (i := 707) (by decide +kernel), List.mem_of_getElem? (i := 708) (by decide +kernel)⟩
theorem lw_p36 : lw_okq (⟨"SlottedMeshModel", "cache", "(III)V"⟩, 34) := ⟨⟨by decide +kernel, by decide +kernel⟩, List.mem_of_getElem? (i := 495) (by decide +kernel), List.mem_of_getElem? (i := 711) (by decide +kernel), List.mem_of_getElem? (i := 712) (by decide +kernel)⟩
def lw_privs_3 : List (MethodName × Nat) := [(⟨"SlottedMeshModel", "below", "(II)Z"⟩, 34), (⟨"SlottedMeshModel", "hears", "(III)Z"⟩, 34), (⟨"SlottedMeshModel", "leave", "(I)V"⟩, 34), (⟨"SlottedMeshModel", "up", "(III)V"⟩, 34), (⟨"SlottedMeshModel", "cache", "(III)V"⟩, 34)]
theorem lw_r3 : ∀ q ∈ lw_privs_3, lw_okq q := List.forall_mem_cons.mpr ⟨lw_p32, List.forall_mem_cons.mpr ⟨lw_p33, List.forall_mem_cons.mpr ⟨lw_p34, List.forall_mem_cons.mpr ⟨lw_p35, List.forall_mem_cons.mpr ⟨lw_p36, fun _ h => absurd h List.not_mem_nil⟩⟩⟩⟩⟩
def lw_privs : List (MethodName × Nat) := lw_privs_1 ++ (lw_privs_2 ++ (lw_privs_3))
def lw_tbl : List Cond := k2_sels lw_privs ++ tables_1
theorem lw_privs_ok : ∀ q ∈ lw_privs, lw_okq q := by
  show ∀ q ∈ lw_privs_1 ++ (lw_privs_2 ++ (lw_privs_3)), lw_okq q
  exact List.forall_mem_append.mpr ⟨lw_r1, List.forall_mem_append.mpr ⟨lw_r2, lw_r3⟩⟩
end
section
/-! names, by program (wip/whole/gen/names.py) out of the listing: R_ class, T_ its fields in the order of the slots, tp_ their types, b_ a method's code, y_ its name, kw_ a word among the tables', d_ an instruction -/
/-- the words that a caller may hand on -/
def gz : List Cond := lw_tbl.filter goodWord
theorem gz_t {w : Cond} (h : w ∈ tables_1) (g : goodWord w = true) : w ∈ gz := List.mem_filter.mpr ⟨List.mem_append_right _ h, g⟩
theorem gz_s {w : Cond} (h : w ∈ k2_sels lw_privs) (g : goodWord w = true) : w ∈ gz := List.mem_filter.mpr ⟨List.mem_append_left _ h, g⟩
def R_S : String := "SlottedMesh"
def R_N : String := "SlottedMesh$Node"
def R_F : String := "SlottedMesh$FrameRow"
def R_O : String := "SlottedMesh$Loop"
def R_H : String := "SlottedMesh$Channel"
def R_P : String := "SlottedMesh$Plan"
def R_M : String := "SlottedMeshModel"
def R_L : String := "SlottedMeshLaw"
def R_A : String := "java/util/Arrays"
def R_T : String := "java/lang/Math"
def R_B : String := "java/lang/Object"
def T_H : u_T := fun k => match k with
  | 0 => ("SlottedMesh$Channel", "frames", "J", false)
  | _ => ("SlottedMesh$Channel", "confirmations", "J", false)
def tp_H : Nat → FieldType := fun k => match k with
  | 0 => .long
  | _ => .long
theorem nm_H : ∀ a, a < 2 → ∀ b, b < 2 → a ≠ b → (T_H a).2.1 ≠ (T_H b).2.1 := by decide +kernel
theorem tp_H_ok : ∀ k, k < 2 → parseFieldDescriptor (T_H k).2.2.1 = some (tp_H k) := by decide +kernel
theorem tc_H : ∀ k, k < 2 → (T_H k).1 = R_H := by decide +kernel
theorem uw_H : ∀ w ∈ u_ws R_H T_H 2, w ∈ gz := fun w h => gz_t ((by decide +kernel : ∀ w ∈ u_ws R_H T_H 2, w ∈ tables_1) w h) ((by decide +kernel : ∀ w ∈ u_ws R_H T_H 2, goodWord w = true) w h)
def T_F : u_T := fun k => match k with
  | 0 => ("SlottedMesh$FrameRow", "ends", "[I", true)
  | 1 => ("SlottedMesh$FrameRow", "numbers", "[I", true)
  | 2 => ("SlottedMesh$FrameRow", "values", "[I", true)
  | _ => ("SlottedMesh$FrameRow", "size", "I", false)
def tp_F : Nat → FieldType := fun k => match k with
  | 0 => .array .int
  | 1 => .array .int
  | 2 => .array .int
  | _ => .int
theorem nm_F : ∀ a, a < 4 → ∀ b, b < 4 → a ≠ b → (T_F a).2.1 ≠ (T_F b).2.1 := by decide +kernel
theorem tp_F_ok : ∀ k, k < 4 → parseFieldDescriptor (T_F k).2.2.1 = some (tp_F k) := by decide +kernel
theorem tc_F : ∀ k, k < 4 → (T_F k).1 = R_F := by decide +kernel
theorem uw_F : ∀ w ∈ u_ws R_F T_F 4, w ∈ gz := fun w h => gz_t ((by decide +kernel : ∀ w ∈ u_ws R_F T_F 4, w ∈ tables_1) w h) ((by decide +kernel : ∀ w ∈ u_ws R_F T_F 4, goodWord w = true) w h)
def T_O : u_T := fun k => match k with
  | 0 => ("SlottedMesh$Loop", "newest", "[I", true)
  | 1 => ("SlottedMesh$Loop", "kept", "I", false)
  | 2 => ("SlottedMesh$Loop", "target", "I", false)
  | 3 => ("SlottedMesh$Loop", "p", "I", false)
  | 4 => ("SlottedMesh$Loop", "i", "I", false)
  | _ => ("SlottedMesh$Loop", "sum", "I", false)
def tp_O : Nat → FieldType := fun k => match k with
  | 0 => .array .int
  | 1 => .int
  | 2 => .int
  | 3 => .int
  | 4 => .int
  | _ => .int
theorem nm_O : ∀ a, a < 6 → ∀ b, b < 6 → a ≠ b → (T_O a).2.1 ≠ (T_O b).2.1 := by decide +kernel
theorem tp_O_ok : ∀ k, k < 6 → parseFieldDescriptor (T_O k).2.2.1 = some (tp_O k) := by decide +kernel
theorem tc_O : ∀ k, k < 6 → (T_O k).1 = R_O := by decide +kernel
theorem uw_O : ∀ w ∈ u_ws R_O T_O 6, w ∈ gz := fun w h => gz_t ((by decide +kernel : ∀ w ∈ u_ws R_O T_O 6, w ∈ tables_1) w h) ((by decide +kernel : ∀ w ∈ u_ws R_O T_O 6, goodWord w = true) w h)
def T_N : u_T := fun k => match k with
  | 0 => ("SlottedMesh$Node", "number", "I", true)
  | 1 => ("SlottedMesh$Node", "near", "[Z", true)
  | 2 => ("SlottedMesh$Node", "ups", "LSlottedMesh$FrameRow;", true)
  | 3 => ("SlottedMesh$Node", "downs", "LSlottedMesh$FrameRow;", true)
  | 4 => ("SlottedMesh$Node", "upsTaken", "[I", true)
  | 5 => ("SlottedMesh$Node", "downsTaken", "[I", true)
  | 6 => ("SlottedMesh$Node", "started", "Z", false)
  | 7 => ("SlottedMesh$Node", "current", "Z", false)
  | 8 => ("SlottedMesh$Node", "clock", "I", false)
  | 9 => ("SlottedMesh$Node", "clockDrift", "I", false)
  | 10 => ("SlottedMesh$Node", "fails", "I", false)
  | 11 => ("SlottedMesh$Node", "tries", "I", false)
  | 12 => ("SlottedMesh$Node", "samples", "I", false)
  | _ => ("SlottedMesh$Node", "actuatorValue", "I", false)
def tp_N : Nat → FieldType := fun k => match k with
  | 0 => .int
  | 1 => .array .boolean
  | 2 => .object "SlottedMesh$FrameRow"
  | 3 => .object "SlottedMesh$FrameRow"
  | 4 => .array .int
  | 5 => .array .int
  | 6 => .boolean
  | 7 => .boolean
  | 8 => .int
  | 9 => .int
  | 10 => .int
  | 11 => .int
  | 12 => .int
  | _ => .int
theorem nm_N : ∀ a, a < 14 → ∀ b, b < 14 → a ≠ b → (T_N a).2.1 ≠ (T_N b).2.1 := by decide +kernel
theorem tp_N_ok : ∀ k, k < 14 → parseFieldDescriptor (T_N k).2.2.1 = some (tp_N k) := by decide +kernel
theorem tc_N : ∀ k, k < 14 → (T_N k).1 = R_N := by decide +kernel
theorem uw_N : ∀ w ∈ u_ws R_N T_N 14, w ∈ gz := fun w h => gz_t ((by decide +kernel : ∀ w ∈ u_ws R_N T_N 14, w ∈ tables_1) w h) ((by decide +kernel : ∀ w ∈ u_ws R_N T_N 14, goodWord w = true) w h)
def T_P : u_T := fun k => match k with
  | 0 => ("SlottedMesh$Plan", "slots", "I", true)
  | 1 => ("SlottedMesh$Plan", "channels", "I", true)
  | 2 => ("SlottedMesh$Plan", "ranks", "[I", true)
  | 3 => ("SlottedMesh$Plan", "firsts", "[I", true)
  | 4 => ("SlottedMesh$Plan", "seconds", "[I", true)
  | 5 => ("SlottedMesh$Plan", "order", "[I", true)
  | 6 => ("SlottedMesh$Plan", "codes", "[I", true)
  | 7 => ("SlottedMesh$Plan", "size", "I", false)
  | _ => ("SlottedMesh$Plan", "made", "Z", false)
def tp_P : Nat → FieldType := fun k => match k with
  | 0 => .int
  | 1 => .int
  | 2 => .array .int
  | 3 => .array .int
  | 4 => .array .int
  | 5 => .array .int
  | 6 => .array .int
  | 7 => .int
  | _ => .boolean
theorem nm_P : ∀ a, a < 9 → ∀ b, b < 9 → a ≠ b → (T_P a).2.1 ≠ (T_P b).2.1 := by decide +kernel
theorem tp_P_ok : ∀ k, k < 9 → parseFieldDescriptor (T_P k).2.2.1 = some (tp_P k) := by decide +kernel
theorem tc_P : ∀ k, k < 9 → (T_P k).1 = R_P := by decide +kernel
theorem uw_P : ∀ w ∈ u_ws R_P T_P 9, w ∈ gz := fun w h => gz_t ((by decide +kernel : ∀ w ∈ u_ws R_P T_P 9, w ∈ tables_1) w h) ((by decide +kernel : ∀ w ∈ u_ws R_P T_P 9, goodWord w = true) w h)
def T_S : u_T := fun k => match k with
  | 0 => ("SlottedMesh", "slots", "I", true)
  | 1 => ("SlottedMesh", "channels", "I", true)
  | 2 => ("SlottedMesh", "nodes", "[LSlottedMesh$Node;", true)
  | 3 => ("SlottedMesh", "air", "[LSlottedMesh$Channel;", true)
  | 4 => ("SlottedMesh", "loops", "[LSlottedMesh$Loop;", true)
  | 5 => ("SlottedMesh", "active", "LSlottedMesh$Plan;", false)
  | 6 => ("SlottedMesh", "spare", "LSlottedMesh$Plan;", false)
  | 7 => ("SlottedMesh", "time", "I", false)
  | _ => ("SlottedMesh", "sentFrames", "I", false)
def tp_S : Nat → FieldType := fun k => match k with
  | 0 => .int
  | 1 => .int
  | 2 => .array (.object "SlottedMesh$Node")
  | 3 => .array (.object "SlottedMesh$Channel")
  | 4 => .array (.object "SlottedMesh$Loop")
  | 5 => .object "SlottedMesh$Plan"
  | 6 => .object "SlottedMesh$Plan"
  | 7 => .int
  | _ => .int
theorem nm_S : ∀ a, a < 9 → ∀ b, b < 9 → a ≠ b → (T_S a).2.1 ≠ (T_S b).2.1 := by decide +kernel
theorem tp_S_ok : ∀ k, k < 9 → parseFieldDescriptor (T_S k).2.2.1 = some (tp_S k) := by decide +kernel
theorem tc_S : ∀ k, k < 9 → (T_S k).1 = R_S := by decide +kernel
theorem uw_S : ∀ w ∈ u_ws R_S T_S 9, w ∈ gz := fun w h => gz_t ((by decide +kernel : ∀ w ∈ u_ws R_S T_S 9, w ∈ tables_1) w h) ((by decide +kernel : ∀ w ∈ u_ws R_S T_S 9, goodWord w = true) w h)
def T_M : u_T := fun k => match k with
  | 0 => ("SlottedMeshModel", "nodes", "I", true)
  | 1 => ("SlottedMeshModel", "slots", "I", true)
  | 2 => ("SlottedMeshModel", "channels", "I", true)
  | 3 => ("SlottedMeshModel", "time", "I", false)
  | 4 => ("SlottedMeshModel", "sends", "I", false)
  | 5 => ("SlottedMeshModel", "near", "[Z", true)
  | 6 => ("SlottedMeshModel", "started", "[Z", true)
  | 7 => ("SlottedMeshModel", "current", "[Z", true)
  | 8 => ("SlottedMeshModel", "offset", "[I", true)
  | 9 => ("SlottedMeshModel", "drift", "[I", true)
  | 10 => ("SlottedMeshModel", "heard", "[J", true)
  | 11 => ("SlottedMeshModel", "confirmed", "[J", true)
  | 12 => ("SlottedMeshModel", "planned", "Z", false)
  | 13 => ("SlottedMeshModel", "rank", "[I", true)
  | 14 => ("SlottedMeshModel", "parents", "[I", true)
  | 15 => ("SlottedMeshModel", "cells", "[I", true)
  | 16 => ("SlottedMeshModel", "newRank", "[I", true)
  | 17 => ("SlottedMeshModel", "newParents", "[I", true)
  | 18 => ("SlottedMeshModel", "newCells", "[I", true)
  | 19 => ("SlottedMeshModel", "many", "[I", true)
  | 20 => ("SlottedMeshModel", "end", "[I", true)
  | 21 => ("SlottedMeshModel", "number", "[I", true)
  | 22 => ("SlottedMeshModel", "value", "[I", true)
  | 23 => ("SlottedMeshModel", "fails", "[I", true)
  | 24 => ("SlottedMeshModel", "tries", "[I", true)
  | 25 => ("SlottedMeshModel", "took", "[I", true)
  | 26 => ("SlottedMeshModel", "counted", "[I", true)
  | 27 => ("SlottedMeshModel", "kept", "[I", true)
  | 28 => ("SlottedMeshModel", "keeps", "[I", true)
  | 29 => ("SlottedMeshModel", "target", "[I", true)
  | 30 => ("SlottedMeshModel", "ps", "[I", true)
  | 31 => ("SlottedMeshModel", "is", "[I", true)
  | 32 => ("SlottedMeshModel", "sum", "[I", true)
  | _ => ("SlottedMeshModel", "actuators", "[I", true)
def tp_M : Nat → FieldType := fun k => match k with
  | 0 => .int
  | 1 => .int
  | 2 => .int
  | 3 => .int
  | 4 => .int
  | 5 => .array .boolean
  | 6 => .array .boolean
  | 7 => .array .boolean
  | 8 => .array .int
  | 9 => .array .int
  | 10 => .array .long
  | 11 => .array .long
  | 12 => .boolean
  | 13 => .array .int
  | 14 => .array .int
  | 15 => .array .int
  | 16 => .array .int
  | 17 => .array .int
  | 18 => .array .int
  | 19 => .array .int
  | 20 => .array .int
  | 21 => .array .int
  | 22 => .array .int
  | 23 => .array .int
  | 24 => .array .int
  | 25 => .array .int
  | 26 => .array .int
  | 27 => .array .int
  | 28 => .array .int
  | 29 => .array .int
  | 30 => .array .int
  | 31 => .array .int
  | 32 => .array .int
  | _ => .array .int
theorem nm_M : ∀ a, a < 34 → ∀ b, b < 34 → a ≠ b → (T_M a).2.1 ≠ (T_M b).2.1 := by decide +kernel
theorem tp_M_ok : ∀ k, k < 34 → parseFieldDescriptor (T_M k).2.2.1 = some (tp_M k) := by decide +kernel
theorem tc_M : ∀ k, k < 34 → (T_M k).1 = R_M := by decide +kernel
theorem uw_M : ∀ w ∈ u_ws R_M T_M 34, w ∈ gz := fun w h => gz_t ((by decide +kernel : ∀ w ∈ u_ws R_M T_M 34, w ∈ tables_1) w h) ((by decide +kernel : ∀ w ∈ u_ws R_M T_M 34, goodWord w = true) w h)
abbrev vCl : List vw_C := [(R_H, T_H, 2), (R_F, T_F, 4), (R_O, T_O, 6), (R_N, T_N, 14), (R_P, T_P, 9), (R_S, T_S, 9), (R_M, T_M, 34)]
abbrev b_S_init : ByteArray := prog_1_method_1_code
def y_S_init : MethodName := ⟨"SlottedMesh", "<init>", "(III)V"⟩
abbrev b_S_pair : ByteArray := prog_1_method_2_code
def y_S_pair : MethodName := ⟨"SlottedMesh", "pair", "(IIZ)Z"⟩
abbrev b_S_plan : ByteArray := prog_1_method_3_code
def y_S_plan : MethodName := ⟨"SlottedMesh", "plan", "()I"⟩
abbrev b_S_start : ByteArray := prog_1_method_4_code
def y_S_start : MethodName := ⟨"SlottedMesh", "start", "(I)Z"⟩
abbrev b_S_stop : ByteArray := prog_1_method_5_code
def y_S_stop : MethodName := ⟨"SlottedMesh", "stop", "(I)Z"⟩
abbrev b_S_drift : ByteArray := prog_1_method_6_code
def y_S_drift : MethodName := ⟨"SlottedMesh", "drift", "(II)Z"⟩
abbrev b_S_radio : ByteArray := prog_1_method_7_code
def y_S_radio : MethodName := ⟨"SlottedMesh", "radio", "(IJJ)Z"⟩
abbrev b_S_sample : ByteArray := prog_1_method_8_code
def y_S_sample : MethodName := ⟨"SlottedMesh", "sample", "(II)I"⟩
abbrev b_S_control : ByteArray := prog_1_method_9_code
def y_S_control : MethodName := ⟨"SlottedMesh", "control", "(IIII)Z"⟩
abbrev b_S_run : ByteArray := prog_1_method_10_code
def y_S_run : MethodName := ⟨"SlottedMesh", "run", "(I)I"⟩
abbrev b_S_rank : ByteArray := prog_1_method_11_code
def y_S_rank : MethodName := ⟨"SlottedMesh", "rank", "(I)I"⟩
abbrev b_S_parent : ByteArray := prog_1_method_12_code
def y_S_parent : MethodName := ⟨"SlottedMesh", "parent", "(II)I"⟩
abbrev b_S_cell : ByteArray := prog_1_method_13_code
def y_S_cell : MethodName := ⟨"SlottedMesh", "cell", "(II)I"⟩
abbrev b_S_current : ByteArray := prog_1_method_14_code
def y_S_current : MethodName := ⟨"SlottedMesh", "current", "(I)Z"⟩
abbrev b_S_offset : ByteArray := prog_1_method_15_code
def y_S_offset : MethodName := ⟨"SlottedMesh", "offset", "(I)I"⟩
abbrev b_S_count : ByteArray := prog_1_method_16_code
def y_S_count : MethodName := ⟨"SlottedMesh", "count", "(II)I"⟩
abbrev b_S_cached : ByteArray := prog_1_method_17_code
def y_S_cached : MethodName := ⟨"SlottedMesh", "cached", "(II)I"⟩
abbrev b_S_latest : ByteArray := prog_1_method_18_code
def y_S_latest : MethodName := ⟨"SlottedMesh", "latest", "(I)I"⟩
abbrev b_S_actuator : ByteArray := prog_1_method_19_code
def y_S_actuator : MethodName := ⟨"SlottedMesh", "actuator", "(I)I"⟩
abbrev b_S_sent : ByteArray := prog_1_method_20_code
def y_S_sent : MethodName := ⟨"SlottedMesh", "sent", "()I"⟩
abbrev b_S_nearest : ByteArray := prog_1_method_21_code
def y_S_nearest : MethodName := ⟨"SlottedMesh", "nearest", "(III)I"⟩
abbrev b_S_isWithin : ByteArray := prog_1_method_22_code
def y_S_isWithin : MethodName := ⟨"SlottedMesh", "isWithin", "(III)Z"⟩
abbrev b_S_isNode : ByteArray := prog_1_method_23_code
def y_S_isNode : MethodName := ⟨"SlottedMesh", "isNode", "(I)Z"⟩
abbrev b_S_isFieldNode : ByteArray := prog_1_method_24_code
def y_S_isFieldNode : MethodName := ⟨"SlottedMesh", "isFieldNode", "(I)Z"⟩
abbrev b_S_isChannel : ByteArray := prog_1_method_25_code
def y_S_isChannel : MethodName := ⟨"SlottedMesh", "isChannel", "(I)Z"⟩
abbrev b_S_driftClocks : ByteArray := prog_1_method_26_code
def y_S_driftClocks : MethodName := ⟨"SlottedMesh", "driftClocks", "()V"⟩
abbrev b_S_playCells : ByteArray := prog_1_method_27_code
def y_S_playCells : MethodName := ⟨"SlottedMesh", "playCells", "(I)V"⟩
abbrev b_S_advertise : ByteArray := prog_1_method_28_code
def y_S_advertise : MethodName := ⟨"SlottedMesh", "advertise", "(LSlottedMesh$Node;LSlottedMesh$Channel;)V"⟩
abbrev b_S_answerAdvert : ByteArray := prog_1_method_29_code
def y_S_answerAdvert : MethodName := ⟨"SlottedMesh", "answerAdvert", "(LSlottedMesh$Node;LSlottedMesh$Node;)V"⟩
abbrev b_S_hears : ByteArray := prog_1_method_30_code
def y_S_hears : MethodName := ⟨"SlottedMesh", "hears", "(LSlottedMesh$Node;LSlottedMesh$Node;LSlottedMesh$Channel;)Z"⟩
abbrev b_S_sendUp : ByteArray := prog_1_method_31_code
def y_S_sendUp : MethodName := ⟨"SlottedMesh", "sendUp", "(LSlottedMesh$Node;LSlottedMesh$Node;LSlottedMesh$Channel;)V"⟩
abbrev b_S_settleUp : ByteArray := prog_1_method_32_code
def y_S_settleUp : MethodName := ⟨"SlottedMesh", "settleUp", "(LSlottedMesh$FrameRow;LSlottedMesh$Node;)Z"⟩
abbrev b_S_cacheSample : ByteArray := prog_1_method_33_code
def y_S_cacheSample : MethodName := ⟨"SlottedMesh", "cacheSample", "(III)V"⟩
abbrev b_S_sendDown : ByteArray := prog_1_method_34_code
def y_S_sendDown : MethodName := ⟨"SlottedMesh", "sendDown", "(LSlottedMesh$Node;LSlottedMesh$Node;LSlottedMesh$Channel;)V"⟩
abbrev b_S_settleDown : ByteArray := prog_1_method_35_code
def y_S_settleDown : MethodName := ⟨"SlottedMesh", "settleDown", "(LSlottedMesh$FrameRow;LSlottedMesh$Node;)Z"⟩
abbrev b_M_init : ByteArray := prog_8_method_1_code
def y_M_init : MethodName := ⟨"SlottedMeshModel", "<init>", "(III)V"⟩
abbrev b_M_noNode : ByteArray := prog_8_method_2_code
def y_M_noNode : MethodName := ⟨"SlottedMeshModel", "noNode", "(I)Z"⟩
abbrev b_M_pair : ByteArray := prog_8_method_3_code
def y_M_pair : MethodName := ⟨"SlottedMeshModel", "pair", "(IIZ)Z"⟩
abbrev b_M_ranks : ByteArray := prog_8_method_4_code
def y_M_ranks : MethodName := ⟨"SlottedMeshModel", "ranks", "()Z"⟩
abbrev b_M_findParents : ByteArray := prog_8_method_5_code
def y_M_findParents : MethodName := ⟨"SlottedMeshModel", "findParents", "()V"⟩
abbrev b_M_first : ByteArray := prog_8_method_6_code
def y_M_first : MethodName := ⟨"SlottedMeshModel", "first", "(I)I"⟩
abbrev b_M_second : ByteArray := prog_8_method_7_code
def y_M_second : MethodName := ⟨"SlottedMeshModel", "second", "(I)I"⟩
abbrev b_M_placeAdvert : ByteArray := prog_8_method_8_code
def y_M_placeAdvert : MethodName := ⟨"SlottedMeshModel", "placeAdvert", "(I)Z"⟩
abbrev b_M_place : ByteArray := prog_8_method_9_code
def y_M_place : MethodName := ⟨"SlottedMeshModel", "place", "(I)Z"⟩
abbrev b_M_placeAll : ByteArray := prog_8_method_10_code
def y_M_placeAll : MethodName := ⟨"SlottedMeshModel", "placeAll", "()Z"⟩
abbrev b_M_plan : ByteArray := prog_8_method_11_code
def y_M_plan : MethodName := ⟨"SlottedMeshModel", "plan", "()I"⟩
abbrev b_M_start : ByteArray := prog_8_method_12_code
def y_M_start : MethodName := ⟨"SlottedMeshModel", "start", "(I)Z"⟩
abbrev b_M_stop : ByteArray := prog_8_method_13_code
def y_M_stop : MethodName := ⟨"SlottedMeshModel", "stop", "(I)Z"⟩
abbrev b_M_drift : ByteArray := prog_8_method_14_code
def y_M_drift : MethodName := ⟨"SlottedMeshModel", "drift", "(II)Z"⟩
abbrev b_M_radio : ByteArray := prog_8_method_15_code
def y_M_radio : MethodName := ⟨"SlottedMeshModel", "radio", "(IJJ)Z"⟩
abbrev b_M_add : ByteArray := prog_8_method_16_code
def y_M_add : MethodName := ⟨"SlottedMeshModel", "add", "(IIII)V"⟩
abbrev b_M_leave : ByteArray := prog_8_method_17_code
def y_M_leave : MethodName := ⟨"SlottedMeshModel", "leave", "(I)V"⟩
abbrev b_M_sample : ByteArray := prog_8_method_18_code
def y_M_sample : MethodName := ⟨"SlottedMeshModel", "sample", "(II)I"⟩
abbrev b_M_control : ByteArray := prog_8_method_19_code
def y_M_control : MethodName := ⟨"SlottedMeshModel", "control", "(IIII)Z"⟩
abbrev b_M_within : ByteArray := prog_8_method_20_code
def y_M_within : MethodName := ⟨"SlottedMeshModel", "within", "(II)I"⟩
abbrev b_M_cache : ByteArray := prog_8_method_21_code
def y_M_cache : MethodName := ⟨"SlottedMeshModel", "cache", "(III)V"⟩
abbrev b_M_bit : ByteArray := prog_8_method_22_code
def y_M_bit : MethodName := ⟨"SlottedMeshModel", "bit", "(JI)Z"⟩
abbrev b_M_close : ByteArray := prog_8_method_23_code
def y_M_close : MethodName := ⟨"SlottedMeshModel", "close", "(II)Z"⟩
abbrev b_M_advert : ByteArray := prog_8_method_24_code
def y_M_advert : MethodName := ⟨"SlottedMeshModel", "advert", "(I)V"⟩
abbrev b_M_hears : ByteArray := prog_8_method_25_code
def y_M_hears : MethodName := ⟨"SlottedMeshModel", "hears", "(III)Z"⟩
abbrev b_M_up : ByteArray := prog_8_method_26_code
def y_M_up : MethodName := ⟨"SlottedMeshModel", "up", "(III)V"⟩
abbrev b_M_below : ByteArray := prog_8_method_27_code
def y_M_below : MethodName := ⟨"SlottedMeshModel", "below", "(II)Z"⟩
abbrev b_M_down : ByteArray := prog_8_method_28_code
def y_M_down : MethodName := ⟨"SlottedMeshModel", "down", "(III)V"⟩
abbrev b_M_slot : ByteArray := prog_8_method_29_code
def y_M_slot : MethodName := ⟨"SlottedMeshModel", "slot", "()V"⟩
abbrev b_M_run : ByteArray := prog_8_method_30_code
def y_M_run : MethodName := ⟨"SlottedMeshModel", "run", "(I)I"⟩
abbrev b_M_rank : ByteArray := prog_8_method_31_code
def y_M_rank : MethodName := ⟨"SlottedMeshModel", "rank", "(I)I"⟩
abbrev b_M_parent : ByteArray := prog_8_method_32_code
def y_M_parent : MethodName := ⟨"SlottedMeshModel", "parent", "(II)I"⟩
abbrev b_M_cell : ByteArray := prog_8_method_33_code
def y_M_cell : MethodName := ⟨"SlottedMeshModel", "cell", "(II)I"⟩
abbrev b_M_current : ByteArray := prog_8_method_34_code
def y_M_current : MethodName := ⟨"SlottedMeshModel", "current", "(I)Z"⟩
abbrev b_M_offset : ByteArray := prog_8_method_35_code
def y_M_offset : MethodName := ⟨"SlottedMeshModel", "offset", "(I)I"⟩
abbrev b_M_count : ByteArray := prog_8_method_36_code
def y_M_count : MethodName := ⟨"SlottedMeshModel", "count", "(II)I"⟩
abbrev b_M_cached : ByteArray := prog_8_method_37_code
def y_M_cached : MethodName := ⟨"SlottedMeshModel", "cached", "(II)I"⟩
abbrev b_M_latest : ByteArray := prog_8_method_38_code
def y_M_latest : MethodName := ⟨"SlottedMeshModel", "latest", "(I)I"⟩
abbrev b_M_actuator : ByteArray := prog_8_method_39_code
def y_M_actuator : MethodName := ⟨"SlottedMeshModel", "actuator", "(I)I"⟩
abbrev b_M_sent : ByteArray := prog_8_method_40_code
def y_M_sent : MethodName := ⟨"SlottedMeshModel", "sent", "()I"⟩
abbrev b_H_init : ByteArray := prog_2_method_1_code
def y_H_init : MethodName := ⟨"SlottedMesh$Channel", "<init>", "()V"⟩
abbrev b_H_carriesFrame : ByteArray := prog_2_method_2_code
def y_H_carriesFrame : MethodName := ⟨"SlottedMesh$Channel", "carriesFrame", "(I)Z"⟩
abbrev b_H_carriesConfirmation : ByteArray := prog_2_method_3_code
def y_H_carriesConfirmation : MethodName := ⟨"SlottedMesh$Channel", "carriesConfirmation", "(I)Z"⟩
abbrev b_H_bitAt : ByteArray := prog_2_method_4_code
def y_H_bitAt : MethodName := ⟨"SlottedMesh$Channel", "bitAt", "(JI)Z"⟩
abbrev b_F_init : ByteArray := prog_3_method_1_code
def y_F_init : MethodName := ⟨"SlottedMesh$FrameRow", "<init>", "()V"⟩
abbrev b_F_append : ByteArray := prog_3_method_2_code
def y_F_append : MethodName := ⟨"SlottedMesh$FrameRow", "append", "(III)Z"⟩
abbrev b_F_dropFirst : ByteArray := prog_3_method_3_code
def y_F_dropFirst : MethodName := ⟨"SlottedMesh$FrameRow", "dropFirst", "()V"⟩
abbrev b_F_clear : ByteArray := prog_3_method_4_code
def y_F_clear : MethodName := ⟨"SlottedMesh$FrameRow", "clear", "()V"⟩
abbrev b_O_init : ByteArray := prog_4_method_1_code
def y_O_init : MethodName := ⟨"SlottedMesh$Loop", "<init>", "()V"⟩
abbrev b_O_keep : ByteArray := prog_4_method_2_code
def y_O_keep : MethodName := ⟨"SlottedMesh$Loop", "keep", "(I)V"⟩
abbrev b_O_nextCommand : ByteArray := prog_4_method_3_code
def y_O_nextCommand : MethodName := ⟨"SlottedMesh$Loop", "nextCommand", "(I)I"⟩
abbrev b_N_init : ByteArray := prog_5_method_1_code
def y_N_init : MethodName := ⟨"SlottedMesh$Node", "<init>", "(II)V"⟩
abbrev b_N_enterPlan : ByteArray := prog_5_method_2_code
def y_N_enterPlan : MethodName := ⟨"SlottedMesh$Node", "enterPlan", "()V"⟩
abbrev b_N_switchOff : ByteArray := prog_5_method_3_code
def y_N_switchOff : MethodName := ⟨"SlottedMesh$Node", "switchOff", "()V"⟩
abbrev b_N_clockIsCloseTo : ByteArray := prog_5_method_4_code
def y_N_clockIsCloseTo : MethodName := ⟨"SlottedMesh$Node", "clockIsCloseTo", "(LSlottedMesh$Node;)Z"⟩
abbrev b_N_failUp : ByteArray := prog_5_method_5_code
def y_N_failUp : MethodName := ⟨"SlottedMesh$Node", "failUp", "()V"⟩
abbrev b_N_failDown : ByteArray := prog_5_method_6_code
def y_N_failDown : MethodName := ⟨"SlottedMesh$Node", "failDown", "()V"⟩
abbrev b_P_init : ByteArray := prog_6_method_1_code
def y_P_init : MethodName := ⟨"SlottedMesh$Plan", "<init>", "(III)V"⟩
abbrev b_P_kindOf : ByteArray := prog_6_method_2_code
def y_P_kindOf : MethodName := ⟨"SlottedMesh$Plan", "kindOf", "(I)I"⟩
abbrev b_P_fromOf : ByteArray := prog_6_method_3_code
def y_P_fromOf : MethodName := ⟨"SlottedMesh$Plan", "fromOf", "(I)I"⟩
abbrev b_P_toOf : ByteArray := prog_6_method_4_code
def y_P_toOf : MethodName := ⟨"SlottedMesh$Plan", "toOf", "(I)I"⟩
abbrev b_P_codeAt : ByteArray := prog_6_method_5_code
def y_P_codeAt : MethodName := ⟨"SlottedMesh$Plan", "codeAt", "(II)I"⟩
abbrev b_P_make : ByteArray := prog_6_method_6_code
def y_P_make : MethodName := ⟨"SlottedMesh$Plan", "make", "([LSlottedMesh$Node;)Z"⟩
abbrev b_P_leadsUp : ByteArray := prog_6_method_7_code
def y_P_leadsUp : MethodName := ⟨"SlottedMesh$Plan", "leadsUp", "(II)Z"⟩
abbrev b_P_findRanks : ByteArray := prog_6_method_8_code
def y_P_findRanks : MethodName := ⟨"SlottedMesh$Plan", "findRanks", "([LSlottedMesh$Node;)Z"⟩
abbrev b_P_findParents : ByteArray := prog_6_method_9_code
def y_P_findParents : MethodName := ⟨"SlottedMesh$Plan", "findParents", "([LSlottedMesh$Node;)V"⟩
abbrev b_P_nextNearOfRank : ByteArray := prog_6_method_10_code
def y_P_nextNearOfRank : MethodName := ⟨"SlottedMesh$Plan", "nextNearOfRank", "(LSlottedMesh$Node;II)I"⟩
abbrev b_P_placeAdverts : ByteArray := prog_6_method_11_code
def y_P_placeAdverts : MethodName := ⟨"SlottedMesh$Plan", "placeAdverts", "()Z"⟩
abbrev b_P_placeAdvert : ByteArray := prog_6_method_12_code
def y_P_placeAdvert : MethodName := ⟨"SlottedMesh$Plan", "placeAdvert", "(I)Z"⟩
abbrev b_P_fillSlot : ByteArray := prog_6_method_13_code
def y_P_fillSlot : MethodName := ⟨"SlottedMesh$Plan", "fillSlot", "(II)V"⟩
abbrev b_P_placeLinks : ByteArray := prog_6_method_14_code
def y_P_placeLinks : MethodName := ⟨"SlottedMesh$Plan", "placeLinks", "()Z"⟩
abbrev b_P_placeLink : ByteArray := prog_6_method_15_code
def y_P_placeLink : MethodName := ⟨"SlottedMesh$Plan", "placeLink", "(III)Z"⟩
abbrev b_P_freeChannel : ByteArray := prog_6_method_16_code
def y_P_freeChannel : MethodName := ⟨"SlottedMesh$Plan", "freeChannel", "(III)I"⟩
abbrev b_P_touches : ByteArray := prog_6_method_17_code
def y_P_touches : MethodName := ⟨"SlottedMesh$Plan", "touches", "(II)Z"⟩
abbrev b_L_cell : ByteArray := method_2_code
def y_L_cell : MethodName := ⟨"SlottedMeshLaw", "cell", "([II)I"⟩
abbrev b_L_law : ByteArray := code
def y_L_law : MethodName := ⟨"SlottedMeshLaw", "law", "([I)Z"⟩
abbrev b_B_init : ByteArray := object_method_1_code
def y_B_init : MethodName := ⟨"java/lang/Object", "<init>", "()V"⟩
abbrev b_T_abs : ByteArray := prog_9_method_59_code
def y_T_abs : MethodName := ⟨"java/lang/Math", "abs", "(I)I"⟩
abbrev b_T_floorDiv : ByteArray := prog_9_method_47_code
def y_T_floorDiv : MethodName := ⟨"java/lang/Math", "floorDiv", "(II)I"⟩
abbrev b_T_floorMod : ByteArray := prog_9_method_50_code
def y_T_floorMod : MethodName := ⟨"java/lang/Math", "floorMod", "(II)I"⟩
abbrev b_T_max : ByteArray := prog_9_method_65_code
def y_T_max : MethodName := ⟨"java/lang/Math", "max", "(II)I"⟩
abbrev b_T_min : ByteArray := prog_9_method_69_code
def y_T_min : MethodName := ⟨"java/lang/Math", "min", "(II)I"⟩
abbrev b_A_fill : ByteArray := prog_10_method_103_code
def y_A_fill : MethodName := ⟨"java/util/Arrays", "fill", "([II)V"⟩
end
section
/-! A heap by kinds: cell (k, i) is the i-th object or array of kind k; its places hold naturals, ints, longs or references that the kind's table names. -/
abbrev UU : Type := (Nat → Nat → Nat → Nat) × (Nat → Nat → Nat → Int32) × (Nat → Nat → Nat → Int64) × (Nat → Nat)
abbrev KS : Type := (Nat × List (Nat × Nat)) ⊕ (Nat × FieldType × Nat)
abbrev PV : Type := (va_G × List vw_C × List (ClassId × FieldType)) × ((Nat → KS) × (Nat → Nat → Nat) × (Nat → ClassId) × (Nat → Nat)) × ((Nat → Nat) × List Nat)
abbrev pv_D (V : PV) : va_G := V.1.1
abbrev pv_cl (V : PV) : List vw_C := V.1.2.1
abbrev pv_tys (V : PV) : List (ClassId × FieldType) := V.1.2.2
abbrev pv_sh (V : PV) : Nat → KS := V.2.1.1
abbrev pv_ad (V : PV) : Nat → Nat → Nat := V.2.1.2.1
abbrev pv_ca (V : PV) : Nat → ClassId := V.2.1.2.2.1
abbrev pv_ln (V : PV) : Nat → Nat := V.2.1.2.2.2
abbrev pv_bd (V : PV) : Nat → Nat := V.2.2.1
abbrev pv_L (V : PV) : List Nat := V.2.2.2
abbrev pv_A (V : PV) : Nat → Prop := fun q => q ∈ pv_L V
/-- a field's value: 0 a natural, 1 an int, 2 a long, 3 the cell of kind t.2 with the same number, 4 and 5 the cells 2i and 2i+1, 6 one that moves, 7 the cell's own number, 8 the number t.2 -/
def pv_f (V : PV) (u : UU) (k i j : Nat) (t : Nat × Nat) : Value := match t.1 with
  | 0 => .int (nI (u.1 k i j))
  | 1 => .int (u.2.1 k i j)
  | 2 => .long (u.2.2.1 k i j)
  | 3 => .ref (pv_ad V t.2 i)
  | 4 => .ref (pv_ad V t.2 (2 * i))
  | 5 => .ref (pv_ad V t.2 (2 * i + 1))
  | 6 => .ref (pv_ad V t.2 (u.2.2.2 j))
  | 7 => .int (nI i)
  | _ => .int (nI t.2)
def pv_o (V : PV) (u : UU) (k i : Nat) (ts : List (Nat × Nat)) : List Value := (List.range ts.length).map fun j => pv_f V u k i j (ts.getD j (0, 0))
def pv_c (V : PV) (u : UU) (k i : Nat) : va_E := match pv_sh V k with
  | .inl (ci, ts) => .inr (ci, pv_o V u k i ts)
  | .inr (0, _, _) => .inl (pv_ca V k, pv_ln V k, .inl fun j => nI (u.1 k i j))
  | .inr (1, _, _) => .inl (pv_ca V k, pv_ln V k, .inl fun j => u.2.1 k i j)
  | .inr (2, _, _) => .inl (pv_ca V k, pv_ln V k, .inr (.inl fun j => u.2.2.1 k i j))
  | .inr (_, _, k2) => .inl (pv_ca V k, pv_ln V k, .inr (.inr (.inr (.inr fun j => some (pv_ad V k2 j)))))
theorem pv_c_o {V : PV} {k ci : Nat} {ts : List (Nat × Nat)} (h : pv_sh V k = .inl (ci, ts)) (u : UU) (i : Nat) : pv_c V u k i = .inr (ci, pv_o V u k i ts) := by
  unfold pv_c; rw [h] <;> rfl
theorem pv_c_0 {V : PV} {k k2 : Nat} {ty : FieldType} (h : pv_sh V k = .inr (0, ty, k2)) (u : UU) (i : Nat) : pv_c V u k i = .inl (pv_ca V k, pv_ln V k, .inl fun j => nI (u.1 k i j)) := by
  unfold pv_c; rw [h] <;> rfl
theorem pv_c_1 {V : PV} {k k2 : Nat} {ty : FieldType} (h : pv_sh V k = .inr (1, ty, k2)) (u : UU) (i : Nat) : pv_c V u k i = .inl (pv_ca V k, pv_ln V k, .inl fun j => u.2.1 k i j) := by
  unfold pv_c; rw [h] <;> rfl
theorem pv_c_2 {V : PV} {k k2 : Nat} {ty : FieldType} (h : pv_sh V k = .inr (2, ty, k2)) (u : UU) (i : Nat) : pv_c V u k i = .inl (pv_ca V k, pv_ln V k, .inr (.inl fun j => u.2.2.1 k i j)) := by
  unfold pv_c; rw [h] <;> rfl
theorem pv_c_3 {V : PV} {k k2 : Nat} {ty : FieldType} (h : pv_sh V k = .inr (3, ty, k2)) (u : UU) (i : Nat) : pv_c V u k i = .inl (pv_ca V k, pv_ln V k, .inr (.inr (.inr (.inr fun j => some (pv_ad V k2 j))))) := by
  unfold pv_c; rw [h] <;> rfl
/-- the new states -/
def un (u : UU) (k i j : Nat) (v : Nat) : UU := (fun a b c => if a = k ∧ b = i ∧ c = j then v else u.1 a b c, u.2)
def ui (u : UU) (k i j : Nat) (v : Int32) : UU := (u.1, (fun a b c => if a = k ∧ b = i ∧ c = j then v else u.2.1 a b c), u.2.2)
def ul (u : UU) (k i j : Nat) (v : Int64) : UU := (u.1, u.2.1, (fun a b c => if a = k ∧ b = i ∧ c = j then v else u.2.2.1 a b c), u.2.2.2)
def ur (u : UU) (j v : Nat) : UU := (u.1, u.2.1, u.2.2.1, fun a => if a = j then v else u.2.2.2 a)
theorem un_1 (u : UU) (k i j v a b c : Nat) : (un u k i j v).1 a b c = if a = k ∧ b = i ∧ c = j then v else u.1 a b c := rfl
theorem un_2 (u : UU) (k i j v : Nat) : (un u k i j v).2 = u.2 := rfl
theorem ui_1 (u : UU) (k i j : Nat) (v : Int32) : (ui u k i j v).1 = u.1 := rfl
theorem ui_2 (u : UU) (k i j : Nat) (v : Int32) (a b c : Nat) : (ui u k i j v).2.1 a b c = if a = k ∧ b = i ∧ c = j then v else u.2.1 a b c := rfl
theorem ui_3 (u : UU) (k i j : Nat) (v : Int32) : (ui u k i j v).2.2 = u.2.2 := rfl
theorem ul_1 (u : UU) (k i j : Nat) (v : Int64) : (ul u k i j v).1 = u.1 := rfl
theorem ul_2 (u : UU) (k i j : Nat) (v : Int64) : (ul u k i j v).2.1 = u.2.1 := rfl
theorem ul_3 (u : UU) (k i j : Nat) (v : Int64) (a b c : Nat) : (ul u k i j v).2.2.1 a b c = if a = k ∧ b = i ∧ c = j then v else u.2.2.1 a b c := rfl
theorem ul_4 (u : UU) (k i j : Nat) (v : Int64) : (ul u k i j v).2.2.2 = u.2.2.2 := rfl
theorem ur_1 (u : UU) (j v : Nat) : (ur u j v).1 = u.1 := rfl
theorem ur_2 (u : UU) (j v : Nat) : (ur u j v).2.1 = u.2.1 := rfl
theorem ur_3 (u : UU) (j v : Nat) : (ur u j v).2.2.1 = u.2.2.1 := rfl
theorem ur_4 (u : UU) (j v a : Nat) : (ur u j v).2.2.2 a = if a = j then v else u.2.2.2 a := rfl
theorem pv_cong {V : PV} {u w : UU} {k i : Nat} (h1 : ∀ j, w.1 k i j = u.1 k i j) (h2 : ∀ j, w.2.1 k i j = u.2.1 k i j) (h3 : ∀ j, w.2.2.1 k i j = u.2.2.1 k i j) (h4 : w.2.2.2 = u.2.2.2) : pv_c V w k i = pv_c V u k i := by
  have ho : ∀ ts, pv_o V w k i ts = pv_o V u k i ts := by
    intro ts
    unfold pv_o
    apply List.map_congr_left
    intro j _
    unfold pv_f
    rw [h1, h2, h3, h4]
  unfold pv_c
  split
  · rw [ho]
  · simp only [h1]
  · simp only [h2]
  · simp only [h3]
  · rfl
theorem pv_un_ne {V : PV} {u : UU} {k i j v k2 i2 : Nat} (h : ¬ (k2 = k ∧ i2 = i)) : pv_c V (un u k i j v) k2 i2 = pv_c V u k2 i2 :=
  pv_cong (fun a => by rw [un_1, if_neg (fun q => h ⟨q.1, q.2.1⟩)]) (fun _ => rfl) (fun _ => rfl) rfl
theorem pv_ui_ne {V : PV} {u : UU} {k i j k2 i2 : Nat} {v : Int32} (h : ¬ (k2 = k ∧ i2 = i)) : pv_c V (ui u k i j v) k2 i2 = pv_c V u k2 i2 :=
  pv_cong (fun _ => rfl) (fun a => by rw [ui_2, if_neg (fun q => h ⟨q.1, q.2.1⟩)]) (fun _ => rfl) rfl
theorem pv_ul_ne {V : PV} {u : UU} {k i j k2 i2 : Nat} {v : Int64} (h : ¬ (k2 = k ∧ i2 = i)) : pv_c V (ul u k i j v) k2 i2 = pv_c V u k2 i2 :=
  pv_cong (fun _ => rfl) (fun _ => rfl) (fun a => by rw [ul_3, if_neg (fun q => h ⟨q.1, q.2.1⟩)]) rfl
theorem pv_set {α : Type} (f g : Nat → α) (n j : Nat) (v : α) (hv : g j = v) (ho : ∀ a, a ≠ j → g a = f a) : ((List.range n).map f).set j v = (List.range n).map g := by
  apply List.ext_getElem?
  intro a
  by_cases h : a = j
  · subst h
    by_cases hn : a < n
    · rw [List.getElem?_set_self (by simpa using hn)]
      simp [hn, hv]
    · rw [List.getElem?_eq_none (by simp; omega), List.getElem?_eq_none (by simp; omega)]
  · rw [List.getElem?_set_ne (Ne.symm h)]
    simp only [List.getElem?_map]
    by_cases hn : a < n
    · simp [hn, ho a h]
    · simp [hn]
theorem pv_o_at {V : PV} {u : UU} {k i j : Nat} {ts : List (Nat × Nat)} {t : Nat × Nat} (h : ts[j]? = some t) : (pv_o V u k i ts)[j]? = some (pv_f V u k i j t) := by
  have hl := (List.getElem?_eq_some_iff.mp h).1
  unfold pv_o
  have h2 := (List.getElem?_eq_some_iff.mp h).2
  simp [hl, List.getD, h2]
theorem pv_o_len {V : PV} {u : UU} {k i : Nat} {ts : List (Nat × Nat)} : (pv_o V u k i ts).length = ts.length := by
  simp [pv_o]
/-- what holds of a heap in state u -/
def pv_H (V : PV) (u : UU) (H : Heap) : Prop := ∃ σ : Nat → va_E, (∀ k i, i < pv_bd V k → σ (pv_ad V k i) = pv_c V u k i) ∧ va_P (pv_D V) (pv_cl V) (va_pl (pv_L V) σ) H ∧ va_D (pv_A V) (va_pl (pv_L V) σ)
/-- numbers and addresses go together -/
def pv_ok (V : PV) : Prop := (∀ k i k2 i2, i < pv_bd V k → i2 < pv_bd V k2 → pv_ad V k i = pv_ad V k2 i2 → k2 = k ∧ i2 = i) ∧ (∀ k i, i < pv_bd V k → pv_ad V k i ∈ pv_L V) ∧
  (∀ k c ty k2, pv_sh V k = .inr (c, ty, k2) → ∃ t : Nat, (pv_tys V)[t]? = some (pv_ca V k, ty)) ∧ (∀ k, pv_ln V k < 2 ^ 31)
theorem pv_new {V : PV} {u w : UU} {σ : Nat → va_E} {k i : Nat} {e : va_E} (hV : pv_ok V) (hi : i < pv_bd V k) (hσ : ∀ k i, i < pv_bd V k → σ (pv_ad V k i) = pv_c V u k i) (he : e = pv_c V w k i) (ho : ∀ k2 i2, ¬ (k2 = k ∧ i2 = i) → pv_c V w k2 i2 = pv_c V u k2 i2) :
    ∀ k2 i2, i2 < pv_bd V k2 → va_up σ (pv_ad V k i) e (pv_ad V k2 i2) = pv_c V w k2 i2 := by
  intro k2 i2 h2
  by_cases h : pv_ad V k2 i2 = pv_ad V k i
  · obtain ⟨rfl, rfl⟩ := hV.1 k i k2 i2 hi h2 h.symm
    rw [va_up_self, he]
  · rw [va_up_ne _ _ h, hσ k2 i2 h2, ho k2 i2 (fun q => h (by rw [q.1, q.2]))]
/-- the tables' words on classes, arrays, and the one call between nest mates -/
def pv_K (V : PV) (T : State) : Prop := va_K (pv_D V) (pv_cl V) (pv_tys V) T ∧ va_Nw (Cond.methodLinkNest "SlottedMesh$Loop" 29 ⟨"SlottedMesh", "nearest", "(III)I"⟩ "SlottedMesh") T
theorem pv_K.moved {V : PV} {s t : State} (hW : s.WarmedH t.vm) (h : pv_K V s) : pv_K V t := ⟨va_K.moved hW.alike h.1, va_Nw.warmM hW h.2⟩
/-! the judgement -/
abbrev OX := (Program × Launch × Env × Room) × (State × MethodId × Array Value × List Frame) × (Method × Code)
def ow_Q (V : PV) (r : Option Value) (u' : UU) : Array Value → State → Outcome → State → Prop := fun _ st oc t => (oc = .returned r ∧ pv_H V u' t.heap ∧ pv_K V t) ∧ va_F (pv_A V) st t
def ow (X : OX) (V : PV) (r : Option Value) (u' u : UU) (loc : List (Nat × Value)) (pc : Nat) (st : List Value) : Prop :=
  ∀ (H : Heap) (locs : List Loc) (ls : Array Slot), lv_has ls X.2.2.2.maxLocals loc → pv_H V u H → va_S (pv_A V) X.2.1.1.heap H locs →
    W X.1.1 X.1.2.1 X.1.2.2.1 X.1.2.2.2 X.2.1.1 X.2.1.2.1 X.2.1.2.2.1 X.2.1.2.2.2 X.2.2.1 X.2.2.2 H locs 0 0 (MQ X.2.1.2.2.2 (ow_Q V r u') X.2.1.2.2.1 X.2.1.1 0 0 (pv_A V)) (F0 X.2.1.2.1 pc ls st)
def ox (X : OX) (V : PV) (rm : Room) (cc : ByteArray) (nL : Nat) (own : String) (Ts : List Cond) (ret : Option FieldType) : Prop :=
  CallFix X.1.1 X.2.1.2.1 X.2.2.2 cc nL X.2.1.1 X.2.1.2.2.1 Ts own ∧ pv_K V X.2.1.1 ∧ pv_ok V ∧ X.2.2.1.locks = false ∧ X.2.2.1.sig.returnType = ret ∧ X.1.2.2.2 = rm
/-- a method's contract: from state u, with the arguments as, it returns r, and the state is u' -/
def Ct (l : Launch) (V : PV) (y : MethodName) (ws : List Cond) (rm : Room) (as : List Value) (u : UU) (r : Option Value) (u' : UU) : Prop :=
  Met l y ws rm (va_Pc as fun T => pv_H V u T.heap ∧ pv_K V T) (ow_Q V r u') 0 0 (pv_A V)
theorem ct_of {l : Launch} {V : PV} {y : MethodName} {ws ws' : List Cond} {rm : Room} {as : List Value} {u : UU} {r : Option Value} {u' : UU} {cc : ByteArray} {nL : Nat} {ret : Option FieldType} (hV : pv_ok V) (hy : plainName y.cls = true) (hw : ws = Cond.code y cc nL ret :: ws') (hn : (lg_sl as).length ≤ nL)
    (walk : ∀ X : OX, ox X V rm cc nL y.cls ws ret → ow X V r u' u (lv_args 0 as) 0 []) : Ct l V y ws rm as u r u' := by
  refine Met.ofW (cc := cc) (maxL := nL) (ret := ret) hy hw ?_
  intro p e s m args below meth c s₁ B hml hv
  obtain ⟨rfl, hH, hK⟩ := hv
  have hl := lv_entry as (n := nL) hn
  rw [lg_entry_eq]
  have hown : s.vm.findClass y.cls = some m.cls := findClass_of_methodNamed B.named
  exact walk ((p, l, e, rm), (s, m, as.toArray, below), (meth, c)) ⟨⟨B.exec, B.bytes, hml, hown, atoms_spec (ws := ws) B.pre⟩, hK, hV, B.notSynchronized, B.returns, rfl⟩ s.heap [] _ (by rw [hml]; exact hl) hH va_S.rf
section OW
variable {X : OX} {V : PV} {rm : Room} {cc : ByteArray} {nL : Nat} {own : String} {Ts : List Cond} {ret : Option FieldType} {r : Option Value} {u' u : UU} {loc : List (Nat × Value)} {pc : Nat} {st : List Value}
/-- a local, by its number -/
def lc_at (l : List (Nat × Value)) (i : Nat) : Option Value := (l.find? (fun q => q.1 == i)).map (·.2)
theorem lc_has {ls : Array Slot} {n : Nat} {l : List (Nat × Value)} {i : Nat} {v : Value} (h : lv_has ls n l) (hi : lc_at l i = some v) : ls[i]? = some (.val v) := by
  unfold lc_at at hi
  cases hf : l.find? (fun q => q.1 == i) with
  | none => rw [hf] at hi; cases hi
  | some q =>
    rw [hf] at hi
    have h1 := List.find?_some hf
    have h2 := List.mem_of_find?_eq_some hf
    have h3 := h.2.2 q h2
    have e1 : q.1 = i := by simpa using h1
    have e2 : q.2 = v := by simpa using hi
    rw [e1, e2] at h3
    exact h3
/-- the locals behind a store: each place keeps its row -/
def lc_set : List (Nat × Value) → Nat → Value → List (Nat × Value)
  | [], i, v => [(i, v)]
  | q :: l, i, v => if q.1 = i then (i, v) :: l.filter (fun q => !(q.1 == i)) else q :: lc_set l i v
theorem lc_set_mem {l : List (Nat × Value)} {i : Nat} {v : Value} {q : Nat × Value} (h : q ∈ lc_set l i v) : q = (i, v) ∨ (q ∈ l ∧ q.1 ≠ i) := by
  induction l with
  | nil => simp [lc_set] at h; exact Or.inl h
  | cons a l ih =>
    unfold lc_set at h
    split at h
    next e =>
      rcases List.mem_cons.mp h with h | h
      · exact Or.inl h
      · obtain ⟨h1, h2⟩ := List.mem_filter.mp h
        exact Or.inr ⟨List.mem_cons_of_mem _ h1, by simpa using h2⟩
    next e =>
      rcases List.mem_cons.mp h with h | h
      · subst h; exact Or.inr ⟨List.mem_cons_self, e⟩
      · rcases ih h with h | h
        · exact Or.inl h
        · exact Or.inr ⟨List.mem_cons_of_mem _ h.1, h.2⟩
/-- no long lies just ahead of place i -/
def lc_free (l : List (Nat × Value)) (i : Nat) : Bool := l.all fun q => !(q.1 + 1 == i && q.2.category == 2)
theorem lc_store {ls : Array Slot} {n : Nat} {l : List (Nat × Value)} {i : Nat} {v : Value} (hf : lc_free l i = true) (h : lv_has ls n ((i, v) :: l.filter (fun q => !(q.1 == i) && !(q.1 + 1 == i && q.2.category == 2)))) : lv_has ls n (lc_set l i v) := by
  refine ⟨h.1, h.2.1, fun q hq => ?_⟩
  rcases lc_set_mem hq with rfl | ⟨h1, h2⟩
  · exact h.2.2 _ List.mem_cons_self
  · refine h.2.2 _ (List.mem_cons_of_mem _ (List.mem_filter.mpr ⟨h1, ?_⟩))
    have h3 := List.all_eq_true.mp hf q h1
    rw [h3, Bool.and_true]
    simpa using h2
/-- fewer locals, or in another order -/
theorem ow_loc {l2 : List (Nat × Value)} (h : ∀ q ∈ l2, q ∈ loc) (k : ow X V r u' u l2 pc st) : ow X V r u' u loc pc st :=
  fun H locs ls hl hH hS => k H locs ls ⟨hl.1, hl.2.1, fun q hq => hl.2.2 q (h q hq)⟩ hH hS
theorem ow_st {st2 : List Value} (h : st = st2) (k : ow X V r u' u loc pc st2) : ow X V r u' u loc pc st := h ▸ k
theorem ow_u {u2 : UU} (h : u = u2) (k : ow X V r u' u2 loc pc st) : ow X V r u' u loc pc st := h ▸ k
theorem ow_val {x y : Int32} (h : x = y) (k : ow X V r u' u loc pc (.int y :: st)) : ow X V r u' u loc pc (.int x :: st) := h ▸ k
theorem ow_val2 {x y : Int32} {a : Value} (h : x = y) (k : ow X V r u' u loc pc (a :: .int y :: st)) : ow X V r u' u loc pc (a :: .int x :: st) := h ▸ k
/-! constants, locals, stack -/
theorem ow_iconst (hX : ox X V rm cc nL own Ts ret) {n : Int} {v : Int32} (hd : decode cc pc = .ok (.iconst n, 1)) (hv : Int32.ofInt n = v) (k : ow X V r u' u loc (pc + 1) (.int v :: st)) : ow X V r u' u loc pc st :=
  fun H locs ls hl hH hS => lv_iconst hX.1.1 hX.1.2.1 hd hv (k H locs ls hl hH hS)
theorem ow_bipush (hX : ox X V rm cc nL own Ts ret) {n : Int} {v : Int32} (hd : decode cc pc = .ok (.bipush n, 2)) (hv : (Int8.ofInt n).toInt32 = v) (k : ow X V r u' u loc (pc + 2) (.int v :: st)) : ow X V r u' u loc pc st :=
  fun H locs ls hl hH hS => lv_bipush hX.1.1 hX.1.2.1 hd hv (k H locs ls hl hH hS)
theorem ow_sipush (hX : ox X V rm cc nL own Ts ret) {n : Int} {v : Int32} (hd : decode cc pc = .ok (.sipush n, 3)) (hv : (Int16.ofInt n).toInt32 = v) (k : ow X V r u' u loc (pc + 3) (.int v :: st)) : ow X V r u' u loc pc st :=
  fun H locs ls hl hH hS => lv_sipush hX.1.1 hX.1.2.1 hd hv (k H locs ls hl hH hS)
theorem ow_lconst (hX : ox X V rm cc nL own Ts ret) {n : Fin 2} {v : Int64} (hd : decode cc pc = .ok (.lconst n, 1)) (hv : Int64.ofNat (n : Nat) = v) (k : ow X V r u' u loc (pc + 1) (.long v :: st)) : ow X V r u' u loc pc st :=
  fun H locs ls hl hH hS => lv_lconst hX.1.1 hX.1.2.1 hd hv (k H locs ls hl hH hS)
theorem ow_iload_n (hX : ox X V rm cc nL own Ts ret) {n : Fin 4} {x : Int32} (hd : decode cc pc = .ok (.iload_n n, 1)) (hl : lc_at loc n = some (.int x)) (k : ow X V r u' u loc (pc + 1) (.int x :: st)) : ow X V r u' u loc pc st :=
  fun H locs ls h hH hS => lv_iload_n hX.1.1 hX.1.2.1 hd rfl (lc_has h hl) (k H locs ls h hH hS)
theorem ow_iload (hX : ox X V rm cc nL own Ts ret) {n : Nat} {x : Int32} (hd : decode cc pc = .ok (.iload n, 2)) (hl : lc_at loc n = some (.int x)) (k : ow X V r u' u loc (pc + 2) (.int x :: st)) : ow X V r u' u loc pc st :=
  fun H locs ls h hH hS => lv_iload hX.1.1 hX.1.2.1 hd (lc_has h hl) (k H locs ls h hH hS)
theorem ow_lload_n (hX : ox X V rm cc nL own Ts ret) {n : Fin 4} {x : Int64} (hd : decode cc pc = .ok (.lload_n n, 1)) (hl : lc_at loc n = some (.long x)) (k : ow X V r u' u loc (pc + 1) (.long x :: st)) : ow X V r u' u loc pc st :=
  fun H locs ls h hH hS => lv_lload_n hX.1.1 hX.1.2.1 hd rfl (lc_has h hl) (k H locs ls h hH hS)
theorem ow_lload (hX : ox X V rm cc nL own Ts ret) {n : Nat} {x : Int64} (hd : decode cc pc = .ok (.lload n, 2)) (hl : lc_at loc n = some (.long x)) (k : ow X V r u' u loc (pc + 2) (.long x :: st)) : ow X V r u' u loc pc st :=
  fun H locs ls h hH hS => lv_lload hX.1.1 hX.1.2.1 hd (lc_has h hl) (k H locs ls h hH hS)
theorem ow_aload_n (hX : ox X V rm cc nL own Ts ret) {n : Fin 4} {x : Nat} (hd : decode cc pc = .ok (.aload_n n, 1)) (hl : lc_at loc n = some (.ref x)) (k : ow X V r u' u loc (pc + 1) (.ref x :: st)) : ow X V r u' u loc pc st :=
  fun H locs ls h hH hS => lv_aload_n hX.1.1 hX.1.2.1 hd rfl (lc_has h hl) (k H locs ls h hH hS)
theorem ow_aload (hX : ox X V rm cc nL own Ts ret) {n : Nat} {x : Nat} (hd : decode cc pc = .ok (.aload n, 2)) (hl : lc_at loc n = some (.ref x)) (k : ow X V r u' u loc (pc + 2) (.ref x :: st)) : ow X V r u' u loc pc st :=
  fun H locs ls h hH hS => lv_aload hX.1.1 hX.1.2.1 hd (lc_has h hl) (k H locs ls h hH hS)
theorem ow_istore_n (hX : ox X V rm cc nL own Ts ret) {n : Fin 4} {x : Int32} {l2 : List (Nat × Value)} (hd : decode cc pc = .ok (.istore_n n, 1)) (hn : (n : Nat) < nL) (hf : lc_free loc n = true) (hl : lc_set loc n (.int x) = l2) (k : ow X V r u' u l2 (pc + 1) st) : ow X V r u' u loc pc (.int x :: st) :=
  fun H locs ls h hH hS => lv_istore_n hX.1.1 hX.1.2.1 hd rfl h (by rw [hX.1.2.2.1]; exact hn) rfl (fun ls2 h2 => k H locs ls2 (hl ▸ lc_store hf h2) hH hS)
theorem ow_istore (hX : ox X V rm cc nL own Ts ret) {n : Nat} {x : Int32} {l2 : List (Nat × Value)} (hd : decode cc pc = .ok (.istore n, 2)) (hn : n < nL) (hf : lc_free loc n = true) (hl : lc_set loc n (.int x) = l2) (k : ow X V r u' u l2 (pc + 2) st) : ow X V r u' u loc pc (.int x :: st) :=
  fun H locs ls h hH hS => lv_istore hX.1.1 hX.1.2.1 hd h (by rw [hX.1.2.2.1]; exact hn) rfl (fun ls2 h2 => k H locs ls2 (hl ▸ lc_store hf h2) hH hS)
theorem ow_astore_n (hX : ox X V rm cc nL own Ts ret) {n : Fin 4} {x : Nat} {l2 : List (Nat × Value)} (hd : decode cc pc = .ok (.astore_n n, 1)) (hn : (n : Nat) < nL) (hf : lc_free loc n = true) (hl : lc_set loc n (.ref x) = l2) (k : ow X V r u' u l2 (pc + 1) st) : ow X V r u' u loc pc (.ref x :: st) :=
  fun H locs ls h hH hS => lv_astore_n hX.1.1 hX.1.2.1 hd rfl h (by rw [hX.1.2.2.1]; exact hn) rfl (fun ls2 h2 => k H locs ls2 (hl ▸ lc_store hf h2) hH hS)
theorem ow_astore (hX : ox X V rm cc nL own Ts ret) {n : Nat} {x : Nat} {l2 : List (Nat × Value)} (hd : decode cc pc = .ok (.astore n, 2)) (hn : n < nL) (hf : lc_free loc n = true) (hl : lc_set loc n (.ref x) = l2) (k : ow X V r u' u l2 (pc + 2) st) : ow X V r u' u loc pc (.ref x :: st) :=
  fun H locs ls h hH hS => lv_astore hX.1.1 hX.1.2.1 hd h (by rw [hX.1.2.2.1]; exact hn) rfl (fun ls2 h2 => k H locs ls2 (hl ▸ lc_store hf h2) hH hS)
theorem ow_iinc (hX : ox X V rm cc nL own Ts ret) {n : Nat} {d : Int} {x v : Int32} {l2 : List (Nat × Value)} (hd : decode cc pc = .ok (.iinc n d, 3)) (hx : lc_at loc n = some (.int x)) (hv : x + Int32.ofInt d = v) (hn : n < nL) (hf : lc_free loc n = true) (hl : lc_set loc n (.int v) = l2) (k : ow X V r u' u l2 (pc + 3) st) : ow X V r u' u loc pc st := by
  intro H locs ls h hH hS
  have hx2 : lv_has ls X.2.2.2.maxLocals ((n, .int x) :: loc) := ⟨h.1, h.2.1, fun q hq => by
    rcases List.mem_cons.mp hq with rfl | hq
    · exact lc_has h hx
    · exact h.2.2 q hq⟩
  refine lv_iinc (k := 0) hX.1.1 hX.1.2.1 hd hx2 rfl hv (by rw [hX.1.2.2.1]; exact hn) rfl (fun ls2 h2 => k H locs ls2 (hl ▸ lc_store hf ?_) hH hS)
  refine ⟨h2.1, h2.2.1, fun q hq => h2.2.2 q ?_⟩
  rcases List.mem_cons.mp hq with rfl | hq
  · exact List.mem_cons_self
  · exact List.mem_cons_of_mem _ (List.mem_filter.mpr ⟨List.mem_cons_of_mem _ (List.mem_filter.mp hq).1, (List.mem_filter.mp hq).2⟩)
theorem ow_dup (hX : ox X V rm cc nL own Ts ret) {a : Value} (hd : decode cc pc = .ok (.dup, 1)) (ha : a.category = 1) (k : ow X V r u' u loc (pc + 1) (a :: a :: st)) : ow X V r u' u loc pc (a :: st) :=
  fun H locs ls h hH hS => lv_dup hX.1.1 hX.1.2.1 hd ha (k H locs ls h hH hS)
theorem ow_pop (hX : ox X V rm cc nL own Ts ret) {a : Value} (hd : decode cc pc = .ok (.pop, 1)) (ha : a.category = 1) (k : ow X V r u' u loc (pc + 1) st) : ow X V r u' u loc pc (a :: st) :=
  fun H locs ls h hH hS => lv_pop hX.1.1 hX.1.2.1 hd ha (k H locs ls h hH hS)
theorem ow_dup_x1 (hX : ox X V rm cc nL own Ts ret) {a b : Value} (hd : decode cc pc = .ok (.dup_x1, 1)) (ha : a.category = 1) (hb : b.category = 1) (k : ow X V r u' u loc (pc + 1) (a :: b :: a :: st)) : ow X V r u' u loc pc (a :: b :: st) :=
  fun H locs ls h hH hS => lv_dup_x1 hX.1.1 hX.1.2.1 hd ha hb (k H locs ls h hH hS)
theorem ow_dup2 (hX : ox X V rm cc nL own Ts ret) {a b : Value} (hd : decode cc pc = .ok (.dup2, 1)) (ha : a.category = 1) (hb : b.category = 1) (k : ow X V r u' u loc (pc + 1) (a :: b :: a :: b :: st)) : ow X V r u' u loc pc (a :: b :: st) :=
  fun H locs ls h hH hS => lv_dup2_11 hX.1.1 hX.1.2.1 hd ha hb (k H locs ls h hH hS)
/-! arithmetic -/
theorem ow_iadd (hX : ox X V rm cc nL own Ts ret) {x y : Int32} (hd : decode cc pc = .ok (.iadd, 1)) (k : ow X V r u' u loc (pc + 1) (.int (x + y) :: st)) : ow X V r u' u loc pc (.int y :: .int x :: st) :=
  fun H locs ls h hH hS => lv_iadd hX.1.1 hX.1.2.1 hd (k H locs ls h hH hS)
theorem ow_addn (hX : ox X V rm cc nL own Ts ret) {a b : Nat} (hd : decode cc pc = .ok (.iadd, 1)) (k : ow X V r u' u loc (pc + 1) (.int (nI (a + b)) :: st)) : ow X V r u' u loc pc (.int (nI b) :: .int (nI a) :: st) :=
  ow_iadd hX hd (by rw [nI_add]; exact k)
theorem ow_isub (hX : ox X V rm cc nL own Ts ret) {x y : Int32} (hd : decode cc pc = .ok (.isub, 1)) (k : ow X V r u' u loc (pc + 1) (.int (x - y) :: st)) : ow X V r u' u loc pc (.int y :: .int x :: st) :=
  fun H locs ls h hH hS => lv_isub hX.1.1 hX.1.2.1 hd (k H locs ls h hH hS)
theorem ow_subn (hX : ox X V rm cc nL own Ts ret) {a b : Nat} (hd : decode cc pc = .ok (.isub, 1)) (hab : b ≤ a) (k : ow X V r u' u loc (pc + 1) (.int (nI (a - b)) :: st)) : ow X V r u' u loc pc (.int (nI b) :: .int (nI a) :: st) :=
  ow_isub hX hd (by rw [pk_sub hab]; exact k)
theorem ow_imul (hX : ox X V rm cc nL own Ts ret) {x y : Int32} (hd : decode cc pc = .ok (.imul, 1)) (k : ow X V r u' u loc (pc + 1) (.int (x * y) :: st)) : ow X V r u' u loc pc (.int y :: .int x :: st) :=
  fun H locs ls h hH hS => lv_imul hX.1.1 hX.1.2.1 hd (k H locs ls h hH hS)
theorem ow_muln (hX : ox X V rm cc nL own Ts ret) {a b : Nat} (hd : decode cc pc = .ok (.imul, 1)) (k : ow X V r u' u loc (pc + 1) (.int (nI (a * b)) :: st)) : ow X V r u' u loc pc (.int (nI b) :: .int (nI a) :: st) :=
  ow_imul hX hd (by rw [pk_mul]; exact k)
theorem ow_ineg (hX : ox X V rm cc nL own Ts ret) {x : Int32} (hd : decode cc pc = .ok (.ineg, 1)) (k : ow X V r u' u loc (pc + 1) (.int (-x) :: st)) : ow X V r u' u loc pc (.int x :: st) :=
  fun H locs ls h hH hS => lv_ineg hX.1.1 hX.1.2.1 hd (k H locs ls h hH hS)
theorem ow_iand (hX : ox X V rm cc nL own Ts ret) {x y : Int32} (hd : decode cc pc = .ok (.iand, 1)) (k : ow X V r u' u loc (pc + 1) (.int (x &&& y) :: st)) : ow X V r u' u loc pc (.int y :: .int x :: st) :=
  fun H locs ls h hH hS => lv_iand hX.1.1 hX.1.2.1 hd (k H locs ls h hH hS)
theorem ow_ixor (hX : ox X V rm cc nL own Ts ret) {x y : Int32} (hd : decode cc pc = .ok (.ixor, 1)) (k : ow X V r u' u loc (pc + 1) (.int (x ^^^ y) :: st)) : ow X V r u' u loc pc (.int y :: .int x :: st) :=
  fun H locs ls h hH hS => lv_ixor hX.1.1 hX.1.2.1 hd (k H locs ls h hH hS)
theorem ow_ishr (hX : ox X V rm cc nL own Ts ret) {x y : Int32} (hd : decode cc pc = .ok (.ishr, 1)) (k : ow X V r u' u loc (pc + 1) (.int (x >>> (y &&& 31)) :: st)) : ow X V r u' u loc pc (.int y :: .int x :: st) :=
  fun H locs ls h hH hS => lv_ishr hX.1.1 hX.1.2.1 hd (k H locs ls h hH hS)
theorem ow_idiv (hX : ox X V rm cc nL own Ts ret) {x y : Int32} (hd : decode cc pc = .ok (.idiv, 1)) (hy : ¬ y = 0) (k : ow X V r u' u loc (pc + 1) (.int (x / y) :: st)) : ow X V r u' u loc pc (.int y :: .int x :: st) :=
  fun H locs ls h hH hS => lv_idiv hX.1.1 hX.1.2.1 hd hy (k H locs ls h hH hS)
theorem ow_divn (hX : ox X V rm cc nL own Ts ret) {a b : Nat} (hd : decode cc pc = .ok (.idiv, 1)) (ha : a < 2 ^ 31) (h0 : 0 < b) (hb : b < 2 ^ 31) (k : ow X V r u' u loc (pc + 1) (.int (nI (a / b)) :: st)) : ow X V r u' u loc pc (.int (nI b) :: .int (nI a) :: st) :=
  ow_idiv hX hd (nI_ne0 h0 hb) (by rw [pk_div ha h0 hb]; exact k)
theorem ow_irem (hX : ox X V rm cc nL own Ts ret) {x y : Int32} (hd : decode cc pc = .ok (.irem, 1)) (hy : ¬ y = 0) (k : ow X V r u' u loc (pc + 1) (.int (x - x / y * y) :: st)) : ow X V r u' u loc pc (.int y :: .int x :: st) :=
  fun H locs ls h hH hS => lv_irem hX.1.1 hX.1.2.1 hd hy (k H locs ls h hH hS)
theorem ow_remn (hX : ox X V rm cc nL own Ts ret) {a b : Nat} (hd : decode cc pc = .ok (.irem, 1)) (ha : a < 2 ^ 31) (h0 : 0 < b) (hb : b < 2 ^ 31) (k : ow X V r u' u loc (pc + 1) (.int (nI (a % b)) :: st)) : ow X V r u' u loc pc (.int (nI b) :: .int (nI a) :: st) :=
  ow_irem hX hd (nI_ne0 h0 hb) (by rw [pk_rem ha h0 hb]; exact k)
theorem ow_land (hX : ox X V rm cc nL own Ts ret) {x y : Int64} (hd : decode cc pc = .ok (.land, 1)) (k : ow X V r u' u loc (pc + 1) (.long (x &&& y) :: st)) : ow X V r u' u loc pc (.long y :: .long x :: st) :=
  fun H locs ls h hH hS => lv_land hX.1.1 hX.1.2.1 hd (k H locs ls h hH hS)
theorem ow_lshr (hX : ox X V rm cc nL own Ts ret) {x : Int64} {y : Int32} (hd : decode cc pc = .ok (.lshr, 1)) (k : ow X V r u' u loc (pc + 1) (.long (x >>> (y.toInt64 &&& 63)) :: st)) : ow X V r u' u loc pc (.int y :: .long x :: st) :=
  fun H locs ls h hH hS => lv_lshr hX.1.1 hX.1.2.1 hd rfl (k H locs ls h hH hS)
theorem ow_lushr (hX : ox X V rm cc nL own Ts ret) {x : Int64} {y : Int32} (hd : decode cc pc = .ok (.lushr, 1)) (k : ow X V r u' u loc (pc + 1) (.long ((x.toUInt64 >>> (y.toInt64.toUInt64 &&& Int64.toUInt64 63)).toInt64) :: st)) : ow X V r u' u loc pc (.int y :: .long x :: st) :=
  fun H locs ls h hH hS => lv_lushr hX.1.1 hX.1.2.1 hd rfl (k H locs ls h hH hS)
theorem ow_lcmp (hX : ox X V rm cc nL own Ts ret) {x y : Int64} (hd : decode cc pc = .ok (.lcmp, 1)) (k : ow X V r u' u loc (pc + 1) (.int (lg_cmp x y) :: st)) : ow X V r u' u loc pc (.long y :: .long x :: st) :=
  fun H locs ls h hH hS => W.lcmp hX.1.1 hX.1.2.1 hd (k H locs ls h hH hS)
/-! branches -/
theorem ow_goto (hX : ox X V rm cc nL own Ts ret) {off : Int} {tgt : Nat} (hd : decode cc pc = .ok (.goto off, 3)) (ht : (pc : Int) + off = (tgt : Int)) (k : ow X V r u' u loc tgt st) : ow X V r u' u loc pc st :=
  fun H locs ls h hH hS => lv_goto hX.1.1 hX.1.2.1 hd ht (k H locs ls h hH hS)
theorem ow_if_eq (hX : ox X V rm cc nL own Ts ret) {x : Int32} {off : Int} {tgt : Nat} (hd : decode cc pc = .ok (.ifCond .eq off, 3)) (ht : (pc : Int) + off = (tgt : Int)) (kt : x = 0 → ow X V r u' u loc tgt st) (kf : ¬ x = 0 → ow X V r u' u loc (pc + 3) st) : ow X V r u' u loc pc (.int x :: st) :=
  fun H locs ls h hH hS => lv_if_eq hX.1.1 hX.1.2.1 hd ht (fun q => kt q H locs ls h hH hS) (fun q => kf q H locs ls h hH hS)
theorem ow_ic_eq (hX : ox X V rm cc nL own Ts ret) {x y : Int32} {off : Int} {tgt : Nat} (hd : decode cc pc = .ok (.if_icmp .eq off, 3)) (ht : (pc : Int) + off = (tgt : Int)) (kt : x = y → ow X V r u' u loc tgt st) (kf : ¬ x = y → ow X V r u' u loc (pc + 3) st) : ow X V r u' u loc pc (.int y :: .int x :: st) :=
  fun H locs ls h hH hS => lv_icmp_eq hX.1.1 hX.1.2.1 hd ht (fun q => kt q H locs ls h hH hS) (fun q => kf q H locs ls h hH hS)
theorem ow_nc_eq (hX : ox X V rm cc nL own Ts ret) {a b : Nat} {off : Int} {tgt : Nat} (hd : decode cc pc = .ok (.if_icmp .eq off, 3)) (ht : (pc : Int) + off = (tgt : Int)) (ha : a < 2 ^ 31) (hb : b < 2 ^ 31) (kt : a = b → ow X V r u' u loc tgt st) (kf : ¬ a = b → ow X V r u' u loc (pc + 3) st) : ow X V r u' u loc pc (.int (nI b) :: .int (nI a) :: st) :=
  ow_ic_eq hX hd ht (fun q => kt (by simp only [nI_eq ha hb, nI_eq hb ha, nI_ltI ha hb, nI_ltI hb ha, nI_leI ha hb, nI_leI hb ha] at q; omega)) (fun q => kf (by simp only [nI_eq ha hb, nI_eq hb ha, nI_ltI ha hb, nI_ltI hb ha, nI_leI ha hb, nI_leI hb ha] at q; omega))
theorem ow_nz_eq (hX : ox X V rm cc nL own Ts ret) {a : Nat} {off : Int} {tgt : Nat} (hd : decode cc pc = .ok (.ifCond .eq off, 3)) (ht : (pc : Int) + off = (tgt : Int)) (ha : a < 2 ^ 31) (kt : a = 0 → ow X V r u' u loc tgt st) (kf : ¬ a = 0 → ow X V r u' u loc (pc + 3) st) : ow X V r u' u loc pc (.int (nI a) :: st) :=
  ow_if_eq hX hd ht (fun q => kt (by rw [← nI_0] at q; simp only [nI_eq ha (show 0 < 2 ^ 31 by decide), nI_ltI (show 0 < 2 ^ 31 by decide) ha, nI_leI ha (show 0 < 2 ^ 31 by decide)] at q; omega)) (fun q => kf (by rw [← nI_0] at q; simp only [nI_eq ha (show 0 < 2 ^ 31 by decide), nI_ltI (show 0 < 2 ^ 31 by decide) ha, nI_leI ha (show 0 < 2 ^ 31 by decide)] at q; omega))
theorem ow_if_ne (hX : ox X V rm cc nL own Ts ret) {x : Int32} {off : Int} {tgt : Nat} (hd : decode cc pc = .ok (.ifCond .ne off, 3)) (ht : (pc : Int) + off = (tgt : Int)) (kt : ¬ x = 0 → ow X V r u' u loc tgt st) (kf : x = 0 → ow X V r u' u loc (pc + 3) st) : ow X V r u' u loc pc (.int x :: st) :=
  fun H locs ls h hH hS => lv_if_ne hX.1.1 hX.1.2.1 hd ht (fun q => kt q H locs ls h hH hS) (fun q => kf q H locs ls h hH hS)
theorem ow_ic_ne (hX : ox X V rm cc nL own Ts ret) {x y : Int32} {off : Int} {tgt : Nat} (hd : decode cc pc = .ok (.if_icmp .ne off, 3)) (ht : (pc : Int) + off = (tgt : Int)) (kt : ¬ x = y → ow X V r u' u loc tgt st) (kf : x = y → ow X V r u' u loc (pc + 3) st) : ow X V r u' u loc pc (.int y :: .int x :: st) :=
  fun H locs ls h hH hS => lv_icmp_ne hX.1.1 hX.1.2.1 hd ht (fun q => kt q H locs ls h hH hS) (fun q => kf q H locs ls h hH hS)
theorem ow_nc_ne (hX : ox X V rm cc nL own Ts ret) {a b : Nat} {off : Int} {tgt : Nat} (hd : decode cc pc = .ok (.if_icmp .ne off, 3)) (ht : (pc : Int) + off = (tgt : Int)) (ha : a < 2 ^ 31) (hb : b < 2 ^ 31) (kt : ¬ a = b → ow X V r u' u loc tgt st) (kf : a = b → ow X V r u' u loc (pc + 3) st) : ow X V r u' u loc pc (.int (nI b) :: .int (nI a) :: st) :=
  ow_ic_ne hX hd ht (fun q => kt (by simp only [nI_eq ha hb, nI_eq hb ha, nI_ltI ha hb, nI_ltI hb ha, nI_leI ha hb, nI_leI hb ha] at q; omega)) (fun q => kf (by simp only [nI_eq ha hb, nI_eq hb ha, nI_ltI ha hb, nI_ltI hb ha, nI_leI ha hb, nI_leI hb ha] at q; omega))
theorem ow_nz_ne (hX : ox X V rm cc nL own Ts ret) {a : Nat} {off : Int} {tgt : Nat} (hd : decode cc pc = .ok (.ifCond .ne off, 3)) (ht : (pc : Int) + off = (tgt : Int)) (ha : a < 2 ^ 31) (kt : ¬ a = 0 → ow X V r u' u loc tgt st) (kf : a = 0 → ow X V r u' u loc (pc + 3) st) : ow X V r u' u loc pc (.int (nI a) :: st) :=
  ow_if_ne hX hd ht (fun q => kt (by rw [← nI_0] at q; simp only [nI_eq ha (show 0 < 2 ^ 31 by decide), nI_ltI (show 0 < 2 ^ 31 by decide) ha, nI_leI ha (show 0 < 2 ^ 31 by decide)] at q; omega)) (fun q => kf (by rw [← nI_0] at q; simp only [nI_eq ha (show 0 < 2 ^ 31 by decide), nI_ltI (show 0 < 2 ^ 31 by decide) ha, nI_leI ha (show 0 < 2 ^ 31 by decide)] at q; omega))
theorem ow_if_lt (hX : ox X V rm cc nL own Ts ret) {x : Int32} {off : Int} {tgt : Nat} (hd : decode cc pc = .ok (.ifCond .lt off, 3)) (ht : (pc : Int) + off = (tgt : Int)) (kt : x < 0 → ow X V r u' u loc tgt st) (kf : ¬ x < 0 → ow X V r u' u loc (pc + 3) st) : ow X V r u' u loc pc (.int x :: st) :=
  fun H locs ls h hH hS => lv_if_lt hX.1.1 hX.1.2.1 hd ht (fun q => kt q H locs ls h hH hS) (fun q => kf q H locs ls h hH hS)
theorem ow_ic_lt (hX : ox X V rm cc nL own Ts ret) {x y : Int32} {off : Int} {tgt : Nat} (hd : decode cc pc = .ok (.if_icmp .lt off, 3)) (ht : (pc : Int) + off = (tgt : Int)) (kt : x < y → ow X V r u' u loc tgt st) (kf : ¬ x < y → ow X V r u' u loc (pc + 3) st) : ow X V r u' u loc pc (.int y :: .int x :: st) :=
  fun H locs ls h hH hS => lv_icmp_lt hX.1.1 hX.1.2.1 hd ht (fun q => kt q H locs ls h hH hS) (fun q => kf q H locs ls h hH hS)
theorem ow_nc_lt (hX : ox X V rm cc nL own Ts ret) {a b : Nat} {off : Int} {tgt : Nat} (hd : decode cc pc = .ok (.if_icmp .lt off, 3)) (ht : (pc : Int) + off = (tgt : Int)) (ha : a < 2 ^ 31) (hb : b < 2 ^ 31) (kt : a < b → ow X V r u' u loc tgt st) (kf : b ≤ a → ow X V r u' u loc (pc + 3) st) : ow X V r u' u loc pc (.int (nI b) :: .int (nI a) :: st) :=
  ow_ic_lt hX hd ht (fun q => kt (by simp only [nI_eq ha hb, nI_eq hb ha, nI_ltI ha hb, nI_ltI hb ha, nI_leI ha hb, nI_leI hb ha] at q; omega)) (fun q => kf (by simp only [nI_eq ha hb, nI_eq hb ha, nI_ltI ha hb, nI_ltI hb ha, nI_leI ha hb, nI_leI hb ha] at q; omega))
theorem ow_nz_lt (hX : ox X V rm cc nL own Ts ret) {a : Nat} {off : Int} (hd : decode cc pc = .ok (.ifCond .lt off, 3)) {tgt : Nat} (ht : (pc : Int) + off = (tgt : Int)) (ha : a < 2 ^ 31) (kf : ow X V r u' u loc (pc + 3) st) : ow X V r u' u loc pc (.int (nI a) :: st) :=
  ow_if_lt hX hd ht (fun q => absurd q (nI_pos ha)) (fun _ => kf)
theorem ow_if_ge (hX : ox X V rm cc nL own Ts ret) {x : Int32} {off : Int} {tgt : Nat} (hd : decode cc pc = .ok (.ifCond .ge off, 3)) (ht : (pc : Int) + off = (tgt : Int)) (kt : 0 ≤ x → ow X V r u' u loc tgt st) (kf : ¬ 0 ≤ x → ow X V r u' u loc (pc + 3) st) : ow X V r u' u loc pc (.int x :: st) :=
  fun H locs ls h hH hS => lv_if_ge hX.1.1 hX.1.2.1 hd ht (fun q => kt q H locs ls h hH hS) (fun q => kf q H locs ls h hH hS)
theorem ow_ic_ge (hX : ox X V rm cc nL own Ts ret) {x y : Int32} {off : Int} {tgt : Nat} (hd : decode cc pc = .ok (.if_icmp .ge off, 3)) (ht : (pc : Int) + off = (tgt : Int)) (kt : y ≤ x → ow X V r u' u loc tgt st) (kf : ¬ y ≤ x → ow X V r u' u loc (pc + 3) st) : ow X V r u' u loc pc (.int y :: .int x :: st) :=
  fun H locs ls h hH hS => lv_icmp_ge hX.1.1 hX.1.2.1 hd ht (fun q => kt q H locs ls h hH hS) (fun q => kf q H locs ls h hH hS)
theorem ow_nc_ge (hX : ox X V rm cc nL own Ts ret) {a b : Nat} {off : Int} {tgt : Nat} (hd : decode cc pc = .ok (.if_icmp .ge off, 3)) (ht : (pc : Int) + off = (tgt : Int)) (ha : a < 2 ^ 31) (hb : b < 2 ^ 31) (kt : b ≤ a → ow X V r u' u loc tgt st) (kf : a < b → ow X V r u' u loc (pc + 3) st) : ow X V r u' u loc pc (.int (nI b) :: .int (nI a) :: st) :=
  ow_ic_ge hX hd ht (fun q => kt (by simp only [nI_eq ha hb, nI_eq hb ha, nI_ltI ha hb, nI_ltI hb ha, nI_leI ha hb, nI_leI hb ha] at q; omega)) (fun q => kf (by simp only [nI_eq ha hb, nI_eq hb ha, nI_ltI ha hb, nI_ltI hb ha, nI_leI ha hb, nI_leI hb ha] at q; omega))
theorem ow_nz_ge (hX : ox X V rm cc nL own Ts ret) {a : Nat} {off : Int} (hd : decode cc pc = .ok (.ifCond .ge off, 3)) {tgt : Nat} (ht : (pc : Int) + off = (tgt : Int)) (ha : a < 2 ^ 31) (kt : ow X V r u' u loc tgt st) : ow X V r u' u loc pc (.int (nI a) :: st) :=
  ow_if_ge hX hd ht (fun _ => kt) (fun q => absurd (nI_pos' ha) q)
theorem ow_if_gt (hX : ox X V rm cc nL own Ts ret) {x : Int32} {off : Int} {tgt : Nat} (hd : decode cc pc = .ok (.ifCond .gt off, 3)) (ht : (pc : Int) + off = (tgt : Int)) (kt : 0 < x → ow X V r u' u loc tgt st) (kf : ¬ 0 < x → ow X V r u' u loc (pc + 3) st) : ow X V r u' u loc pc (.int x :: st) :=
  fun H locs ls h hH hS => lv_if_gt hX.1.1 hX.1.2.1 hd ht (fun q => kt q H locs ls h hH hS) (fun q => kf q H locs ls h hH hS)
theorem ow_ic_gt (hX : ox X V rm cc nL own Ts ret) {x y : Int32} {off : Int} {tgt : Nat} (hd : decode cc pc = .ok (.if_icmp .gt off, 3)) (ht : (pc : Int) + off = (tgt : Int)) (kt : y < x → ow X V r u' u loc tgt st) (kf : ¬ y < x → ow X V r u' u loc (pc + 3) st) : ow X V r u' u loc pc (.int y :: .int x :: st) :=
  fun H locs ls h hH hS => lv_icmp_gt hX.1.1 hX.1.2.1 hd ht (fun q => kt q H locs ls h hH hS) (fun q => kf q H locs ls h hH hS)
theorem ow_nc_gt (hX : ox X V rm cc nL own Ts ret) {a b : Nat} {off : Int} {tgt : Nat} (hd : decode cc pc = .ok (.if_icmp .gt off, 3)) (ht : (pc : Int) + off = (tgt : Int)) (ha : a < 2 ^ 31) (hb : b < 2 ^ 31) (kt : b < a → ow X V r u' u loc tgt st) (kf : a ≤ b → ow X V r u' u loc (pc + 3) st) : ow X V r u' u loc pc (.int (nI b) :: .int (nI a) :: st) :=
  ow_ic_gt hX hd ht (fun q => kt (by simp only [nI_eq ha hb, nI_eq hb ha, nI_ltI ha hb, nI_ltI hb ha, nI_leI ha hb, nI_leI hb ha] at q; omega)) (fun q => kf (by simp only [nI_eq ha hb, nI_eq hb ha, nI_ltI ha hb, nI_ltI hb ha, nI_leI ha hb, nI_leI hb ha] at q; omega))
theorem ow_nz_gt (hX : ox X V rm cc nL own Ts ret) {a : Nat} {off : Int} {tgt : Nat} (hd : decode cc pc = .ok (.ifCond .gt off, 3)) (ht : (pc : Int) + off = (tgt : Int)) (ha : a < 2 ^ 31) (kt : 0 < a → ow X V r u' u loc tgt st) (kf : a = 0 → ow X V r u' u loc (pc + 3) st) : ow X V r u' u loc pc (.int (nI a) :: st) :=
  ow_if_gt hX hd ht (fun q => kt (by rw [← nI_0] at q; simp only [nI_eq ha (show 0 < 2 ^ 31 by decide), nI_ltI (show 0 < 2 ^ 31 by decide) ha, nI_leI ha (show 0 < 2 ^ 31 by decide)] at q; omega)) (fun q => kf (by rw [← nI_0] at q; simp only [nI_eq ha (show 0 < 2 ^ 31 by decide), nI_ltI (show 0 < 2 ^ 31 by decide) ha, nI_leI ha (show 0 < 2 ^ 31 by decide)] at q; omega))
theorem ow_if_le (hX : ox X V rm cc nL own Ts ret) {x : Int32} {off : Int} {tgt : Nat} (hd : decode cc pc = .ok (.ifCond .le off, 3)) (ht : (pc : Int) + off = (tgt : Int)) (kt : x ≤ 0 → ow X V r u' u loc tgt st) (kf : ¬ x ≤ 0 → ow X V r u' u loc (pc + 3) st) : ow X V r u' u loc pc (.int x :: st) :=
  fun H locs ls h hH hS => lv_if_le hX.1.1 hX.1.2.1 hd ht (fun q => kt q H locs ls h hH hS) (fun q => kf q H locs ls h hH hS)
theorem ow_ic_le (hX : ox X V rm cc nL own Ts ret) {x y : Int32} {off : Int} {tgt : Nat} (hd : decode cc pc = .ok (.if_icmp .le off, 3)) (ht : (pc : Int) + off = (tgt : Int)) (kt : x ≤ y → ow X V r u' u loc tgt st) (kf : ¬ x ≤ y → ow X V r u' u loc (pc + 3) st) : ow X V r u' u loc pc (.int y :: .int x :: st) :=
  fun H locs ls h hH hS => lv_icmp_le hX.1.1 hX.1.2.1 hd ht (fun q => kt q H locs ls h hH hS) (fun q => kf q H locs ls h hH hS)
theorem ow_nc_le (hX : ox X V rm cc nL own Ts ret) {a b : Nat} {off : Int} {tgt : Nat} (hd : decode cc pc = .ok (.if_icmp .le off, 3)) (ht : (pc : Int) + off = (tgt : Int)) (ha : a < 2 ^ 31) (hb : b < 2 ^ 31) (kt : a ≤ b → ow X V r u' u loc tgt st) (kf : b < a → ow X V r u' u loc (pc + 3) st) : ow X V r u' u loc pc (.int (nI b) :: .int (nI a) :: st) :=
  ow_ic_le hX hd ht (fun q => kt (by simp only [nI_eq ha hb, nI_eq hb ha, nI_ltI ha hb, nI_ltI hb ha, nI_leI ha hb, nI_leI hb ha] at q; omega)) (fun q => kf (by simp only [nI_eq ha hb, nI_eq hb ha, nI_ltI ha hb, nI_ltI hb ha, nI_leI ha hb, nI_leI hb ha] at q; omega))
theorem ow_nz_le (hX : ox X V rm cc nL own Ts ret) {a : Nat} {off : Int} {tgt : Nat} (hd : decode cc pc = .ok (.ifCond .le off, 3)) (ht : (pc : Int) + off = (tgt : Int)) (ha : a < 2 ^ 31) (kt : a ≤ 0 → ow X V r u' u loc tgt st) (kf : 0 < a → ow X V r u' u loc (pc + 3) st) : ow X V r u' u loc pc (.int (nI a) :: st) :=
  ow_if_le hX hd ht (fun q => kt (by rw [← nI_0] at q; simp only [nI_eq ha (show 0 < 2 ^ 31 by decide), nI_ltI (show 0 < 2 ^ 31 by decide) ha, nI_leI ha (show 0 < 2 ^ 31 by decide)] at q; omega)) (fun q => kf (by rw [← nI_0] at q; simp only [nI_eq ha (show 0 < 2 ^ 31 by decide), nI_ltI (show 0 < 2 ^ 31 by decide) ha, nI_leI ha (show 0 < 2 ^ 31 by decide)] at q; omega))
theorem ow_tableOut (hX : ox X V rm cc nL own Ts ret) {dflt lo hi : Int} {offs : Array Int} {len : Nat} {x : Int32} {tgt : Nat} (hd : decode cc pc = .ok (.tableswitch dflt lo hi offs, len)) (hx : x.toInt < lo ∨ hi < x.toInt) (ht : (pc : Int) + dflt = (tgt : Int)) (k : ow X V r u' u loc tgt st) : ow X V r u' u loc pc (.int x :: st) :=
  fun H locs ls h hH hS => lv_tableOut hX.1.1 hX.1.2.1 hd hx ht (k H locs ls h hH hS)
theorem ow_tableIn (hX : ox X V rm cc nL own Ts ret) {dflt lo hi : Int} {offs : Array Int} {len : Nat} {x : Int32} {off : Int} {tgt : Nat} (hd : decode cc pc = .ok (.tableswitch dflt lo hi offs, len)) (h1 : ¬ x.toInt < lo) (h2 : ¬ hi < x.toInt) (ho : offs[(x.toInt - lo).toNat]? = some off) (ht : (pc : Int) + off = (tgt : Int)) (k : ow X V r u' u loc tgt st) : ow X V r u' u loc pc (.int x :: st) :=
  fun H locs ls h hH hS => lv_tableIn hX.1.1 hX.1.2.1 hd h1 h2 ho ht (k H locs ls h hH hS)
theorem ow_lookup (hX : ox X V rm cc nL own Ts ret) {dflt : Int} {ps : Array (Int × Int)} {len : Nat} {x : Int32} {off : Int} {tgt : Nat} (hd : decode cc pc = .ok (.lookupswitch dflt ps, len)) (hp : (ps.toList.zip (ps.toList.drop 1)).all (fun (a, next) => a.1 < next.1) = true) (ho : Op.lookupswitch.offset ps.toList dflt x.toInt = off) (ht : (pc : Int) + off = (tgt : Int)) (k : ow X V r u' u loc tgt st) : ow X V r u' u loc pc (.int x :: st) :=
  fun H locs ls h hH hS => lv_lookup hX.1.1 hX.1.2.1 hd hp ho ht (k H locs ls h hH hS)
/-! returns -/
theorem ow_iret (hX : ox X V rm cc nL own Ts (some .int)) {v : Int32} (hd : decode cc pc = .ok (.ireturn, 1)) (e : r = some (.int v)) (eu : u' = u) : ow X V r u' u loc pc [.int v] := by
  intro H locs ls h hH hS
  subst e; subst eu
  exact W.iret hX.1.1 hX.1.2.1 hX.2.2.2.2.1 (fun t ht hW => ⟨⟨rfl, by rw [ht]; exact hH, hX.2.1.moved hW⟩, hS.F ht⟩) hS.2.2 hd hX.2.2.2.1
theorem ow_zret (hX : ox X V rm cc nL own Ts (some .boolean)) {v : Int32} (hd : decode cc pc = .ok (.ireturn, 1)) (hn : narrow .boolean (.int v) = .int v) (e : r = some (.int v)) (eu : u' = u) : ow X V r u' u loc pc [.int v] := by
  intro H locs ls h hH hS
  subst e; subst eu
  exact W.zret hX.1.1 hX.1.2.1 hX.2.2.2.2.1 hn (fun t ht hW => ⟨⟨rfl, by rw [ht]; exact hH, hX.2.1.moved hW⟩, hS.F ht⟩) hS.2.2 hd hX.2.2.2.1
theorem ow_vret (hX : ox X V rm cc nL own Ts none) (hd : decode cc pc = .ok (.return_, 1)) (e : r = none) (eu : u' = u) : ow X V r u' u loc pc [] := by
  intro H locs ls h hH hS
  subst e; subst eu
  exact W.vret hX.1.1 hX.1.2.1 hX.2.2.2.2.1 (fun t ht hW => ⟨⟨rfl, by rw [ht]; exact hH, hX.2.1.moved hW⟩, hS.F ht⟩) hS.2.2 hd hX.2.2.2.1
theorem nb_01 {b : Nat} (h : b ≤ 1) : narrow .boolean (.int (nI b)) = .int (nI b) := by
  rcases (by omega : b = 0 ∨ b = 1) with rfl | rfl <;> rfl
theorem vn_01 {b : Nat} (h : b ≤ 1) : vp_nar .boolean (nI b) = nI b := by
  unfold vp_nar; rw [nb_01 h]
/-! fields -/
/-- kind k is class C, number ci, with fields T of the kinds ts -/
def kd (V : PV) (Ts : List Cond) (k ci N : Nat) (C : String) (T : u_T) (ts : List (Nat × Nat)) : Prop :=
  pv_sh V k = .inl (ci, ts) ∧ (pv_cl V)[ci]? = some (C, T, N) ∧ ts.length = N ∧ (∀ w ∈ u_ws C T N, w ∈ Ts) ∧ (∀ j, j < N → (T j).1 = C) ∧ (∃ ty0 : Nat → FieldType, ∀ j, j < N → parseFieldDescriptor (T j).2.2.1 = some (ty0 j)) ∧ ∀ a, a < N → ∀ b, b < N → a ≠ b → (T a).2.1 ≠ (T b).2.1
theorem ow_get (hX : ox X V rm cc nL own Ts ret) {k i ci N index : Nat} {C : String} {T : u_T} {ts : List (Nat × Nat)} {t : Nat × Nat} {v : Value} (hk : kd V Ts k ci N C T ts) (j : Nat) (hd : decode cc pc = .ok (.getfield index, 3)) (hl : Cond.fieldLink own index C (T j).2.1 (T j).2.2.1 ∈ Ts) (ht : ts[j]? = some t) (hi : i < pv_bd V k) (hv : pv_f V u k i j t = v)
    (kk : ow X V r u' u loc (pc + 3) (v :: st)) : ow X V r u' u loc pc (.ref (pv_ad V k i) :: st) := by
  intro H locs ls h hH hS
  obtain ⟨hs, hc, hN, hin, hT, -, -⟩ := hk
  have hj : j < N := by rw [← hN]; exact (List.getElem?_eq_some_iff.mp ht).1
  have hH' := hH
  obtain ⟨σ, hσ, hP, hD⟩ := hH
  obtain ⟨q0, hq⟩ := va_pl_get (X := []) (f := σ) (hX.2.2.1.2.1 k i hi)
  rw [List.nil_append, hσ k i hi, pv_c_o hs] at hq
  exact va_get hX.1.1 hX.1.2.1 hX.1.2.2.2.2 hin hX.1.2.2.2.1 hX.2.1.1 hP q0 hq hc j hj (hX.1.2.2.2.2 _ hl) (fun x hx => by rw [hT j hj] at hx; exact hx) (by rw [pv_o_at ht, hv]) hd (kk H locs ls h hH' hS)
theorem ow_put (hX : ox X V rm cc nL own Ts ret) {k i ci N index : Nat} {C : String} {T : u_T} {ts : List (Nat × Nat)} {t : Nat × Nat} {v : Value} {w : UU} {ty : FieldType} (hk : kd V Ts k ci N C T ts) (j : Nat) (hd : decode cc pc = .ok (.putfield index, 3)) (hl : Cond.fieldLink own index C (T j).2.1 (T j).2.2.1 ∈ Ts) (ht : ts[j]? = some t) (hi : i < pv_bd V k)
    (hfin : (T j).2.2.2 = false) (hp : parseFieldDescriptor (T j).2.2.1 = some ty) (hn : narrow ty v = v) (hfit : fits ty v = true) (hw1 : pv_f V w k i j t = v) (hw2 : ∀ a, a ≠ j → ∀ t2, pv_f V w k i a t2 = pv_f V u k i a t2) (hw3 : ∀ k2 i2, ¬ (k2 = k ∧ i2 = i) → pv_c V w k2 i2 = pv_c V u k2 i2)
    (kk : ow X V r u' w loc (pc + 3) st) : ow X V r u' u loc pc (v :: .ref (pv_ad V k i) :: st) := by
  intro H locs ls h hH hS
  obtain ⟨hs, hc, hN, hin, hT, ⟨ty0, hty⟩, hnm⟩ := hk
  have hj : j < N := by rw [← hN]; exact (List.getElem?_eq_some_iff.mp ht).1
  obtain ⟨σ, hσ, hP, hD⟩ := hH
  obtain ⟨q0, hq0⟩ := va_pl_get (X := []) (f := σ) (hX.2.2.1.2.1 k i hi)
  have hq := hq0
  rw [List.nil_append, hσ k i hi, pv_c_o hs] at hq
  refine va_put hX.1.1 hX.1.2.1 hX.1.2.2.2.2 hin ty0 hty hnm hX.1.2.2.2.1 hX.2.1.1 hP hD hS q0 hq hc j hj (hX.1.2.2.2.2 _ hl) (fun x hx => by rw [hT j hj] at hx; exact hx) hfin hp hn hfit (by rw [pv_o_len, hN]; exact hj) hd (fun H1 locs1 hP1 hD1 hS1 => kk H1 locs1 ls h ?_ hS1)
  have e1 := va_pl_set (X := []) (e := .inr (ci, (pv_o V u k i ts).set j v)) hD (hX.2.2.1.2.1 k i hi) hq0
  simp only [List.nil_append] at e1
  rw [e1] at hP1 hD1
  refine ⟨_, pv_new hX.2.2.1 hi hσ ?_ hw3, hP1, hD1⟩
  rw [pv_c_o hs]
  congr 2
  unfold pv_o
  refine pv_set _ _ _ _ _ ?_ (fun a ha => hw2 a ha _)
  rw [List.getD, ht]
  exact hw1
theorem ow_gN (hX : ox X V rm cc nL own Ts ret) {k i ci N index z : Nat} {C : String} {T : u_T} {ts : List (Nat × Nat)} (hk : kd V Ts k ci N C T ts) (j : Nat) (hd : decode cc pc = .ok (.getfield index, 3)) (hl : Cond.fieldLink own index C (T j).2.1 (T j).2.2.1 ∈ Ts) (ht : ts[j]? = some (0, z)) (hi : i < pv_bd V k)
    (kk : ow X V r u' u loc (pc + 3) (.int (nI (u.1 k i j)) :: st)) : ow X V r u' u loc pc (.ref (pv_ad V k i) :: st) := ow_get hX hk j hd hl ht hi rfl kk
theorem ow_gI (hX : ox X V rm cc nL own Ts ret) {k i ci N index z : Nat} {C : String} {T : u_T} {ts : List (Nat × Nat)} (hk : kd V Ts k ci N C T ts) (j : Nat) (hd : decode cc pc = .ok (.getfield index, 3)) (hl : Cond.fieldLink own index C (T j).2.1 (T j).2.2.1 ∈ Ts) (ht : ts[j]? = some (1, z)) (hi : i < pv_bd V k)
    (kk : ow X V r u' u loc (pc + 3) (.int (u.2.1 k i j) :: st)) : ow X V r u' u loc pc (.ref (pv_ad V k i) :: st) := ow_get hX hk j hd hl ht hi rfl kk
theorem ow_gL (hX : ox X V rm cc nL own Ts ret) {k i ci N index z : Nat} {C : String} {T : u_T} {ts : List (Nat × Nat)} (hk : kd V Ts k ci N C T ts) (j : Nat) (hd : decode cc pc = .ok (.getfield index, 3)) (hl : Cond.fieldLink own index C (T j).2.1 (T j).2.2.1 ∈ Ts) (ht : ts[j]? = some (2, z)) (hi : i < pv_bd V k)
    (kk : ow X V r u' u loc (pc + 3) (.long (u.2.2.1 k i j) :: st)) : ow X V r u' u loc pc (.ref (pv_ad V k i) :: st) := ow_get hX hk j hd hl ht hi rfl kk
theorem ow_gR (hX : ox X V rm cc nL own Ts ret) {k i ci N index z : Nat} {C : String} {T : u_T} {ts : List (Nat × Nat)} (hk : kd V Ts k ci N C T ts) (j : Nat) (hd : decode cc pc = .ok (.getfield index, 3)) (hl : Cond.fieldLink own index C (T j).2.1 (T j).2.2.1 ∈ Ts) (ht : ts[j]? = some (3, z)) (hi : i < pv_bd V k)
    (kk : ow X V r u' u loc (pc + 3) (.ref (pv_ad V z i) :: st)) : ow X V r u' u loc pc (.ref (pv_ad V k i) :: st) := ow_get hX hk j hd hl ht hi rfl kk
theorem ow_gE (hX : ox X V rm cc nL own Ts ret) {k i ci N index z : Nat} {C : String} {T : u_T} {ts : List (Nat × Nat)} (hk : kd V Ts k ci N C T ts) (j : Nat) (hd : decode cc pc = .ok (.getfield index, 3)) (hl : Cond.fieldLink own index C (T j).2.1 (T j).2.2.1 ∈ Ts) (ht : ts[j]? = some (4, z)) (hi : i < pv_bd V k)
    (kk : ow X V r u' u loc (pc + 3) (.ref (pv_ad V z (2 * i)) :: st)) : ow X V r u' u loc pc (.ref (pv_ad V k i) :: st) := ow_get hX hk j hd hl ht hi rfl kk
theorem ow_gO (hX : ox X V rm cc nL own Ts ret) {k i ci N index z : Nat} {C : String} {T : u_T} {ts : List (Nat × Nat)} (hk : kd V Ts k ci N C T ts) (j : Nat) (hd : decode cc pc = .ok (.getfield index, 3)) (hl : Cond.fieldLink own index C (T j).2.1 (T j).2.2.1 ∈ Ts) (ht : ts[j]? = some (5, z)) (hi : i < pv_bd V k)
    (kk : ow X V r u' u loc (pc + 3) (.ref (pv_ad V z (2 * i + 1)) :: st)) : ow X V r u' u loc pc (.ref (pv_ad V k i) :: st) := ow_get hX hk j hd hl ht hi rfl kk
theorem ow_gM (hX : ox X V rm cc nL own Ts ret) {k i ci N index z : Nat} {C : String} {T : u_T} {ts : List (Nat × Nat)} (hk : kd V Ts k ci N C T ts) (j : Nat) (hd : decode cc pc = .ok (.getfield index, 3)) (hl : Cond.fieldLink own index C (T j).2.1 (T j).2.2.1 ∈ Ts) (ht : ts[j]? = some (6, z)) (hi : i < pv_bd V k)
    (kk : ow X V r u' u loc (pc + 3) (.ref (pv_ad V z (u.2.2.2 j)) :: st)) : ow X V r u' u loc pc (.ref (pv_ad V k i) :: st) := ow_get hX hk j hd hl ht hi rfl kk
theorem ow_gS (hX : ox X V rm cc nL own Ts ret) {k i ci N index z : Nat} {C : String} {T : u_T} {ts : List (Nat × Nat)} (hk : kd V Ts k ci N C T ts) (j : Nat) (hd : decode cc pc = .ok (.getfield index, 3)) (hl : Cond.fieldLink own index C (T j).2.1 (T j).2.2.1 ∈ Ts) (ht : ts[j]? = some (7, z)) (hi : i < pv_bd V k)
    (kk : ow X V r u' u loc (pc + 3) (.int (nI i) :: st)) : ow X V r u' u loc pc (.ref (pv_ad V k i) :: st) := ow_get hX hk j hd hl ht hi rfl kk
theorem ow_gK (hX : ox X V rm cc nL own Ts ret) {k i ci N index z : Nat} {C : String} {T : u_T} {ts : List (Nat × Nat)} (hk : kd V Ts k ci N C T ts) (j : Nat) (hd : decode cc pc = .ok (.getfield index, 3)) (hl : Cond.fieldLink own index C (T j).2.1 (T j).2.2.1 ∈ Ts) (ht : ts[j]? = some (8, z)) (hi : i < pv_bd V k)
    (kk : ow X V r u' u loc (pc + 3) (.int (nI z) :: st)) : ow X V r u' u loc pc (.ref (pv_ad V k i) :: st) := ow_get hX hk j hd hl ht hi rfl kk
theorem pf_un_ne {V : PV} {u : UU} {k i j v a : Nat} (h : a ≠ j) (t : Nat × Nat) : pv_f V (un u k i j v) k i a t = pv_f V u k i a t := by
  unfold pv_f
  rw [un_1, un_2, if_neg (fun q => h q.2.2)]
theorem pf_ui_ne {V : PV} {u : UU} {k i j a : Nat} {v : Int32} (h : a ≠ j) (t : Nat × Nat) : pv_f V (ui u k i j v) k i a t = pv_f V u k i a t := by
  unfold pv_f
  rw [ui_1, ui_2, ui_3, if_neg (fun q => h q.2.2)]
theorem pf_ul_ne {V : PV} {u : UU} {k i j a : Nat} {v : Int64} (h : a ≠ j) (t : Nat × Nat) : pv_f V (ul u k i j v) k i a t = pv_f V u k i a t := by
  unfold pv_f
  rw [ul_1, ul_2, ul_3, ul_4, if_neg (fun q => h q.2.2)]
theorem ow_pN (hX : ox X V rm cc nL own Ts ret) {k i ci N index z v : Nat} {C : String} {T : u_T} {ts : List (Nat × Nat)} (hk : kd V Ts k ci N C T ts) (j : Nat) (hd : decode cc pc = .ok (.putfield index, 3)) (hl : Cond.fieldLink own index C (T j).2.1 (T j).2.2.1 ∈ Ts) (ht : ts[j]? = some (0, z)) (hi : i < pv_bd V k) (hfin : (T j).2.2.2 = false) (hp : parseFieldDescriptor (T j).2.2.1 = some .int)
    (kk : ow X V r u' (un u k i j v) loc (pc + 3) st) : ow X V r u' u loc pc (.int (nI v) :: .ref (pv_ad V k i) :: st) :=
  ow_put hX hk j hd hl ht hi hfin hp rfl rfl (by show Value.int (nI ((un u k i j v).1 k i j)) = _; rw [un_1, if_pos ⟨rfl, rfl, rfl⟩]) (fun a ha t => pf_un_ne ha t) (fun _ _ h => pv_un_ne h) kk
theorem ow_pZ (hX : ox X V rm cc nL own Ts ret) {k i ci N index z v : Nat} {C : String} {T : u_T} {ts : List (Nat × Nat)} (hk : kd V Ts k ci N C T ts) (j : Nat) (hd : decode cc pc = .ok (.putfield index, 3)) (hl : Cond.fieldLink own index C (T j).2.1 (T j).2.2.1 ∈ Ts) (ht : ts[j]? = some (0, z)) (hi : i < pv_bd V k) (hfin : (T j).2.2.2 = false) (hp : parseFieldDescriptor (T j).2.2.1 = some .boolean) (hv : v ≤ 1)
    (kk : ow X V r u' (un u k i j v) loc (pc + 3) st) : ow X V r u' u loc pc (.int (nI v) :: .ref (pv_ad V k i) :: st) :=
  ow_put hX hk j hd hl ht hi hfin hp (nb_01 hv) (by rcases (by omega : v = 0 ∨ v = 1) with rfl | rfl <;> rfl) (by show Value.int (nI ((un u k i j v).1 k i j)) = _; rw [un_1, if_pos ⟨rfl, rfl, rfl⟩]) (fun a ha t => pf_un_ne ha t) (fun _ _ h => pv_un_ne h) kk
theorem ow_pI (hX : ox X V rm cc nL own Ts ret) {k i ci N index z : Nat} {v : Int32} {C : String} {T : u_T} {ts : List (Nat × Nat)} (hk : kd V Ts k ci N C T ts) (j : Nat) (hd : decode cc pc = .ok (.putfield index, 3)) (hl : Cond.fieldLink own index C (T j).2.1 (T j).2.2.1 ∈ Ts) (ht : ts[j]? = some (1, z)) (hi : i < pv_bd V k) (hfin : (T j).2.2.2 = false) (hp : parseFieldDescriptor (T j).2.2.1 = some .int)
    (kk : ow X V r u' (ui u k i j v) loc (pc + 3) st) : ow X V r u' u loc pc (.int v :: .ref (pv_ad V k i) :: st) :=
  ow_put hX hk j hd hl ht hi hfin hp rfl rfl (by show Value.int ((ui u k i j v).2.1 k i j) = _; rw [ui_2, if_pos ⟨rfl, rfl, rfl⟩]) (fun a ha t => pf_ui_ne ha t) (fun _ _ h => pv_ui_ne h) kk
theorem ow_pL (hX : ox X V rm cc nL own Ts ret) {k i ci N index z : Nat} {v : Int64} {C : String} {T : u_T} {ts : List (Nat × Nat)} (hk : kd V Ts k ci N C T ts) (j : Nat) (hd : decode cc pc = .ok (.putfield index, 3)) (hl : Cond.fieldLink own index C (T j).2.1 (T j).2.2.1 ∈ Ts) (ht : ts[j]? = some (2, z)) (hi : i < pv_bd V k) (hfin : (T j).2.2.2 = false) (hp : parseFieldDescriptor (T j).2.2.1 = some .long)
    (kk : ow X V r u' (ul u k i j v) loc (pc + 3) st) : ow X V r u' u loc pc (.long v :: .ref (pv_ad V k i) :: st) :=
  ow_put hX hk j hd hl ht hi hfin hp rfl rfl (by show Value.long ((ul u k i j v).2.2.1 k i j) = _; rw [ul_3, if_pos ⟨rfl, rfl, rfl⟩]) (fun a ha t => pf_ul_ne ha t) (fun _ _ h => pv_ul_ne h) kk
/-! arrays -/
theorem ow_cell (hX : ox X V rm cc nL own Ts ret) {H : Heap} {k i : Nat} (hi : i < pv_bd V k) (hH : pv_H V u H) : ∃ (σ : Nat → va_E) (q0 : Nat), (∀ k i, i < pv_bd V k → σ (pv_ad V k i) = pv_c V u k i) ∧ va_P (pv_D V) (pv_cl V) (va_pl (pv_L V) σ) H ∧ va_D (pv_A V) (va_pl (pv_L V) σ) ∧ (va_pl (pv_L V) σ)[q0]? = some (pv_ad V k i, pv_c V u k i) ∧ ∀ e, (va_pl (pv_L V) σ).set q0 (pv_ad V k i, e) = va_pl (pv_L V) (va_up σ (pv_ad V k i) e) := by
  obtain ⟨σ, hσ, hP, hD⟩ := hH
  obtain ⟨q0, hq0⟩ := va_pl_get (X := []) (f := σ) (hX.2.2.1.2.1 k i hi)
  refine ⟨σ, q0, hσ, hP, hD, by rw [← hσ k i hi]; exact hq0, fun e => ?_⟩
  have e1 := va_pl_set (X := []) (e := e) hD (hX.2.2.1.2.1 k i hi) hq0
  simpa only [List.nil_append] using e1
theorem ow_len (hX : ox X V rm cc nL own Ts ret) {k i z c : Nat} {ty : FieldType} (hs : pv_sh V k = .inr (c, ty, z)) (hc : c < 4) (hd : decode cc pc = .ok (.arraylength, 1)) (hi : i < pv_bd V k) (kk : ow X V r u' u loc (pc + 1) (.int (nI (pv_ln V k)) :: st)) : ow X V r u' u loc pc (.ref (pv_ad V k i) :: st) := by
  intro H locs ls h hH hS
  obtain ⟨σ, q0, hσ, hP, hD, hq, -⟩ := ow_cell hX hi hH
  obtain ⟨t0, ht0⟩ := hX.2.2.1.2.2.1 k c ty z hs
  rcases (by omega : c = 0 ∨ c = 1 ∨ c = 2 ∨ c = 3) with rfl | rfl | rfl | rfl
  · rw [pv_c_0 hs] at hq
    exact va_alen hX.1.1 hX.1.2.1 hX.2.1.1 hP q0 t0 hq ht0 rfl hd (kk H locs ls h hH hS)
  · rw [pv_c_1 hs] at hq
    exact va_alen hX.1.1 hX.1.2.1 hX.2.1.1 hP q0 t0 hq ht0 rfl hd (kk H locs ls h hH hS)
  · rw [pv_c_2 hs] at hq
    exact va_alen hX.1.1 hX.1.2.1 hX.2.1.1 hP q0 t0 hq ht0 rfl hd (kk H locs ls h hH hS)
  · rw [pv_c_3 hs] at hq
    exact va_alen hX.1.1 hX.1.2.1 hX.2.1.1 hP q0 t0 hq ht0 rfl hd (kk H locs ls h hH hS)
theorem ow_aN (hX : ox X V rm cc nL own Ts ret) {k i z j : Nat} (hs : pv_sh V k = .inr (0, .int, z)) (hd : decode cc pc = .ok (.iaload, 1)) (hi : i < pv_bd V k) (hj : j < pv_ln V k) (kk : ow X V r u' u loc (pc + 1) (.int (nI (u.1 k i j)) :: st)) : ow X V r u' u loc pc (.int (nI j) :: .ref (pv_ad V k i) :: st) := by
  intro H locs ls h hH hS
  obtain ⟨σ, q0, hσ, hP, hD, hq, -⟩ := ow_cell hX hi hH
  obtain ⟨t0, ht0⟩ := hX.2.2.1.2.2.1 k _ _ z hs
  have hln := hX.2.2.1.2.2.2 k
  rw [pv_c_0 hs] at hq
  refine va_iald hX.1.1 hX.1.2.1 hX.2.1.1 hP q0 t0 hq ht0 (vp_in_nI hj hln) hd ?_
  rw [nI_clamp (by omega)]
  exact kk H locs ls h hH hS
theorem ow_aZ (hX : ox X V rm cc nL own Ts ret) {k i z j : Nat} (hs : pv_sh V k = .inr (0, .boolean, z)) (hd : decode cc pc = .ok (.baload, 1)) (hi : i < pv_bd V k) (hj : j < pv_ln V k) (kk : ow X V r u' u loc (pc + 1) (.int (nI (u.1 k i j)) :: st)) : ow X V r u' u loc pc (.int (nI j) :: .ref (pv_ad V k i) :: st) := by
  intro H locs ls h hH hS
  obtain ⟨σ, q0, hσ, hP, hD, hq, -⟩ := ow_cell hX hi hH
  obtain ⟨t0, ht0⟩ := hX.2.2.1.2.2.1 k _ _ z hs
  have hln := hX.2.2.1.2.2.2 k
  rw [pv_c_0 hs] at hq
  refine va_zald hX.1.1 hX.1.2.1 hX.2.1.1 hP q0 t0 hq ht0 (vp_in_nI hj hln) hd ?_
  rw [nI_clamp (by omega)]
  exact kk H locs ls h hH hS
theorem ow_aI (hX : ox X V rm cc nL own Ts ret) {k i z j : Nat} (hs : pv_sh V k = .inr (1, .int, z)) (hd : decode cc pc = .ok (.iaload, 1)) (hi : i < pv_bd V k) (hj : j < pv_ln V k) (kk : ow X V r u' u loc (pc + 1) (.int (u.2.1 k i j) :: st)) : ow X V r u' u loc pc (.int (nI j) :: .ref (pv_ad V k i) :: st) := by
  intro H locs ls h hH hS
  obtain ⟨σ, q0, hσ, hP, hD, hq, -⟩ := ow_cell hX hi hH
  obtain ⟨t0, ht0⟩ := hX.2.2.1.2.2.1 k _ _ z hs
  have hln := hX.2.2.1.2.2.2 k
  rw [pv_c_1 hs] at hq
  refine va_iald hX.1.1 hX.1.2.1 hX.2.1.1 hP q0 t0 hq ht0 (vp_in_nI hj hln) hd ?_
  rw [nI_clamp (by omega)]
  exact kk H locs ls h hH hS
theorem ow_aL (hX : ox X V rm cc nL own Ts ret) {k i z j : Nat} (hs : pv_sh V k = .inr (2, .long, z)) (hd : decode cc pc = .ok (.laload, 1)) (hi : i < pv_bd V k) (hj : j < pv_ln V k) (kk : ow X V r u' u loc (pc + 1) (.long (u.2.2.1 k i j) :: st)) : ow X V r u' u loc pc (.int (nI j) :: .ref (pv_ad V k i) :: st) := by
  intro H locs ls h hH hS
  obtain ⟨σ, q0, hσ, hP, hD, hq, -⟩ := ow_cell hX hi hH
  obtain ⟨t0, ht0⟩ := hX.2.2.1.2.2.1 k _ _ z hs
  have hln := hX.2.2.1.2.2.2 k
  rw [pv_c_2 hs] at hq
  refine va_lald hX.1.1 hX.1.2.1 hX.2.1.1 hP q0 t0 hq ht0 (vp_in_nI hj hln) hd ?_
  rw [nI_clamp (by omega)]
  exact kk H locs ls h hH hS
theorem ow_aR (hX : ox X V rm cc nL own Ts ret) {k i z j : Nat} {C : String} (hs : pv_sh V k = .inr (3, .object C, z)) (hd : decode cc pc = .ok (.aaload, 1)) (hi : i < pv_bd V k) (hj : j < pv_ln V k) (kk : ow X V r u' u loc (pc + 1) (.ref (pv_ad V z j) :: st)) : ow X V r u' u loc pc (.int (nI j) :: .ref (pv_ad V k i) :: st) := by
  intro H locs ls h hH hS
  obtain ⟨σ, q0, hσ, hP, hD, hq, -⟩ := ow_cell hX hi hH
  obtain ⟨t0, ht0⟩ := hX.2.2.1.2.2.1 k _ _ z hs
  have hln := hX.2.2.1.2.2.2 k
  rw [pv_c_3 hs] at hq
  refine va_aldq hX.1.1 hX.1.2.1 hX.2.1.1 hP q0 t0 hq ht0 (vp_in_nI hj hln) hd ?_
  rw [nI_clamp (by omega)]
  exact kk H locs ls h hH hS
theorem ow_sN (hX : ox X V rm cc nL own Ts ret) {k i z j v : Nat} (hs : pv_sh V k = .inr (0, .int, z)) (hd : decode cc pc = .ok (.iastore, 1)) (hi : i < pv_bd V k) (hj : j < pv_ln V k) (kk : ow X V r u' (un u k i j v) loc (pc + 1) st) : ow X V r u' u loc pc (.int (nI v) :: .int (nI j) :: .ref (pv_ad V k i) :: st) := by
  intro H locs ls h hH hS
  obtain ⟨σ, q0, hσ, hP, hD, hq, hset⟩ := ow_cell hX hi hH
  obtain ⟨t0, ht0⟩ := hX.2.2.1.2.2.1 k _ _ z hs
  have hln := hX.2.2.1.2.2.2 k
  rw [pv_c_0 hs] at hq
  refine va_iast hX.1.1 hX.1.2.1 hX.2.1.1 hP hD hS q0 t0 hq ht0 (vp_in_nI hj hln) hd (fun H1 locs1 hP1 hD1 hS1 => kk H1 locs1 ls h ?_ hS1)
  rw [hset] at hP1 hD1
  refine ⟨_, pv_new hX.2.2.1 hi hσ ?_ (fun _ _ q => pv_un_ne q), hP1, hD1⟩
  rw [pv_c_0 hs, nI_clamp (by omega)]
  congr 4
  funext a
  by_cases ha : a = j
  · subst ha; simp [upd, un_1]
  · simp [upd, un_1, ha]
theorem ow_sZ (hX : ox X V rm cc nL own Ts ret) {k i z j v : Nat} (hs : pv_sh V k = .inr (0, .boolean, z)) (hd : decode cc pc = .ok (.bastore, 1)) (hi : i < pv_bd V k) (hj : j < pv_ln V k) (hv : v ≤ 1) (kk : ow X V r u' (un u k i j v) loc (pc + 1) st) : ow X V r u' u loc pc (.int (nI v) :: .int (nI j) :: .ref (pv_ad V k i) :: st) := by
  intro H locs ls h hH hS
  obtain ⟨σ, q0, hσ, hP, hD, hq, hset⟩ := ow_cell hX hi hH
  obtain ⟨t0, ht0⟩ := hX.2.2.1.2.2.1 k _ _ z hs
  have hln := hX.2.2.1.2.2.2 k
  rw [pv_c_0 hs] at hq
  refine va_zast hX.1.1 hX.1.2.1 hX.2.1.1 hP hD hS q0 t0 hq ht0 (vp_in_nI hj hln) hd (fun H1 locs1 hP1 hD1 hS1 => kk H1 locs1 ls h ?_ hS1)
  rw [hset] at hP1 hD1
  refine ⟨_, pv_new hX.2.2.1 hi hσ ?_ (fun _ _ q => pv_un_ne q), hP1, hD1⟩
  rw [pv_c_0 hs, nI_clamp (by omega), vn_01 hv]
  congr 4
  funext a
  by_cases ha : a = j
  · subst ha; simp [upd, un_1]
  · simp [upd, un_1, ha]
theorem ow_sI (hX : ox X V rm cc nL own Ts ret) {k i z j : Nat} {v : Int32} (hs : pv_sh V k = .inr (1, .int, z)) (hd : decode cc pc = .ok (.iastore, 1)) (hi : i < pv_bd V k) (hj : j < pv_ln V k) (kk : ow X V r u' (ui u k i j v) loc (pc + 1) st) : ow X V r u' u loc pc (.int v :: .int (nI j) :: .ref (pv_ad V k i) :: st) := by
  intro H locs ls h hH hS
  obtain ⟨σ, q0, hσ, hP, hD, hq, hset⟩ := ow_cell hX hi hH
  obtain ⟨t0, ht0⟩ := hX.2.2.1.2.2.1 k _ _ z hs
  have hln := hX.2.2.1.2.2.2 k
  rw [pv_c_1 hs] at hq
  refine va_iast hX.1.1 hX.1.2.1 hX.2.1.1 hP hD hS q0 t0 hq ht0 (vp_in_nI hj hln) hd (fun H1 locs1 hP1 hD1 hS1 => kk H1 locs1 ls h ?_ hS1)
  rw [hset] at hP1 hD1
  refine ⟨_, pv_new hX.2.2.1 hi hσ ?_ (fun _ _ q => pv_ui_ne q), hP1, hD1⟩
  rw [pv_c_1 hs, nI_clamp (by omega)]
  congr 4
  funext a
  by_cases ha : a = j
  · subst ha; simp [upd, ui_2]
  · simp [upd, ui_2, ha]
theorem ow_sL (hX : ox X V rm cc nL own Ts ret) {k i z j : Nat} {v : Int64} (hs : pv_sh V k = .inr (2, .long, z)) (hd : decode cc pc = .ok (.lastore, 1)) (hi : i < pv_bd V k) (hj : j < pv_ln V k) (kk : ow X V r u' (ul u k i j v) loc (pc + 1) st) : ow X V r u' u loc pc (.long v :: .int (nI j) :: .ref (pv_ad V k i) :: st) := by
  intro H locs ls h hH hS
  obtain ⟨σ, q0, hσ, hP, hD, hq, hset⟩ := ow_cell hX hi hH
  obtain ⟨t0, ht0⟩ := hX.2.2.1.2.2.1 k _ _ z hs
  have hln := hX.2.2.1.2.2.2 k
  rw [pv_c_2 hs] at hq
  refine va_last hX.1.1 hX.1.2.1 hX.2.1.1 hP hD hS q0 t0 hq ht0 (vp_in_nI hj hln) hd (fun H1 locs1 hP1 hD1 hS1 => kk H1 locs1 ls h ?_ hS1)
  rw [hset] at hP1 hD1
  refine ⟨_, pv_new hX.2.2.1 hi hσ ?_ (fun _ _ q => pv_ul_ne q), hP1, hD1⟩
  rw [pv_c_2 hs, nI_clamp (by omega)]
  congr 5
  funext a
  by_cases ha : a = j
  · subst ha; simp [vp_updL, ul_3]
  · simp [vp_updL, ul_3, ha]
/-! calls -/
theorem ow_blind (as : List Value) : FrameBlind (va_Pc as fun T => pv_H V u T.heap ∧ pv_K V T) :=
  fun a U g mk q => ⟨q.1, q.2.1, va_K.moved (u := U) (U := U.calling g mk a) (Vm.Alike.refl U.vm) q.2.2.1, va_Nw.same rfl rfl q.2.2.2⟩
theorem ow_back {r1 : Option Value} {u1 : UU} {H : Heap} {locs : List Loc} {ls : Array Slot} {rest : List Value} {a : Array Value} (h : lv_has ls X.2.2.2.maxLocals loc) (hS : va_S (pv_A V) X.2.1.1.heap H locs)
    (hr : va_Run X.1.1 X.1.2.1 X.1.2.2.1 X.1.2.2.2 X.2.1.1 X.2.1.2.1 X.2.1.2.2.1 X.2.1.2.2.2 X.2.2.1 X.2.2.2 H locs 0 0 0 0 (F0 X.2.1.2.1 pc ls st) rest (ow_Q V r1 u1 a) (pv_A V))
    (kk : ow X V r u' u1 loc (pc + 3) (r1.toList ++ rest)) : W X.1.1 X.1.2.1 X.1.2.2.1 X.1.2.2.2 X.2.1.1 X.2.1.2.1 X.2.1.2.2.1 X.2.1.2.2.2 X.2.2.1 X.2.2.2 H locs 0 0 (MQ X.2.1.2.2.2 (ow_Q V r u') X.2.1.2.2.1 X.2.1.1 0 0 (pv_A V)) (F0 X.2.1.2.1 pc ls st) := by
  intro T hT X0
  obtain ⟨v, st₀, t, T', L, h0, X', hL, e1, e2, ⟨⟨hv, hH1, hK1⟩, hz, hk⟩, hgo⟩ := hr T hT X0
  cases hv
  rw [h0] at hz hk
  obtain ⟨t2, a1, b1⟩ := kk T'.heap (locs ++ L) ls h (by rw [e1]; exact hH1) ⟨Nat.le_trans hS.1 (by rw [e1]; exact hz), fun q h1 h2 => by rw [e1, hk q (Nat.lt_of_lt_of_le h1 hS.1) h2]; exact hS.2.1 q h1 h2, fun q hq => by
    rcases List.mem_append.mp hq with h | h
    · exact hS.2.2 q h
    · exact hL q h⟩ T' rfl X'
  exact ⟨t2, hgo t2 a1, b1⟩
theorem ow_recv (hX : ox X V rm cc nL own Ts ret) {H : Heap} {k i ci N : Nat} {C : String} {T : u_T} {ts : List (Nat × Nat)} (hk : kd V Ts k ci N C T ts) (hi : i < pv_bd V k) (hH : pv_H V u H) : ∃ cellB : Cell, H[pv_ad V k i]? = some cellB ∧ cellB.vm.isStatics = false ∧ X.2.1.1.vm.findClass C = some cellB.cls := by
  obtain ⟨σ, q0, hσ, hP, hD, hq, -⟩ := ow_cell hX hi hH
  rw [pv_c_o hk.1] at hq
  obtain ⟨rr, h1, cell, q1, q2, q3, -⟩ := hP q0 _ hq
  exact ⟨cell, q1, by rw [q3]; rfl, by rw [q2]; exact (hX.2.1.1.1 ci _ hk.2.1).2.1⟩
variable {y : MethodName} {bytes : ByteArray} {maxL n index : Nat} {ret1 : Option FieldType} {ws1 : List Cond} {rm1 : Room} {As rest : List Value} {r1 : Option Value} {u1 : UU}
theorem ow_callV (hX : ox X V rm cc nL own Ts ret) {k i ci N : Nat} {C : String} {T : u_T} {ts : List (Nat × Nat)} (hk : kd V Ts k ci N C T ts) (hi : i < pv_bd V k) (hM : Ct X.1.2.1 V y ws1 rm1 (.ref (pv_ad V k i) :: As) u r1 u1) (cw : CallW X.1.2.2.2 X.2.1.1 X.2.1.2.2.1 own C index y bytes maxL ret1 ws1 rm1 0 0 n) (hn : As.length = n) (hst : (rest.map fun v => v.category).sum ≤ 8) (hd : decode cc pc = .ok (.invokevirtual index, 3)) (he : st = As.reverse ++ .ref (pv_ad V k i) :: rest)
    (kk : ow X V r u' u1 loc (pc + 3) (r1.toList ++ rest)) : ow X V r u' u loc pc st := by
  intro H locs ls h hH hS
  subst he
  exact ow_back h hS (va_runV hX.1 hM cw ⟨ow_blind _, ow_recv hX hk hi hH, fun U hU hW => ⟨rfl, by rw [hU]; exact hH, hX.2.1.moved hW⟩⟩ rfl hn (h.1.trans hX.1.2.2.1) rfl (lv_room hst) hd ⟨Nat.zero_le _, Nat.zero_le _⟩) kk
theorem ow_callS (hX : ox X V rm cc nL own Ts ret) (hM : Ct X.1.2.1 V y ws1 rm1 As u r1 u1) (cw : CallB X.1.2.2.2 X.2.1.1 X.2.1.2.2.1 own index y bytes maxL ret1 ws1 rm1 0 0 n ∧ (Cond.static y).before X.2.1.2.2.1 X.2.1.1 = true) (hn : As.length = n) (hst : (rest.map fun v => v.category).sum ≤ 8) (hd : decode cc pc = .ok (.invokestatic index, 3)) (he : st = As.reverse ++ rest)
    (kk : ow X V r u' u1 loc (pc + 3) (r1.toList ++ rest)) : ow X V r u' u loc pc st := by
  intro H locs ls h hH hS
  subst he
  exact ow_back h hS (va_runS hX.1 hM cw ⟨ow_blind _, fun U hU hW => ⟨rfl, by rw [hU]; exact hH, hX.2.1.moved hW⟩⟩ rfl hn (h.1.trans hX.1.2.2.1) rfl (lv_room hst) hd ⟨Nat.zero_le _, Nat.zero_le _⟩) kk
theorem ow_callSN (hX : ox X V rm cc nL own Ts ret) {host : String} (hM : Ct X.1.2.1 V y ws1 rm1 As u r1 u1) (cw : va_CN X.1.2.2.2 X.2.1.1 X.2.1.2.2.1 own index y host bytes maxL ret1 ws1 rm1 0 0 n ∧ (Cond.static y).before X.2.1.2.2.1 X.2.1.1 = true ∧ True) (hn : As.length = n) (hst : (rest.map fun v => v.category).sum ≤ 8) (hd : decode cc pc = .ok (.invokestatic index, 3)) (he : st = As.reverse ++ rest)
    (kk : ow X V r u' u1 loc (pc + 3) (r1.toList ++ rest)) : ow X V r u' u loc pc st := by
  intro H locs ls h hH hS
  subst he
  exact ow_back h hS (va_runSN hX.1 hM cw ⟨ow_blind _, fun U hU hW => ⟨rfl, by rw [hU]; exact hH, hX.2.1.moved hW⟩⟩ rfl hn (h.1.trans hX.1.2.2.1) rfl (lv_room hst) hd ⟨Nat.zero_le _, Nat.zero_le _⟩) kk
/-! Math -/
theorem ow_max (hX : ox X V rm cc nL own Ts ret) {x z : Int32} (hd : decode cc pc = .ok (.invokestatic index, 3)) (h1 : Cond.methodLink own index Lib.Math.max.name ∈ Ts) (h2 : Cond.static Lib.Math.max.name ∈ Ts) (h3 : Cond.initialized "java/lang/Math" ∈ Ts) (h4 : Cond.code Lib.Math.max.name Lib.Math.max.code 2 (some .int) ∈ Ts) (hf : 1 ≤ rm.frames) (hlo : (st.map fun v => v.category).sum + 13 ≤ rm.locals)
    (kk : ow X V r u' u loc (pc + 3) (.int (if x < z then z else x) :: st)) : ow X V r u' u loc pc (.int z :: .int x :: st) :=
  fun H locs ls h hH hS => va_mmax hX.1.1 hX.1.2.1 h.1.symm hX.1.2.2.2.1 (hX.1.2.2.2.2 _ h1) (hX.1.2.2.2.2 _ h2) (hX.1.2.2.2.2 _ h3) (hX.1.2.2.2.2 _ h4) (by rw [hX.2.2.2.2.2]; exact hf) (by rw [hX.2.2.2.2.2]; exact hlo) (Nat.zero_le _) (Nat.zero_le _) hd (kk H locs ls h hH hS)
theorem ow_min (hX : ox X V rm cc nL own Ts ret) {x z : Int32} (hd : decode cc pc = .ok (.invokestatic index, 3)) (h1 : Cond.methodLink own index Lib.Math.min.name ∈ Ts) (h2 : Cond.static Lib.Math.min.name ∈ Ts) (h3 : Cond.initialized "java/lang/Math" ∈ Ts) (h4 : Cond.code Lib.Math.min.name Lib.Math.min.code 2 (some .int) ∈ Ts) (hf : 1 ≤ rm.frames) (hlo : (st.map fun v => v.category).sum + 13 ≤ rm.locals)
    (kk : ow X V r u' u loc (pc + 3) (.int (if z < x then z else x) :: st)) : ow X V r u' u loc pc (.int z :: .int x :: st) :=
  fun H locs ls h hH hS => va_mmin hX.1.1 hX.1.2.1 h.1.symm hX.1.2.2.2.1 (hX.1.2.2.2.2 _ h1) (hX.1.2.2.2.2 _ h2) (hX.1.2.2.2.2 _ h3) (hX.1.2.2.2.2 _ h4) (by rw [hX.2.2.2.2.2]; exact hf) (by rw [hX.2.2.2.2.2]; exact hlo) (Nat.zero_le _) (Nat.zero_le _) hd (kk H locs ls h hH hS)
theorem ow_abs (hX : ox X V rm cc nL own Ts ret) {x : Int32} (hd : decode cc pc = .ok (.invokestatic index, 3)) (h1 : Cond.methodLink own index Lib.Math.abs.name ∈ Ts) (h2 : Cond.static Lib.Math.abs.name ∈ Ts) (h3 : Cond.initialized "java/lang/Math" ∈ Ts) (h4 : Cond.code Lib.Math.abs.name Lib.Math.abs.code 1 (some .int) ∈ Ts) (hf : 1 ≤ rm.frames) (hlo : (st.map fun v => v.category).sum + 13 ≤ rm.locals)
    (kk : ow X V r u' u loc (pc + 3) (.int (if 0 ≤ x then x else 0 - x) :: st)) : ow X V r u' u loc pc (.int x :: st) :=
  fun H locs ls h hH hS => va_mabs hX.1.1 hX.1.2.1 h.1.symm hX.1.2.2.2.1 (hX.1.2.2.2.2 _ h1) (hX.1.2.2.2.2 _ h2) (hX.1.2.2.2.2 _ h3) (hX.1.2.2.2.2 _ h4) (by rw [hX.2.2.2.2.2]; exact hf) (by rw [hX.2.2.2.2.2]; exact hlo) (Nat.zero_le _) (Nat.zero_le _) hd (kk H locs ls h hH hS)
end OW
/-! words and rooms -/
abbrev wz (y : MethodName) (cc : ByteArray) (nL : Nat) (ret : Option FieldType) : List Cond := Cond.code y cc nL ret :: gz
abbrev rd (d : Nat) : Room := { frames := d, cells := 0, slots := 0, locals := 40 * d }
theorem gw_in {w : Cond} (h : w ∈ gz) : w ∈ gz ∧ ((w.onTables && w.keeps) = true ∨ ∃ ty, w = .arrayClass ty) := ⟨h, good_of_word (List.mem_filter.mp h).2⟩
theorem gw_code {y : MethodName} {cc : ByteArray} {nL : Nat} {ret : Option FieldType} (h : Cond.code y cc nL ret ∈ gz) : GoodIn gz (wz y cc nL ret) := fun w hw => by
  rcases List.mem_cons.mp hw with rfl | hw
  · exact gw_in h
  · exact gw_in hw
theorem ct_mk {l : Launch} {V : PV} {y : MethodName} {rm : Room} {as : List Value} {u : UU} {r : Option Value} {u' : UU} {cc : ByteArray} {nL : Nat} {ret : Option FieldType} (hV : pv_ok V) (hy : plainName y.cls = true) (hn : (lg_sl as).length ≤ nL)
    (walk : ∀ X : OX, ox X V rm cc nL y.cls gz ret → ow X V r u' u (lv_args 0 as) 0 []) : Ct l V y (wz y cc nL ret) rm as u r u' :=
  ct_of hV hy rfl hn (fun X hX => walk X ⟨⟨hX.1.1, hX.1.2.1, hX.1.2.2.1, hX.1.2.2.2.1, fun w hw => hX.1.2.2.2.2 w (List.mem_cons_of_mem _ hw)⟩, hX.2⟩)
/-- what a call of an instance method, of a static one, needs of the tables -/
def mv (C : String) (y : MethodName) (bytes : ByteArray) (maxL : Nat) (ret : Option FieldType) (n : Nat) : Prop := Cond.instanceMethod y ∈ gz ∧ Cond.selects C y y ∈ gz ∧ Cond.initialized C ∈ gz ∧ Cond.code y bytes maxL ret ∈ gz ∧ (y.cls = C ∧ y.cls ≠ "java/lang/invoke/MethodHandle" ∧ y.cls ≠ "java/lang/invoke/VarHandle" ∧ (parseMethodDescriptor y.desc).map (fun d => d.parameters.length) = some n)
def ms (y : MethodName) (bytes : ByteArray) (maxL : Nat) (ret : Option FieldType) (n : Nat) : Prop := Cond.static y ∈ gz ∧ Cond.initialized y.cls ∈ gz ∧ Cond.code y bytes maxL ret ∈ gz ∧ (y.cls ≠ "java/lang/invoke/MethodHandle" ∧ y.cls ≠ "java/lang/invoke/VarHandle" ∧ (parseMethodDescriptor y.desc).map (fun d => d.parameters.length) = some n)
section CW
variable {X : OX} {V : PV} {rm rm1 : Room} {cc bytes : ByteArray} {nL maxL index n : Nat} {own C : String} {ret ret1 : Option FieldType} {y : MethodName} {r r1 : Option Value} {u' u u1 : UU} {loc : List (Nat × Value)} {pc : Nat} {st As rest : List Value}
theorem cw_V (hX : ox X V rm cc nL own gz ret) (h : mv C y bytes maxL ret1 n) (hl : Cond.methodLink own index y ∈ gz) (hz : rm1.cells = 0 ∧ rm1.slots = 0) (hR : rm1.frames + 1 ≤ rm.frames ∧ 8 + (maxL + 11) + rm1.locals ≤ rm.locals) :
    CallW X.1.2.2.2 X.2.1.1 X.2.1.2.2.1 own C index y bytes maxL ret1 (wz y bytes maxL ret1) rm1 0 0 n := by
  rw [hX.2.2.2.2.2]
  refine cwV n hX.1.2.2.2.2 (fun w hw => ?_) rfl hz.1 hz.2 h.2.2.2.2 hR
  unfold wsV at hw
  rcases List.mem_append.mp hw with hw | hw
  · simp only [List.mem_cons, List.not_mem_nil, or_false] at hw
    rcases hw with rfl | rfl | rfl | rfl
    · exact gw_in hl
    · exact gw_in h.1
    · exact gw_in h.2.1
    · exact gw_in h.2.2.1
  · exact gw_code h.2.2.2.1 w hw
theorem cw_S (hX : ox X V rm cc nL own gz ret) (h : ms y bytes maxL ret1 n) (hl : Cond.methodLink own index y ∈ gz) (hz : rm1.cells = 0 ∧ rm1.slots = 0) (hR : rm1.frames + 1 ≤ rm.frames ∧ 8 + (maxL + 11) + rm1.locals ≤ rm.locals) :
    CallB X.1.2.2.2 X.2.1.1 X.2.1.2.2.1 own index y bytes maxL ret1 (wz y bytes maxL ret1) rm1 0 0 n ∧ (Cond.static y).before X.2.1.2.2.1 X.2.1.1 = true := by
  rw [hX.2.2.2.2.2]
  exact ⟨callB_of n hX.1.2.2.2.2 (gw_code h.2.2.1) rfl hz.1 hz.2 (hX.1.2.2.2.2 _ h.2.1) (hX.1.2.2.2.2 _ hl) h.2.2.2 hR, hX.1.2.2.2.2 _ h.1⟩
theorem cw_N (hX : ox X V rm cc nL "SlottedMesh$Loop" gz ret) (h : ms ⟨"SlottedMesh", "nearest", "(III)I"⟩ bytes maxL ret1 n) (hz : rm1.cells = 0 ∧ rm1.slots = 0) (hR : rm1.frames + 1 ≤ rm.frames ∧ 8 + (maxL + 11) + rm1.locals ≤ rm.locals) :
    va_CN X.1.2.2.2 X.2.1.1 X.2.1.2.2.1 "SlottedMesh$Loop" 29 ⟨"SlottedMesh", "nearest", "(III)I"⟩ "SlottedMesh" bytes maxL ret1 (wz ⟨"SlottedMesh", "nearest", "(III)I"⟩ bytes maxL ret1) rm1 0 0 n ∧ (Cond.static ⟨"SlottedMesh", "nearest", "(III)I"⟩).before X.2.1.2.2.1 X.2.1.1 = true ∧ True := by
  rw [hX.2.2.2.2.2]
  exact ⟨va_cnB n hX.1.2.2.2.2 (gw_code h.2.2.1) rfl hz.1 hz.2 hX.2.1.2 (hX.1.2.2.2.2 _ h.2.1) h.2.2.2 hR, hX.1.2.2.2.2 _ h.1, trivial⟩
end CW
end
