section
-- ===== PART A: goes FIRST, ahead of the names: the tables' words, and 'selects' of the private methods out of them =====
/-- a private method of a class that the tables say can be made, by its rows of tables_1 -/
def lw_okq (q : MethodName × Nat) : Prop := (q.1.cls ≠ "java/lang/invoke/MethodHandle" ∧ q.1.cls ≠ "java/lang/invoke/VarHandle") ∧ Cond.instantiable q.1.cls q.2 ∈ tables_1 ∧ Cond.privateMethod q.1 ∈ tables_1 ∧ Cond.instanceMethod q.1 ∈ tables_1
theorem lw_p0 : lw_okq (⟨"SlottedMesh", "isNode", "(I)Z"⟩, 9) := ⟨⟨by decide +kernel, by decide +kernel⟩, List.mem_of_getElem? (i := 11) (by decide +kernel), List.mem_of_getElem? (i := 234) (by decide +kernel), List.mem_of_getElem? (i := 235) (by decide +kernel)⟩
theorem lw_p1 : lw_okq (⟨"SlottedMesh$Plan", "findRanks", "([LSlottedMesh$Node;)Z"⟩, 9) := ⟨⟨by decide +kernel, by decide +kernel⟩, List.mem_of_getElem? (i := 163) (by decide +kernel), List.mem_of_getElem? (i := 249) (by decide +kernel), List.mem_of_getElem? (i := 250) (by decide +kernel)⟩
theorem lw_p2 : lw_okq (⟨"SlottedMesh$Plan", "nextNearOfRank", "(LSlottedMesh$Node;II)I"⟩, 9) := ⟨⟨by decide +kernel, by decide +kernel⟩, List.mem_of_getElem? (i := 163) (by decide +kernel), List.mem_of_getElem? (i := 253) (by decide +kernel), List.mem_of_getElem? (i := 254) (by decide +kernel)⟩
theorem lw_p3 : lw_okq (⟨"SlottedMesh$Plan", "findParents", "([LSlottedMesh$Node;)V"⟩, 9) := ⟨⟨by decide +kernel, by decide +kernel⟩, List.mem_of_getElem? (i := 163) (by decide +kernel), List.mem_of_getElem? (i := 257) (by decide +kernel), List.mem_of_getElem? (i := 258) (by decide +kernel)⟩
theorem lw_p4 : lw_okq (⟨"SlottedMesh$Plan", "placeAdverts", "()Z"⟩, 9) := ⟨⟨by decide +kernel, by decide +kernel⟩, List.mem_of_getElem? (i := 163) (by decide +kernel), List.mem_of_getElem? (i := 261) (by decide +kernel), List.mem_of_getElem? (i := 262) (by decide +kernel)⟩
theorem lw_p5 : lw_okq (⟨"SlottedMesh$Plan", "placeAdvert", "(I)Z"⟩, 9) := ⟨⟨by decide +kernel, by decide +kernel⟩, List.mem_of_getElem? (i := 163) (by decide +kernel), List.mem_of_getElem? (i := 265) (by decide +kernel), List.mem_of_getElem? (i := 266) (by decide +kernel)⟩
theorem lw_p6 : lw_okq (⟨"SlottedMesh$Plan", "fillSlot", "(II)V"⟩, 9) := ⟨⟨by decide +kernel, by decide +kernel⟩, List.mem_of_getElem? (i := 163) (by decide +kernel), List.mem_of_getElem? (i := 273) (by decide +kernel), List.mem_of_getElem? (i := 274) (by decide +kernel)⟩
theorem lw_p7 : lw_okq (⟨"SlottedMesh$Plan", "placeLinks", "()Z"⟩, 9) := ⟨⟨by decide +kernel, by decide +kernel⟩, List.mem_of_getElem? (i := 163) (by decide +kernel), List.mem_of_getElem? (i := 277) (by decide +kernel), List.mem_of_getElem? (i := 278) (by decide +kernel)⟩
theorem lw_p8 : lw_okq (⟨"SlottedMesh$Plan", "placeLink", "(III)Z"⟩, 9) := ⟨⟨by decide +kernel, by decide +kernel⟩, List.mem_of_getElem? (i := 163) (by decide +kernel), List.mem_of_getElem? (i := 281) (by decide +kernel), List.mem_of_getElem? (i := 282) (by decide +kernel)⟩
theorem lw_p9 : lw_okq (⟨"SlottedMesh$Plan", "freeChannel", "(III)I"⟩, 9) := ⟨⟨by decide +kernel, by decide +kernel⟩, List.mem_of_getElem? (i := 163) (by decide +kernel), List.mem_of_getElem? (i := 285) (by decide +kernel), List.mem_of_getElem? (i := 286) (by decide +kernel)⟩
theorem lw_p10 : lw_okq (⟨"SlottedMesh", "isFieldNode", "(I)Z"⟩, 9) := ⟨⟨by decide +kernel, by decide +kernel⟩, List.mem_of_getElem? (i := 11) (by decide +kernel), List.mem_of_getElem? (i := 317) (by decide +kernel), List.mem_of_getElem? (i := 318) (by decide +kernel)⟩
theorem lw_p11 : lw_okq (⟨"SlottedMesh", "isChannel", "(I)Z"⟩, 9) := ⟨⟨by decide +kernel, by decide +kernel⟩, List.mem_of_getElem? (i := 11) (by decide +kernel), List.mem_of_getElem? (i := 337) (by decide +kernel), List.mem_of_getElem? (i := 338) (by decide +kernel)⟩
theorem lw_p12 : lw_okq (⟨"SlottedMesh", "driftClocks", "()V"⟩, 9) := ⟨⟨by decide +kernel, by decide +kernel⟩, List.mem_of_getElem? (i := 11) (by decide +kernel), List.mem_of_getElem? (i := 357) (by decide +kernel), List.mem_of_getElem? (i := 358) (by decide +kernel)⟩
theorem lw_p13 : lw_okq (⟨"SlottedMesh", "playCells", "(I)V"⟩, 9) := ⟨⟨by decide +kernel, by decide +kernel⟩, List.mem_of_getElem? (i := 11) (by decide +kernel), List.mem_of_getElem? (i := 364) (by decide +kernel), List.mem_of_getElem? (i := 365) (by decide +kernel)⟩
theorem lw_p14 : lw_okq (⟨"SlottedMesh", "advertise", "(LSlottedMesh$Node;LSlottedMesh$Channel;)V"⟩, 9) := ⟨⟨by decide +kernel, by decide +kernel⟩, List.mem_of_getElem? (i := 11) (by decide +kernel), List.mem_of_getElem? (i := 372) (by decide +kernel), List.mem_of_getElem? (i := 373) (by decide +kernel)⟩
theorem lw_p15 : lw_okq (⟨"SlottedMesh", "answerAdvert", "(LSlottedMesh$Node;LSlottedMesh$Node;)V"⟩, 9) := ⟨⟨by decide +kernel, by decide +kernel⟩, List.mem_of_getElem? (i := 11) (by decide +kernel), List.mem_of_getElem? (i := 384) (by decide +kernel), List.mem_of_getElem? (i := 385) (by decide +kernel)⟩
def lw_privs_1 : List (MethodName × Nat) := [(⟨"SlottedMesh", "isNode", "(I)Z"⟩, 9), (⟨"SlottedMesh$Plan", "findRanks", "([LSlottedMesh$Node;)Z"⟩, 9), (⟨"SlottedMesh$Plan", "nextNearOfRank", "(LSlottedMesh$Node;II)I"⟩, 9), (⟨"SlottedMesh$Plan", "findParents", "([LSlottedMesh$Node;)V"⟩, 9), (⟨"SlottedMesh$Plan", "placeAdverts", "()Z"⟩, 9), (⟨"SlottedMesh$Plan", "placeAdvert", "(I)Z"⟩, 9), (⟨"SlottedMesh$Plan", "fillSlot", "(II)V"⟩, 9), (⟨"SlottedMesh$Plan", "placeLinks", "()Z"⟩, 9), (⟨"SlottedMesh$Plan", "placeLink", "(III)Z"⟩, 9), (⟨"SlottedMesh$Plan", "freeChannel", "(III)I"⟩, 9), (⟨"SlottedMesh", "isFieldNode", "(I)Z"⟩, 9), (⟨"SlottedMesh", "isChannel", "(I)Z"⟩, 9), (⟨"SlottedMesh", "driftClocks", "()V"⟩, 9), (⟨"SlottedMesh", "playCells", "(I)V"⟩, 9), (⟨"SlottedMesh", "advertise", "(LSlottedMesh$Node;LSlottedMesh$Channel;)V"⟩, 9), (⟨"SlottedMesh", "answerAdvert", "(LSlottedMesh$Node;LSlottedMesh$Node;)V"⟩, 9)]
theorem lw_r1 : ∀ q ∈ lw_privs_1, lw_okq q := List.forall_mem_cons.mpr ⟨lw_p0, List.forall_mem_cons.mpr ⟨lw_p1, List.forall_mem_cons.mpr ⟨lw_p2, List.forall_mem_cons.mpr ⟨lw_p3, List.forall_mem_cons.mpr ⟨lw_p4, List.forall_mem_cons.mpr ⟨lw_p5, List.forall_mem_cons.mpr ⟨lw_p6, List.forall_mem_cons.mpr ⟨lw_p7, List.forall_mem_cons.mpr ⟨lw_p8, List.forall_mem_cons.mpr ⟨lw_p9, List.forall_mem_cons.mpr ⟨lw_p10, List.forall_mem_cons.mpr ⟨lw_p11, List.forall_mem_cons.mpr ⟨lw_p12, List.forall_mem_cons.mpr ⟨lw_p13, List.forall_mem_cons.mpr ⟨lw_p14, List.forall_mem_cons.mpr ⟨lw_p15, fun _ h => absurd h List.not_mem_nil⟩⟩⟩⟩⟩⟩⟩⟩⟩⟩⟩⟩⟩⟩⟩⟩
theorem lw_p16 : lw_okq (⟨"SlottedMesh", "sendUp", "(LSlottedMesh$Node;LSlottedMesh$Node;LSlottedMesh$Channel;)V"⟩, 9) := ⟨⟨by decide +kernel, by decide +kernel⟩, List.mem_of_getElem? (i := 11) (by decide +kernel), List.mem_of_getElem? (i := 395) (by decide +kernel), List.mem_of_getElem? (i := 396) (by decide +kernel)⟩
theorem lw_p17 : lw_okq (⟨"SlottedMesh", "hears", "(LSlottedMesh$Node;LSlottedMesh$Node;LSlottedMesh$Channel;)Z"⟩, 9) := ⟨⟨by decide +kernel, by decide +kernel⟩, List.mem_of_getElem? (i := 11) (by decide +kernel), List.mem_of_getElem? (i := 399) (by decide +kernel), List.mem_of_getElem? (i := 400) (by decide +kernel)⟩
theorem lw_p18 : lw_okq (⟨"SlottedMesh", "settleUp", "(LSlottedMesh$FrameRow;LSlottedMesh$Node;)Z"⟩, 9) := ⟨⟨by decide +kernel, by decide +kernel⟩, List.mem_of_getElem? (i := 11) (by decide +kernel), List.mem_of_getElem? (i := 403) (by decide +kernel), List.mem_of_getElem? (i := 404) (by decide +kernel)⟩
theorem lw_p19 : lw_okq (⟨"SlottedMesh", "cacheSample", "(III)V"⟩, 9) := ⟨⟨by decide +kernel, by decide +kernel⟩, List.mem_of_getElem? (i := 11) (by decide +kernel), List.mem_of_getElem? (i := 407) (by decide +kernel), List.mem_of_getElem? (i := 408) (by decide +kernel)⟩
theorem lw_p20 : lw_okq (⟨"SlottedMesh", "sendDown", "(LSlottedMesh$Node;LSlottedMesh$Node;LSlottedMesh$Channel;)V"⟩, 9) := ⟨⟨by decide +kernel, by decide +kernel⟩, List.mem_of_getElem? (i := 11) (by decide +kernel), List.mem_of_getElem? (i := 436) (by decide +kernel), List.mem_of_getElem? (i := 437) (by decide +kernel)⟩
theorem lw_p21 : lw_okq (⟨"SlottedMeshModel", "noNode", "(I)Z"⟩, 34) := ⟨⟨by decide +kernel, by decide +kernel⟩, List.mem_of_getElem? (i := 495) (by decide +kernel), List.mem_of_getElem? (i := 610) (by decide +kernel), List.mem_of_getElem? (i := 611) (by decide +kernel)⟩
theorem lw_p22 : lw_okq (⟨"SlottedMeshModel", "ranks", "()Z"⟩, 34) := ⟨⟨by decide +kernel, by decide +kernel⟩, List.mem_of_getElem? (i := 495) (by decide +kernel), List.mem_of_getElem? (i := 618) (by decide +kernel), List.mem_of_getElem? (i := 619) (by decide +kernel)⟩
theorem lw_p23 : lw_okq (⟨"SlottedMeshModel", "findParents", "()V"⟩, 34) := ⟨⟨by decide +kernel, by decide +kernel⟩, List.mem_of_getElem? (i := 495) (by decide +kernel), List.mem_of_getElem? (i := 622) (by decide +kernel), List.mem_of_getElem? (i := 623) (by decide +kernel)⟩
theorem lw_p24 : lw_okq (⟨"SlottedMeshModel", "placeAll", "()Z"⟩, 34) := ⟨⟨by decide +kernel, by decide +kernel⟩, List.mem_of_getElem? (i := 495) (by decide +kernel), List.mem_of_getElem? (i := 626) (by decide +kernel), List.mem_of_getElem? (i := 627) (by decide +kernel)⟩
theorem lw_p25 : lw_okq (⟨"SlottedMeshModel", "placeAdvert", "(I)Z"⟩, 34) := ⟨⟨by decide +kernel, by decide +kernel⟩, List.mem_of_getElem? (i := 495) (by decide +kernel), List.mem_of_getElem? (i := 630) (by decide +kernel), List.mem_of_getElem? (i := 631) (by decide +kernel)⟩
theorem lw_p26 : lw_okq (⟨"SlottedMeshModel", "place", "(I)Z"⟩, 34) := ⟨⟨by decide +kernel, by decide +kernel⟩, List.mem_of_getElem? (i := 495) (by decide +kernel), List.mem_of_getElem? (i := 634) (by decide +kernel), List.mem_of_getElem? (i := 635) (by decide +kernel)⟩
theorem lw_p27 : lw_okq (⟨"SlottedMeshModel", "add", "(IIII)V"⟩, 34) := ⟨⟨by decide +kernel, by decide +kernel⟩, List.mem_of_getElem? (i := 495) (by decide +kernel), List.mem_of_getElem? (i := 664) (by decide +kernel), List.mem_of_getElem? (i := 665) (by decide +kernel)⟩
theorem lw_p28 : lw_okq (⟨"SlottedMeshModel", "slot", "()V"⟩, 34) := ⟨⟨by decide +kernel, by decide +kernel⟩, List.mem_of_getElem? (i := 495) (by decide +kernel), List.mem_of_getElem? (i := 676) (by decide +kernel), List.mem_of_getElem? (i := 677) (by decide +kernel)⟩
theorem lw_p29 : lw_okq (⟨"SlottedMeshModel", "advert", "(I)V"⟩, 34) := ⟨⟨by decide +kernel, by decide +kernel⟩, List.mem_of_getElem? (i := 495) (by decide +kernel), List.mem_of_getElem? (i := 680) (by decide +kernel), List.mem_of_getElem? (i := 681) (by decide +kernel)⟩
theorem lw_p30 : lw_okq (⟨"SlottedMeshModel", "close", "(II)Z"⟩, 34) := ⟨⟨by decide +kernel, by decide +kernel⟩, List.mem_of_getElem? (i := 495) (by decide +kernel), List.mem_of_getElem? (i := 687) (by decide +kernel), List.mem_of_getElem? (i := 688) (by decide +kernel)⟩
theorem lw_p31 : lw_okq (⟨"SlottedMeshModel", "down", "(III)V"⟩, 34) := ⟨⟨by decide +kernel, by decide +kernel⟩, List.mem_of_getElem? (i := 495) (by decide +kernel), List.mem_of_getElem? (i := 691) (by decide +kernel), List.mem_of_getElem? (i := 692) (by decide +kernel)⟩
def lw_privs_2 : List (MethodName × Nat) := [(⟨"SlottedMesh", "sendUp", "(LSlottedMesh$Node;LSlottedMesh$Node;LSlottedMesh$Channel;)V"⟩, 9), (⟨"SlottedMesh", "hears", "(LSlottedMesh$Node;LSlottedMesh$Node;LSlottedMesh$Channel;)Z"⟩, 9), (⟨"SlottedMesh", "settleUp", "(LSlottedMesh$FrameRow;LSlottedMesh$Node;)Z"⟩, 9), (⟨"SlottedMesh", "cacheSample", "(III)V"⟩, 9), (⟨"SlottedMesh", "sendDown", "(LSlottedMesh$Node;LSlottedMesh$Node;LSlottedMesh$Channel;)V"⟩, 9), (⟨"SlottedMeshModel", "noNode", "(I)Z"⟩, 34), (⟨"SlottedMeshModel", "ranks", "()Z"⟩, 34), (⟨"SlottedMeshModel", "findParents", "()V"⟩, 34), (⟨"SlottedMeshModel", "placeAll", "()Z"⟩, 34), (⟨"SlottedMeshModel", "placeAdvert", "(I)Z"⟩, 34), (⟨"SlottedMeshModel", "place", "(I)Z"⟩, 34), (⟨"SlottedMeshModel", "add", "(IIII)V"⟩, 34), (⟨"SlottedMeshModel", "slot", "()V"⟩, 34), (⟨"SlottedMeshModel", "advert", "(I)V"⟩, 34), (⟨"SlottedMeshModel", "close", "(II)Z"⟩, 34), (⟨"SlottedMeshModel", "down", "(III)V"⟩, 34)]
theorem lw_r2 : ∀ q ∈ lw_privs_2, lw_okq q := List.forall_mem_cons.mpr ⟨lw_p16, List.forall_mem_cons.mpr ⟨lw_p17, List.forall_mem_cons.mpr ⟨lw_p18, List.forall_mem_cons.mpr ⟨lw_p19, List.forall_mem_cons.mpr ⟨lw_p20, List.forall_mem_cons.mpr ⟨lw_p21, List.forall_mem_cons.mpr ⟨lw_p22, List.forall_mem_cons.mpr ⟨lw_p23, List.forall_mem_cons.mpr ⟨lw_p24, List.forall_mem_cons.mpr ⟨lw_p25, List.forall_mem_cons.mpr ⟨lw_p26, List.forall_mem_cons.mpr ⟨lw_p27, List.forall_mem_cons.mpr ⟨lw_p28, List.forall_mem_cons.mpr ⟨lw_p29, List.forall_mem_cons.mpr ⟨lw_p30, List.forall_mem_cons.mpr ⟨lw_p31, fun _ h => absurd h List.not_mem_nil⟩⟩⟩⟩⟩⟩⟩⟩⟩⟩⟩⟩⟩⟩⟩⟩
theorem lw_p32 : lw_okq (⟨"SlottedMeshModel", "below", "(II)Z"⟩, 34) := ⟨⟨by decide +kernel, by decide +kernel⟩, List.mem_of_getElem? (i := 495) (by decide +kernel), List.mem_of_getElem? (i := 695) (by decide +kernel), List.mem_of_getElem? (i := 696) (by decide +kernel)⟩
theorem lw_p33 : lw_okq (⟨"SlottedMeshModel", "hears", "(III)Z"⟩, 34) := ⟨⟨by decide +kernel, by decide +kernel⟩, List.mem_of_getElem? (i := 495) (by decide +kernel), List.mem_of_getElem? (i := 699) (by decide +kernel), List.mem_of_getElem? (i := 700) (by decide +kernel)⟩
theorem lw_p34 : lw_okq (⟨"SlottedMeshModel", "leave", "(I)V"⟩, 34) := ⟨⟨by decide +kernel, by decide +kernel⟩, List.mem_of_getElem? (i := 495) (by decide +kernel), List.mem_of_getElem? (i := 703) (by decide +kernel), List.mem_of_getElem? (i := 704) (by decide +kernel)⟩
theorem lw_p35 : lw_okq (⟨"SlottedMeshModel", "up", "(III)V"⟩, 34) := ⟨⟨by decide +kernel, by decide +kernel⟩, List.mem_of_getElem? (i := 495) (by decide +kernel), List.mem_of_getElem? (i := 707) (by decide +kernel), List.mem_of_getElem? (i := 708) (by decide +kernel)⟩
theorem lw_p36 : lw_okq (⟨"SlottedMeshModel", "cache", "(III)V"⟩, 34) := ⟨⟨by decide +kernel, by decide +kernel⟩, List.mem_of_getElem? (i := 495) (by decide +kernel), List.mem_of_getElem? (i := 711) (by decide +kernel), List.mem_of_getElem? (i := 712) (by decide +kernel)⟩
def lw_privs_3 : List (MethodName × Nat) := [(⟨"SlottedMeshModel", "below", "(II)Z"⟩, 34), (⟨"SlottedMeshModel", "hears", "(III)Z"⟩, 34), (⟨"SlottedMeshModel", "leave", "(I)V"⟩, 34), (⟨"SlottedMeshModel", "up", "(III)V"⟩, 34), (⟨"SlottedMeshModel", "cache", "(III)V"⟩, 34)]
theorem lw_r3 : ∀ q ∈ lw_privs_3, lw_okq q := List.forall_mem_cons.mpr ⟨lw_p32, List.forall_mem_cons.mpr ⟨lw_p33, List.forall_mem_cons.mpr ⟨lw_p34, List.forall_mem_cons.mpr ⟨lw_p35, List.forall_mem_cons.mpr ⟨lw_p36, fun _ h => absurd h List.not_mem_nil⟩⟩⟩⟩⟩
def lw_privs : List (MethodName × Nat) := lw_privs_1 ++ (lw_privs_2 ++ (lw_privs_3))
def lw_tbl : List Cond := k2_sels lw_privs ++ tables_1
theorem lw_privs_ok : ∀ q ∈ lw_privs, lw_okq q := by
  show ∀ q ∈ lw_privs_1 ++ (lw_privs_2 ++ (lw_privs_3)), lw_okq q
  exact List.forall_mem_append.mpr ⟨lw_r1, List.forall_mem_append.mpr ⟨lw_r2, lw_r3⟩⟩
end
section
/-! names, by program (wip/whole/gen/names.py) out of the listing: R_ class, T_ its fields in the order of the slots, tp_ their types, b_ a method's code, y_ its name, kw_ a word among the tables', d_ an instruction -/
/-- the words that a caller may hand on -/
def gz : List Cond := lw_tbl.filter goodWord
theorem gz_t {w : Cond} (h : w ∈ tables_1) (g : goodWord w = true) : w ∈ gz := List.mem_filter.mpr ⟨List.mem_append_right _ h, g⟩
theorem gz_s {w : Cond} (h : w ∈ k2_sels lw_privs) (g : goodWord w = true) : w ∈ gz := List.mem_filter.mpr ⟨List.mem_append_left _ h, g⟩
def R_S : String := "SlottedMesh"
def R_N : String := "SlottedMesh$Node"
def R_F : String := "SlottedMesh$FrameRow"
def R_O : String := "SlottedMesh$Loop"
def R_H : String := "SlottedMesh$Channel"
def R_P : String := "SlottedMesh$Plan"
def R_M : String := "SlottedMeshModel"
def R_L : String := "SlottedMeshLaw"
def R_A : String := "java/util/Arrays"
def R_T : String := "java/lang/Math"
def R_B : String := "java/lang/Object"
def T_H : u_T := fun k => match k with
  | 0 => ("SlottedMesh$Channel", "frames", "J", false)
  | _ => ("SlottedMesh$Channel", "confirmations", "J", false)
def tp_H : Nat → FieldType := fun k => match k with
  | 0 => .long
  | _ => .long
theorem nm_H : ∀ a, a < 2 → ∀ b, b < 2 → a ≠ b → (T_H a).2.1 ≠ (T_H b).2.1 := by decide +kernel
theorem tp_H_ok : ∀ k, k < 2 → parseFieldDescriptor (T_H k).2.2.1 = some (tp_H k) := by decide +kernel
theorem tc_H : ∀ k, k < 2 → (T_H k).1 = R_H := by decide +kernel
theorem uw_H : ∀ w ∈ u_ws R_H T_H 2, w ∈ gz := fun w h => gz_t ((by decide +kernel : ∀ w ∈ u_ws R_H T_H 2, w ∈ tables_1) w h) ((by decide +kernel : ∀ w ∈ u_ws R_H T_H 2, goodWord w = true) w h)
def T_F : u_T := fun k => match k with
  | 0 => ("SlottedMesh$FrameRow", "ends", "[I", true)
  | 1 => ("SlottedMesh$FrameRow", "numbers", "[I", true)
  | 2 => ("SlottedMesh$FrameRow", "values", "[I", true)
  | _ => ("SlottedMesh$FrameRow", "size", "I", false)
def tp_F : Nat → FieldType := fun k => match k with
  | 0 => .array .int
  | 1 => .array .int
  | 2 => .array .int
  | _ => .int
theorem nm_F : ∀ a, a < 4 → ∀ b, b < 4 → a ≠ b → (T_F a).2.1 ≠ (T_F b).2.1 := by decide +kernel
theorem tp_F_ok : ∀ k, k < 4 → parseFieldDescriptor (T_F k).2.2.1 = some (tp_F k) := by decide +kernel
theorem tc_F : ∀ k, k < 4 → (T_F k).1 = R_F := by decide +kernel
theorem uw_F : ∀ w ∈ u_ws R_F T_F 4, w ∈ gz := fun w h => gz_t ((by decide +kernel : ∀ w ∈ u_ws R_F T_F 4, w ∈ tables_1) w h) ((by decide +kernel : ∀ w ∈ u_ws R_F T_F 4, goodWord w = true) w h)
def T_O : u_T := fun k => match k with
  | 0 => ("SlottedMesh$Loop", "newest", "[I", true)
  | 1 => ("SlottedMesh$Loop", "kept", "I", false)
  | 2 => ("SlottedMesh$Loop", "target", "I", false)
  | 3 => ("SlottedMesh$Loop", "p", "I", false)
  | 4 => ("SlottedMesh$Loop", "i", "I", false)
  | _ => ("SlottedMesh$Loop", "sum", "I", false)
def tp_O : Nat → FieldType := fun k => match k with
  | 0 => .array .int
  | 1 => .int
  | 2 => .int
  | 3 => .int
  | 4 => .int
  | _ => .int
theorem nm_O : ∀ a, a < 6 → ∀ b, b < 6 → a ≠ b → (T_O a).2.1 ≠ (T_O b).2.1 := by decide +kernel
theorem tp_O_ok : ∀ k, k < 6 → parseFieldDescriptor (T_O k).2.2.1 = some (tp_O k) := by decide +kernel
theorem tc_O : ∀ k, k < 6 → (T_O k).1 = R_O := by decide +kernel
theorem uw_O : ∀ w ∈ u_ws R_O T_O 6, w ∈ gz := fun w h => gz_t ((by decide +kernel : ∀ w ∈ u_ws R_O T_O 6, w ∈ tables_1) w h) ((by decide +kernel : ∀ w ∈ u_ws R_O T_O 6, goodWord w = true) w h)
def T_N : u_T := fun k => match k with
  | 0 => ("SlottedMesh$Node", "number", "I", true)
  | 1 => ("SlottedMesh$Node", "near", "[Z", true)
  | 2 => ("SlottedMesh$Node", "ups", "LSlottedMesh$FrameRow;", true)
  | 3 => ("SlottedMesh$Node", "downs", "LSlottedMesh$FrameRow;", true)
  | 4 => ("SlottedMesh$Node", "upsTaken", "[I", true)
  | 5 => ("SlottedMesh$Node", "downsTaken", "[I", true)
  | 6 => ("SlottedMesh$Node", "started", "Z", false)
  | 7 => ("SlottedMesh$Node", "current", "Z", false)
  | 8 => ("SlottedMesh$Node", "clock", "I", false)
  | 9 => ("SlottedMesh$Node", "clockDrift", "I", false)
  | 10 => ("SlottedMesh$Node", "fails", "I", false)
  | 11 => ("SlottedMesh$Node", "tries", "I", false)
  | 12 => ("SlottedMesh$Node", "samples", "I", false)
  | _ => ("SlottedMesh$Node", "actuatorValue", "I", false)
def tp_N : Nat → FieldType := fun k => match k with
  | 0 => .int
  | 1 => .array .boolean
  | 2 => .object "SlottedMesh$FrameRow"
  | 3 => .object "SlottedMesh$FrameRow"
  | 4 => .array .int
  | 5 => .array .int
  | 6 => .boolean
  | 7 => .boolean
  | 8 => .int
  | 9 => .int
  | 10 => .int
  | 11 => .int
  | 12 => .int
  | _ => .int
theorem nm_N : ∀ a, a < 14 → ∀ b, b < 14 → a ≠ b → (T_N a).2.1 ≠ (T_N b).2.1 := by decide +kernel
theorem tp_N_ok : ∀ k, k < 14 → parseFieldDescriptor (T_N k).2.2.1 = some (tp_N k) := by decide +kernel
theorem tc_N : ∀ k, k < 14 → (T_N k).1 = R_N := by decide +kernel
theorem uw_N : ∀ w ∈ u_ws R_N T_N 14, w ∈ gz := fun w h => gz_t ((by decide +kernel : ∀ w ∈ u_ws R_N T_N 14, w ∈ tables_1) w h) ((by decide +kernel : ∀ w ∈ u_ws R_N T_N 14, goodWord w = true) w h)
def T_P : u_T := fun k => match k with
  | 0 => ("SlottedMesh$Plan", "slots", "I", true)
  | 1 => ("SlottedMesh$Plan", "channels", "I", true)
  | 2 => ("SlottedMesh$Plan", "ranks", "[I", true)
  | 3 => ("SlottedMesh$Plan", "firsts", "[I", true)
  | 4 => ("SlottedMesh$Plan", "seconds", "[I", true)
  | 5 => ("SlottedMesh$Plan", "order", "[I", true)
  | 6 => ("SlottedMesh$Plan", "codes", "[I", true)
  | 7 => ("SlottedMesh$Plan", "size", "I", false)
  | _ => ("SlottedMesh$Plan", "made", "Z", false)
def tp_P : Nat → FieldType := fun k => match k with
  | 0 => .int
  | 1 => .int
  | 2 => .array .int
  | 3 => .array .int
  | 4 => .array .int
  | 5 => .array .int
  | 6 => .array .int
  | 7 => .int
  | _ => .boolean
theorem nm_P : ∀ a, a < 9 → ∀ b, b < 9 → a ≠ b → (T_P a).2.1 ≠ (T_P b).2.1 := by decide +kernel
theorem tp_P_ok : ∀ k, k < 9 → parseFieldDescriptor (T_P k).2.2.1 = some (tp_P k) := by decide +kernel
theorem tc_P : ∀ k, k < 9 → (T_P k).1 = R_P := by decide +kernel
theorem uw_P : ∀ w ∈ u_ws R_P T_P 9, w ∈ gz := fun w h => gz_t ((by decide +kernel : ∀ w ∈ u_ws R_P T_P 9, w ∈ tables_1) w h) ((by decide +kernel : ∀ w ∈ u_ws R_P T_P 9, goodWord w = true) w h)
def T_S : u_T := fun k => match k with
  | 0 => ("SlottedMesh", "slots", "I", true)
  | 1 => ("SlottedMesh", "channels", "I", true)
  | 2 => ("SlottedMesh", "nodes", "[LSlottedMesh$Node;", true)
  | 3 => ("SlottedMesh", "air", "[LSlottedMesh$Channel;", true)
  | 4 => ("SlottedMesh", "loops", "[LSlottedMesh$Loop;", true)
  | 5 => ("SlottedMesh", "active", "LSlottedMesh$Plan;", false)
  | 6 => ("SlottedMesh", "spare", "LSlottedMesh$Plan;", false)
  | 7 => ("SlottedMesh", "time", "I", false)
  | _ => ("SlottedMesh", "sentFrames", "I", false)
def tp_S : Nat → FieldType := fun k => match k with
  | 0 => .int
  | 1 => .int
  | 2 => .array (.object "SlottedMesh$Node")
  | 3 => .array (.object "SlottedMesh$Channel")
  | 4 => .array (.object "SlottedMesh$Loop")
  | 5 => .object "SlottedMesh$Plan"
  | 6 => .object "SlottedMesh$Plan"
  | 7 => .int
  | _ => .int
theorem nm_S : ∀ a, a < 9 → ∀ b, b < 9 → a ≠ b → (T_S a).2.1 ≠ (T_S b).2.1 := by decide +kernel
theorem tp_S_ok : ∀ k, k < 9 → parseFieldDescriptor (T_S k).2.2.1 = some (tp_S k) := by decide +kernel
theorem tc_S : ∀ k, k < 9 → (T_S k).1 = R_S := by decide +kernel
theorem uw_S : ∀ w ∈ u_ws R_S T_S 9, w ∈ gz := fun w h => gz_t ((by decide +kernel : ∀ w ∈ u_ws R_S T_S 9, w ∈ tables_1) w h) ((by decide +kernel : ∀ w ∈ u_ws R_S T_S 9, goodWord w = true) w h)
def T_M : u_T := fun k => match k with
  | 0 => ("SlottedMeshModel", "nodes", "I", true)
  | 1 => ("SlottedMeshModel", "slots", "I", true)
  | 2 => ("SlottedMeshModel", "channels", "I", true)
  | 3 => ("SlottedMeshModel", "time", "I", false)
  | 4 => ("SlottedMeshModel", "sends", "I", false)
  | 5 => ("SlottedMeshModel", "near", "[Z", true)
  | 6 => ("SlottedMeshModel", "started", "[Z", true)
  | 7 => ("SlottedMeshModel", "current", "[Z", true)
  | 8 => ("SlottedMeshModel", "offset", "[I", true)
  | 9 => ("SlottedMeshModel", "drift", "[I", true)
  | 10 => ("SlottedMeshModel", "heard", "[J", true)
  | 11 => ("SlottedMeshModel", "confirmed", "[J", true)
  | 12 => ("SlottedMeshModel", "planned", "Z", false)
  | 13 => ("SlottedMeshModel", "rank", "[I", true)
  | 14 => ("SlottedMeshModel", "parents", "[I", true)
  | 15 => ("SlottedMeshModel", "cells", "[I", true)
  | 16 => ("SlottedMeshModel", "newRank", "[I", true)
  | 17 => ("SlottedMeshModel", "newParents", "[I", true)
  | 18 => ("SlottedMeshModel", "newCells", "[I", true)
  | 19 => ("SlottedMeshModel", "many", "[I", true)
  | 20 => ("SlottedMeshModel", "end", "[I", true)
  | 21 => ("SlottedMeshModel", "number", "[I", true)
  | 22 => ("SlottedMeshModel", "value", "[I", true)
  | 23 => ("SlottedMeshModel", "fails", "[I", true)
  | 24 => ("SlottedMeshModel", "tries", "[I", true)
  | 25 => ("SlottedMeshModel", "took", "[I", true)
  | 26 => ("SlottedMeshModel", "counted", "[I", true)
  | 27 => ("SlottedMeshModel", "kept", "[I", true)
  | 28 => ("SlottedMeshModel", "keeps", "[I", true)
  | 29 => ("SlottedMeshModel", "target", "[I", true)
  | 30 => ("SlottedMeshModel", "ps", "[I", true)
  | 31 => ("SlottedMeshModel", "is", "[I", true)
  | 32 => ("SlottedMeshModel", "sum", "[I", true)
  | _ => ("SlottedMeshModel", "actuators", "[I", true)
def tp_M : Nat → FieldType := fun k => match k with
  | 0 => .int
  | 1 => .int
  | 2 => .int
  | 3 => .int
  | 4 => .int
  | 5 => .array .boolean
  | 6 => .array .boolean
  | 7 => .array .boolean
  | 8 => .array .int
  | 9 => .array .int
  | 10 => .array .long
  | 11 => .array .long
  | 12 => .boolean
  | 13 => .array .int
  | 14 => .array .int
  | 15 => .array .int
  | 16 => .array .int
  | 17 => .array .int
  | 18 => .array .int
  | 19 => .array .int
  | 20 => .array .int
  | 21 => .array .int
  | 22 => .array .int
  | 23 => .array .int
  | 24 => .array .int
  | 25 => .array .int
  | 26 => .array .int
  | 27 => .array .int
  | 28 => .array .int
  | 29 => .array .int
  | 30 => .array .int
  | 31 => .array .int
  | 32 => .array .int
  | _ => .array .int
theorem nm_M : ∀ a, a < 34 → ∀ b, b < 34 → a ≠ b → (T_M a).2.1 ≠ (T_M b).2.1 := by decide +kernel
theorem tp_M_ok : ∀ k, k < 34 → parseFieldDescriptor (T_M k).2.2.1 = some (tp_M k) := by decide +kernel
theorem tc_M : ∀ k, k < 34 → (T_M k).1 = R_M := by decide +kernel
theorem uw_M : ∀ w ∈ u_ws R_M T_M 34, w ∈ gz := fun w h => gz_t ((by decide +kernel : ∀ w ∈ u_ws R_M T_M 34, w ∈ tables_1) w h) ((by decide +kernel : ∀ w ∈ u_ws R_M T_M 34, goodWord w = true) w h)
abbrev vCl : List vw_C := [(R_H, T_H, 2), (R_F, T_F, 4), (R_O, T_O, 6), (R_N, T_N, 14), (R_P, T_P, 9), (R_S, T_S, 9), (R_M, T_M, 34)]
abbrev b_S_init : ByteArray := prog_1_method_1_code
def y_S_init : MethodName := ⟨"SlottedMesh", "<init>", "(III)V"⟩
abbrev b_S_pair : ByteArray := prog_1_method_2_code
def y_S_pair : MethodName := ⟨"SlottedMesh", "pair", "(IIZ)Z"⟩
abbrev b_S_plan : ByteArray := prog_1_method_3_code
def y_S_plan : MethodName := ⟨"SlottedMesh", "plan", "()I"⟩
abbrev b_S_start : ByteArray := prog_1_method_4_code
def y_S_start : MethodName := ⟨"SlottedMesh", "start", "(I)Z"⟩
abbrev b_S_stop : ByteArray := prog_1_method_5_code
def y_S_stop : MethodName := ⟨"SlottedMesh", "stop", "(I)Z"⟩
abbrev b_S_drift : ByteArray := prog_1_method_6_code
def y_S_drift : MethodName := ⟨"SlottedMesh", "drift", "(II)Z"⟩
abbrev b_S_radio : ByteArray := prog_1_method_7_code
def y_S_radio : MethodName := ⟨"SlottedMesh", "radio", "(IJJ)Z"⟩
abbrev b_S_sample : ByteArray := prog_1_method_8_code
def y_S_sample : MethodName := ⟨"SlottedMesh", "sample", "(II)I"⟩
abbrev b_S_control : ByteArray := prog_1_method_9_code
def y_S_control : MethodName := ⟨"SlottedMesh", "control", "(IIII)Z"⟩
abbrev b_S_run : ByteArray := prog_1_method_10_code
def y_S_run : MethodName := ⟨"SlottedMesh", "run", "(I)I"⟩
abbrev b_S_rank : ByteArray := prog_1_method_11_code
def y_S_rank : MethodName := ⟨"SlottedMesh", "rank", "(I)I"⟩
abbrev b_S_parent : ByteArray := prog_1_method_12_code
def y_S_parent : MethodName := ⟨"SlottedMesh", "parent", "(II)I"⟩
abbrev b_S_cell : ByteArray := prog_1_method_13_code
def y_S_cell : MethodName := ⟨"SlottedMesh", "cell", "(II)I"⟩
abbrev b_S_current : ByteArray := prog_1_method_14_code
def y_S_current : MethodName := ⟨"SlottedMesh", "current", "(I)Z"⟩
abbrev b_S_offset : ByteArray := prog_1_method_15_code
def y_S_offset : MethodName := ⟨"SlottedMesh", "offset", "(I)I"⟩
abbrev b_S_count : ByteArray := prog_1_method_16_code
def y_S_count : MethodName := ⟨"SlottedMesh", "count", "(II)I"⟩
abbrev b_S_cached : ByteArray := prog_1_method_17_code
def y_S_cached : MethodName := ⟨"SlottedMesh", "cached", "(II)I"⟩
abbrev b_S_latest : ByteArray := prog_1_method_18_code
def y_S_latest : MethodName := ⟨"SlottedMesh", "latest", "(I)I"⟩
abbrev b_S_actuator : ByteArray := prog_1_method_19_code
def y_S_actuator : MethodName := ⟨"SlottedMesh", "actuator", "(I)I"⟩
abbrev b_S_sent : ByteArray := prog_1_method_20_code
def y_S_sent : MethodName := ⟨"SlottedMesh", "sent", "()I"⟩
abbrev b_S_nearest : ByteArray := prog_1_method_21_code
def y_S_nearest : MethodName := ⟨"SlottedMesh", "nearest", "(III)I"⟩
abbrev b_S_isWithin : ByteArray := prog_1_method_22_code
def y_S_isWithin : MethodName := ⟨"SlottedMesh", "isWithin", "(III)Z"⟩
abbrev b_S_isNode : ByteArray := prog_1_method_23_code
def y_S_isNode : MethodName := ⟨"SlottedMesh", "isNode", "(I)Z"⟩
abbrev b_S_isFieldNode : ByteArray := prog_1_method_24_code
def y_S_isFieldNode : MethodName := ⟨"SlottedMesh", "isFieldNode", "(I)Z"⟩
abbrev b_S_isChannel : ByteArray := prog_1_method_25_code
def y_S_isChannel : MethodName := ⟨"SlottedMesh", "isChannel", "(I)Z"⟩
abbrev b_S_driftClocks : ByteArray := prog_1_method_26_code
def y_S_driftClocks : MethodName := ⟨"SlottedMesh", "driftClocks", "()V"⟩
abbrev b_S_playCells : ByteArray := prog_1_method_27_code
def y_S_playCells : MethodName := ⟨"SlottedMesh", "playCells", "(I)V"⟩
abbrev b_S_advertise : ByteArray := prog_1_method_28_code
def y_S_advertise : MethodName := ⟨"SlottedMesh", "advertise", "(LSlottedMesh$Node;LSlottedMesh$Channel;)V"⟩
abbrev b_S_answerAdvert : ByteArray := prog_1_method_29_code
def y_S_answerAdvert : MethodName := ⟨"SlottedMesh", "answerAdvert", "(LSlottedMesh$Node;LSlottedMesh$Node;)V"⟩
abbrev b_S_hears : ByteArray := prog_1_method_30_code
def y_S_hears : MethodName := ⟨"SlottedMesh", "hears", "(LSlottedMesh$Node;LSlottedMesh$Node;LSlottedMesh$Channel;)Z"⟩
abbrev b_S_sendUp : ByteArray := prog_1_method_31_code
def y_S_sendUp : MethodName := ⟨"SlottedMesh", "sendUp", "(LSlottedMesh$Node;LSlottedMesh$Node;LSlottedMesh$Channel;)V"⟩
abbrev b_S_settleUp : ByteArray := prog_1_method_32_code
def y_S_settleUp : MethodName := ⟨"SlottedMesh", "settleUp", "(LSlottedMesh$FrameRow;LSlottedMesh$Node;)Z"⟩
abbrev b_S_cacheSample : ByteArray := prog_1_method_33_code
def y_S_cacheSample : MethodName := ⟨"SlottedMesh", "cacheSample", "(III)V"⟩
abbrev b_S_sendDown : ByteArray := prog_1_method_34_code
def y_S_sendDown : MethodName := ⟨"SlottedMesh", "sendDown", "(LSlottedMesh$Node;LSlottedMesh$Node;LSlottedMesh$Channel;)V"⟩
abbrev b_S_settleDown : ByteArray := prog_1_method_35_code
def y_S_settleDown : MethodName := ⟨"SlottedMesh", "settleDown", "(LSlottedMesh$FrameRow;LSlottedMesh$Node;)Z"⟩
abbrev b_M_init : ByteArray := prog_8_method_1_code
def y_M_init : MethodName := ⟨"SlottedMeshModel", "<init>", "(III)V"⟩
abbrev b_M_noNode : ByteArray := prog_8_method_2_code
def y_M_noNode : MethodName := ⟨"SlottedMeshModel", "noNode", "(I)Z"⟩
abbrev b_M_pair : ByteArray := prog_8_method_3_code
def y_M_pair : MethodName := ⟨"SlottedMeshModel", "pair", "(IIZ)Z"⟩
abbrev b_M_ranks : ByteArray := prog_8_method_4_code
def y_M_ranks : MethodName := ⟨"SlottedMeshModel", "ranks", "()Z"⟩
abbrev b_M_findParents : ByteArray := prog_8_method_5_code
def y_M_findParents : MethodName := ⟨"SlottedMeshModel", "findParents", "()V"⟩
abbrev b_M_first : ByteArray := prog_8_method_6_code
def y_M_first : MethodName := ⟨"SlottedMeshModel", "first", "(I)I"⟩
abbrev b_M_second : ByteArray := prog_8_method_7_code
def y_M_second : MethodName := ⟨"SlottedMeshModel", "second", "(I)I"⟩
abbrev b_M_placeAdvert : ByteArray := prog_8_method_8_code
def y_M_placeAdvert : MethodName := ⟨"SlottedMeshModel", "placeAdvert", "(I)Z"⟩
abbrev b_M_place : ByteArray := prog_8_method_9_code
def y_M_place : MethodName := ⟨"SlottedMeshModel", "place", "(I)Z"⟩
abbrev b_M_placeAll : ByteArray := prog_8_method_10_code
def y_M_placeAll : MethodName := ⟨"SlottedMeshModel", "placeAll", "()Z"⟩
abbrev b_M_plan : ByteArray := prog_8_method_11_code
def y_M_plan : MethodName := ⟨"SlottedMeshModel", "plan", "()I"⟩
abbrev b_M_start : ByteArray := prog_8_method_12_code
def y_M_start : MethodName := ⟨"SlottedMeshModel", "start", "(I)Z"⟩
abbrev b_M_stop : ByteArray := prog_8_method_13_code
def y_M_stop : MethodName := ⟨"SlottedMeshModel", "stop", "(I)Z"⟩
abbrev b_M_drift : ByteArray := prog_8_method_14_code
def y_M_drift : MethodName := ⟨"SlottedMeshModel", "drift", "(II)Z"⟩
abbrev b_M_radio : ByteArray := prog_8_method_15_code
def y_M_radio : MethodName := ⟨"SlottedMeshModel", "radio", "(IJJ)Z"⟩
abbrev b_M_add : ByteArray := prog_8_method_16_code
def y_M_add : MethodName := ⟨"SlottedMeshModel", "add", "(IIII)V"⟩
abbrev b_M_leave : ByteArray := prog_8_method_17_code
def y_M_leave : MethodName := ⟨"SlottedMeshModel", "leave", "(I)V"⟩
abbrev b_M_sample : ByteArray := prog_8_method_18_code
def y_M_sample : MethodName := ⟨"SlottedMeshModel", "sample", "(II)I"⟩
abbrev b_M_control : ByteArray := prog_8_method_19_code
def y_M_control : MethodName := ⟨"SlottedMeshModel", "control", "(IIII)Z"⟩
abbrev b_M_within : ByteArray := prog_8_method_20_code
def y_M_within : MethodName := ⟨"SlottedMeshModel", "within", "(II)I"⟩
abbrev b_M_cache : ByteArray := prog_8_method_21_code
def y_M_cache : MethodName := ⟨"SlottedMeshModel", "cache", "(III)V"⟩
abbrev b_M_bit : ByteArray := prog_8_method_22_code
def y_M_bit : MethodName := ⟨"SlottedMeshModel", "bit", "(JI)Z"⟩
abbrev b_M_close : ByteArray := prog_8_method_23_code
def y_M_close : MethodName := ⟨"SlottedMeshModel", "close", "(II)Z"⟩
abbrev b_M_advert : ByteArray := prog_8_method_24_code
def y_M_advert : MethodName := ⟨"SlottedMeshModel", "advert", "(I)V"⟩
abbrev b_M_hears : ByteArray := prog_8_method_25_code
def y_M_hears : MethodName := ⟨"SlottedMeshModel", "hears", "(III)Z"⟩
abbrev b_M_up : ByteArray := prog_8_method_26_code
def y_M_up : MethodName := ⟨"SlottedMeshModel", "up", "(III)V"⟩
abbrev b_M_below : ByteArray := prog_8_method_27_code
def y_M_below : MethodName := ⟨"SlottedMeshModel", "below", "(II)Z"⟩
abbrev b_M_down : ByteArray := prog_8_method_28_code
def y_M_down : MethodName := ⟨"SlottedMeshModel", "down", "(III)V"⟩
abbrev b_M_slot : ByteArray := prog_8_method_29_code
def y_M_slot : MethodName := ⟨"SlottedMeshModel", "slot", "()V"⟩
abbrev b_M_run : ByteArray := prog_8_method_30_code
def y_M_run : MethodName := ⟨"SlottedMeshModel", "run", "(I)I"⟩
abbrev b_M_rank : ByteArray := prog_8_method_31_code
def y_M_rank : MethodName := ⟨"SlottedMeshModel", "rank", "(I)I"⟩
abbrev b_M_parent : ByteArray := prog_8_method_32_code
def y_M_parent : MethodName := ⟨"SlottedMeshModel", "parent", "(II)I"⟩
abbrev b_M_cell : ByteArray := prog_8_method_33_code
def y_M_cell : MethodName := ⟨"SlottedMeshModel", "cell", "(II)I"⟩
abbrev b_M_current : ByteArray := prog_8_method_34_code
def y_M_current : MethodName := ⟨"SlottedMeshModel", "current", "(I)Z"⟩
abbrev b_M_offset : ByteArray := prog_8_method_35_code
def y_M_offset : MethodName := ⟨"SlottedMeshModel", "offset", "(I)I"⟩
abbrev b_M_count : ByteArray := prog_8_method_36_code
def y_M_count : MethodName := ⟨"SlottedMeshModel", "count", "(II)I"⟩
abbrev b_M_cached : ByteArray := prog_8_method_37_code
def y_M_cached : MethodName := ⟨"SlottedMeshModel", "cached", "(II)I"⟩
abbrev b_M_latest : ByteArray := prog_8_method_38_code
def y_M_latest : MethodName := ⟨"SlottedMeshModel", "latest", "(I)I"⟩
abbrev b_M_actuator : ByteArray := prog_8_method_39_code
def y_M_actuator : MethodName := ⟨"SlottedMeshModel", "actuator", "(I)I"⟩
abbrev b_M_sent : ByteArray := prog_8_method_40_code
def y_M_sent : MethodName := ⟨"SlottedMeshModel", "sent", "()I"⟩
abbrev b_H_init : ByteArray := prog_2_method_1_code
def y_H_init : MethodName := ⟨"SlottedMesh$Channel", "<init>", "()V"⟩
abbrev b_H_carriesFrame : ByteArray := prog_2_method_2_code
def y_H_carriesFrame : MethodName := ⟨"SlottedMesh$Channel", "carriesFrame", "(I)Z"⟩
abbrev b_H_carriesConfirmation : ByteArray := prog_2_method_3_code
def y_H_carriesConfirmation : MethodName := ⟨"SlottedMesh$Channel", "carriesConfirmation", "(I)Z"⟩
abbrev b_H_bitAt : ByteArray := prog_2_method_4_code
def y_H_bitAt : MethodName := ⟨"SlottedMesh$Channel", "bitAt", "(JI)Z"⟩
abbrev b_F_init : ByteArray := prog_3_method_1_code
def y_F_init : MethodName := ⟨"SlottedMesh$FrameRow", "<init>", "()V"⟩
abbrev b_F_append : ByteArray := prog_3_method_2_code
def y_F_append : MethodName := ⟨"SlottedMesh$FrameRow", "append", "(III)Z"⟩
abbrev b_F_dropFirst : ByteArray := prog_3_method_3_code
def y_F_dropFirst : MethodName := ⟨"SlottedMesh$FrameRow", "dropFirst", "()V"⟩
abbrev b_F_clear : ByteArray := prog_3_method_4_code
def y_F_clear : MethodName := ⟨"SlottedMesh$FrameRow", "clear", "()V"⟩
abbrev b_O_init : ByteArray := prog_4_method_1_code
def y_O_init : MethodName := ⟨"SlottedMesh$Loop", "<init>", "()V"⟩
abbrev b_O_keep : ByteArray := prog_4_method_2_code
def y_O_keep : MethodName := ⟨"SlottedMesh$Loop", "keep", "(I)V"⟩
abbrev b_O_nextCommand : ByteArray := prog_4_method_3_code
def y_O_nextCommand : MethodName := ⟨"SlottedMesh$Loop", "nextCommand", "(I)I"⟩
abbrev b_N_init : ByteArray := prog_5_method_1_code
def y_N_init : MethodName := ⟨"SlottedMesh$Node", "<init>", "(II)V"⟩
abbrev b_N_enterPlan : ByteArray := prog_5_method_2_code
def y_N_enterPlan : MethodName := ⟨"SlottedMesh$Node", "enterPlan", "()V"⟩
abbrev b_N_switchOff : ByteArray := prog_5_method_3_code
def y_N_switchOff : MethodName := ⟨"SlottedMesh$Node", "switchOff", "()V"⟩
abbrev b_N_clockIsCloseTo : ByteArray := prog_5_method_4_code
def y_N_clockIsCloseTo : MethodName := ⟨"SlottedMesh$Node", "clockIsCloseTo", "(LSlottedMesh$Node;)Z"⟩
abbrev b_N_failUp : ByteArray := prog_5_method_5_code
def y_N_failUp : MethodName := ⟨"SlottedMesh$Node", "failUp", "()V"⟩
abbrev b_N_failDown : ByteArray := prog_5_method_6_code
def y_N_failDown : MethodName := ⟨"SlottedMesh$Node", "failDown", "()V"⟩
abbrev b_P_init : ByteArray := prog_6_method_1_code
def y_P_init : MethodName := ⟨"SlottedMesh$Plan", "<init>", "(III)V"⟩
abbrev b_P_kindOf : ByteArray := prog_6_method_2_code
def y_P_kindOf : MethodName := ⟨"SlottedMesh$Plan", "kindOf", "(I)I"⟩
abbrev b_P_fromOf : ByteArray := prog_6_method_3_code
def y_P_fromOf : MethodName := ⟨"SlottedMesh$Plan", "fromOf", "(I)I"⟩
abbrev b_P_toOf : ByteArray := prog_6_method_4_code
def y_P_toOf : MethodName := ⟨"SlottedMesh$Plan", "toOf", "(I)I"⟩
abbrev b_P_codeAt : ByteArray := prog_6_method_5_code
def y_P_codeAt : MethodName := ⟨"SlottedMesh$Plan", "codeAt", "(II)I"⟩
abbrev b_P_make : ByteArray := prog_6_method_6_code
def y_P_make : MethodName := ⟨"SlottedMesh$Plan", "make", "([LSlottedMesh$Node;)Z"⟩
abbrev b_P_leadsUp : ByteArray := prog_6_method_7_code
def y_P_leadsUp : MethodName := ⟨"SlottedMesh$Plan", "leadsUp", "(II)Z"⟩
abbrev b_P_findRanks : ByteArray := prog_6_method_8_code
def y_P_findRanks : MethodName := ⟨"SlottedMesh$Plan", "findRanks", "([LSlottedMesh$Node;)Z"⟩
abbrev b_P_findParents : ByteArray := prog_6_method_9_code
def y_P_findParents : MethodName := ⟨"SlottedMesh$Plan", "findParents", "([LSlottedMesh$Node;)V"⟩
abbrev b_P_nextNearOfRank : ByteArray := prog_6_method_10_code
def y_P_nextNearOfRank : MethodName := ⟨"SlottedMesh$Plan", "nextNearOfRank", "(LSlottedMesh$Node;II)I"⟩
abbrev b_P_placeAdverts : ByteArray := prog_6_method_11_code
def y_P_placeAdverts : MethodName := ⟨"SlottedMesh$Plan", "placeAdverts", "()Z"⟩
abbrev b_P_placeAdvert : ByteArray := prog_6_method_12_code
def y_P_placeAdvert : MethodName := ⟨"SlottedMesh$Plan", "placeAdvert", "(I)Z"⟩
abbrev b_P_fillSlot : ByteArray := prog_6_method_13_code
def y_P_fillSlot : MethodName := ⟨"SlottedMesh$Plan", "fillSlot", "(II)V"⟩
abbrev b_P_placeLinks : ByteArray := prog_6_method_14_code
def y_P_placeLinks : MethodName := ⟨"SlottedMesh$Plan", "placeLinks", "()Z"⟩
abbrev b_P_placeLink : ByteArray := prog_6_method_15_code
def y_P_placeLink : MethodName := ⟨"SlottedMesh$Plan", "placeLink", "(III)Z"⟩
abbrev b_P_freeChannel : ByteArray := prog_6_method_16_code
def y_P_freeChannel : MethodName := ⟨"SlottedMesh$Plan", "freeChannel", "(III)I"⟩
abbrev b_P_touches : ByteArray := prog_6_method_17_code
def y_P_touches : MethodName := ⟨"SlottedMesh$Plan", "touches", "(II)Z"⟩
abbrev b_L_cell : ByteArray := method_2_code
def y_L_cell : MethodName := ⟨"SlottedMeshLaw", "cell", "([II)I"⟩
abbrev b_L_law : ByteArray := code
def y_L_law : MethodName := ⟨"SlottedMeshLaw", "law", "([I)Z"⟩
abbrev b_B_init : ByteArray := object_method_1_code
def y_B_init : MethodName := ⟨"java/lang/Object", "<init>", "()V"⟩
abbrev b_T_abs : ByteArray := prog_9_method_59_code
def y_T_abs : MethodName := ⟨"java/lang/Math", "abs", "(I)I"⟩
abbrev b_T_floorDiv : ByteArray := prog_9_method_47_code
def y_T_floorDiv : MethodName := ⟨"java/lang/Math", "floorDiv", "(II)I"⟩
abbrev b_T_floorMod : ByteArray := prog_9_method_50_code
def y_T_floorMod : MethodName := ⟨"java/lang/Math", "floorMod", "(II)I"⟩
abbrev b_T_max : ByteArray := prog_9_method_65_code
def y_T_max : MethodName := ⟨"java/lang/Math", "max", "(II)I"⟩
abbrev b_T_min : ByteArray := prog_9_method_69_code
def y_T_min : MethodName := ⟨"java/lang/Math", "min", "(II)I"⟩
abbrev b_A_fill : ByteArray := prog_10_method_103_code
def y_A_fill : MethodName := ⟨"java/util/Arrays", "fill", "([II)V"⟩
end
section
theorem kw_0 : Cond.initialized "SlottedMeshLaw" ∈ gz := gz_t (List.mem_of_getElem? (i := 0) (by decide +kernel)) rfl
theorem kw_1 : Cond.initialized "SlottedMesh" ∈ gz := gz_t (List.mem_of_getElem? (i := 1) (by decide +kernel)) rfl
theorem kw_2 : Cond.initialized "java/lang/Math" ∈ gz := gz_t (List.mem_of_getElem? (i := 2) (by decide +kernel)) rfl
theorem kw_3 : Cond.initialized "SlottedMesh$Node" ∈ gz := gz_t (List.mem_of_getElem? (i := 3) (by decide +kernel)) rfl
theorem kw_4 : Cond.initialized "SlottedMesh$FrameRow" ∈ gz := gz_t (List.mem_of_getElem? (i := 4) (by decide +kernel)) rfl
theorem kw_5 : Cond.initialized "SlottedMesh$Loop" ∈ gz := gz_t (List.mem_of_getElem? (i := 5) (by decide +kernel)) rfl
theorem kw_6 : Cond.initialized "SlottedMesh$Channel" ∈ gz := gz_t (List.mem_of_getElem? (i := 6) (by decide +kernel)) rfl
theorem kw_7 : Cond.initialized "SlottedMesh$Plan" ∈ gz := gz_t (List.mem_of_getElem? (i := 7) (by decide +kernel)) rfl
theorem kw_8 : Cond.initialized "SlottedMeshModel" ∈ gz := gz_t (List.mem_of_getElem? (i := 8) (by decide +kernel)) rfl
theorem kw_9 : Cond.initialized "java/util/Arrays" ∈ gz := gz_t (List.mem_of_getElem? (i := 9) (by decide +kernel)) rfl
theorem kw_10 : Cond.classLink "SlottedMeshLaw" 7 "SlottedMesh" ∈ gz := gz_t (List.mem_of_getElem? (i := 10) (by decide +kernel)) rfl
theorem kw_11 : Cond.instantiable "SlottedMesh" 9 ∈ gz := gz_t (List.mem_of_getElem? (i := 11) (by decide +kernel)) rfl
theorem kw_12 : Cond.methodLink "SlottedMeshLaw" 15 ⟨"SlottedMesh", "<init>", "(III)V"⟩ ∈ gz := gz_t (List.mem_of_getElem? (i := 12) (by decide +kernel)) rfl
theorem kw_13 : Cond.instanceMethod ⟨"SlottedMesh", "<init>", "(III)V"⟩ ∈ gz := gz_t (List.mem_of_getElem? (i := 13) (by decide +kernel)) rfl
theorem kw_14 : Cond.code ⟨"SlottedMesh", "<init>", "(III)V"⟩ prog_1_method_1_code 6 none ∈ gz := gz_t (List.mem_of_getElem? (i := 14) (by decide +kernel)) rfl
theorem kw_15 : Cond.methodLink "SlottedMesh" 1 ⟨"java/lang/Object", "<init>", "()V"⟩ ∈ gz := gz_t (List.mem_of_getElem? (i := 15) (by decide +kernel)) rfl
theorem kw_16 : Cond.instanceMethod ⟨"java/lang/Object", "<init>", "()V"⟩ ∈ gz := gz_t (List.mem_of_getElem? (i := 16) (by decide +kernel)) rfl
theorem kw_17 : Cond.code ⟨"java/lang/Object", "<init>", "()V"⟩ object_method_1_code 1 none ∈ gz := gz_t (List.mem_of_getElem? (i := 17) (by decide +kernel)) rfl
theorem kw_18 : Cond.methodLink "SlottedMesh" 7 ⟨"SlottedMesh", "nearest", "(III)I"⟩ ∈ gz := gz_t (List.mem_of_getElem? (i := 18) (by decide +kernel)) rfl
theorem kw_19 : Cond.static ⟨"SlottedMesh", "nearest", "(III)I"⟩ ∈ gz := gz_t (List.mem_of_getElem? (i := 19) (by decide +kernel)) rfl
theorem kw_20 : Cond.code ⟨"SlottedMesh", "nearest", "(III)I"⟩ prog_1_method_21_code 3 (some .int) ∈ gz := gz_t (List.mem_of_getElem? (i := 20) (by decide +kernel)) rfl
theorem kw_21 : Cond.methodLink "SlottedMesh" 184 ⟨"java/lang/Math", "min", "(II)I"⟩ ∈ gz := gz_t (List.mem_of_getElem? (i := 21) (by decide +kernel)) rfl
theorem kw_22 : Cond.static ⟨"java/lang/Math", "min", "(II)I"⟩ ∈ gz := gz_t (List.mem_of_getElem? (i := 22) (by decide +kernel)) rfl
theorem kw_23 : Cond.code ⟨"java/lang/Math", "min", "(II)I"⟩ prog_9_method_69_code 2 (some .int) ∈ gz := gz_t (List.mem_of_getElem? (i := 23) (by decide +kernel)) rfl
theorem kw_24 : Cond.methodLink "SlottedMesh" 187 ⟨"java/lang/Math", "max", "(II)I"⟩ ∈ gz := gz_t (List.mem_of_getElem? (i := 24) (by decide +kernel)) rfl
theorem kw_25 : Cond.static ⟨"java/lang/Math", "max", "(II)I"⟩ ∈ gz := gz_t (List.mem_of_getElem? (i := 25) (by decide +kernel)) rfl
theorem kw_26 : Cond.code ⟨"java/lang/Math", "max", "(II)I"⟩ prog_9_method_65_code 2 (some .int) ∈ gz := gz_t (List.mem_of_getElem? (i := 26) (by decide +kernel)) rfl
theorem kw_27 : Cond.classLink "SlottedMesh" 20 "SlottedMesh$Node" ∈ gz := gz_t (List.mem_of_getElem? (i := 27) (by decide +kernel)) rfl
theorem kx_28 : Cond.arrayOver (.object "SlottedMesh$Node") ∈ lw_tbl := List.mem_append_right _ (List.mem_of_getElem? (i := 28) (by decide +kernel))
theorem kw_29 : Cond.classLink "SlottedMesh" 26 "SlottedMesh$Loop" ∈ gz := gz_t (List.mem_of_getElem? (i := 29) (by decide +kernel)) rfl
theorem kx_30 : Cond.arrayOver (.object "SlottedMesh$Loop") ∈ lw_tbl := List.mem_append_right _ (List.mem_of_getElem? (i := 30) (by decide +kernel))
theorem kw_31 : Cond.instantiable "SlottedMesh$Node" 14 ∈ gz := gz_t (List.mem_of_getElem? (i := 31) (by decide +kernel)) rfl
theorem kw_32 : Cond.methodLink "SlottedMesh" 32 ⟨"SlottedMesh$Node", "<init>", "(II)V"⟩ ∈ gz := gz_t (List.mem_of_getElem? (i := 32) (by decide +kernel)) rfl
theorem kw_33 : Cond.instanceMethod ⟨"SlottedMesh$Node", "<init>", "(II)V"⟩ ∈ gz := gz_t (List.mem_of_getElem? (i := 33) (by decide +kernel)) rfl
theorem kw_34 : Cond.code ⟨"SlottedMesh$Node", "<init>", "(II)V"⟩ prog_5_method_1_code 3 none ∈ gz := gz_t (List.mem_of_getElem? (i := 34) (by decide +kernel)) rfl
theorem kw_35 : Cond.methodLink "SlottedMesh$Node" 3 ⟨"java/lang/Object", "<init>", "()V"⟩ ∈ gz := gz_t (List.mem_of_getElem? (i := 35) (by decide +kernel)) rfl
theorem kw_36 : Cond.classLink "SlottedMesh$Node" 19 "SlottedMesh$FrameRow" ∈ gz := gz_t (List.mem_of_getElem? (i := 36) (by decide +kernel)) rfl
theorem kw_37 : Cond.instantiable "SlottedMesh$FrameRow" 4 ∈ gz := gz_t (List.mem_of_getElem? (i := 37) (by decide +kernel)) rfl
theorem kx_38 : Cond.methodLinkNest "SlottedMesh$Node" 21 ⟨"SlottedMesh$FrameRow", "<init>", "()V"⟩ "SlottedMesh" ∈ lw_tbl := List.mem_append_right _ (List.mem_of_getElem? (i := 38) (by decide +kernel))
theorem kw_39 : Cond.instanceMethod ⟨"SlottedMesh$FrameRow", "<init>", "()V"⟩ ∈ gz := gz_t (List.mem_of_getElem? (i := 39) (by decide +kernel)) rfl
theorem kw_40 : Cond.code ⟨"SlottedMesh$FrameRow", "<init>", "()V"⟩ prog_3_method_1_code 1 none ∈ gz := gz_t (List.mem_of_getElem? (i := 40) (by decide +kernel)) rfl
theorem kw_41 : Cond.methodLink "SlottedMesh$FrameRow" 1 ⟨"java/lang/Object", "<init>", "()V"⟩ ∈ gz := gz_t (List.mem_of_getElem? (i := 41) (by decide +kernel)) rfl
theorem kw_42 : Cond.fieldLink "SlottedMesh$FrameRow" 9 "SlottedMesh$FrameRow" "ends" "[I" ∈ gz := gz_t (List.mem_of_getElem? (i := 42) (by decide +kernel)) rfl
theorem kw_43 : Cond.fieldLink "SlottedMesh" 242 "SlottedMesh$FrameRow" "ends" "[I" ∈ gz := gz_t (List.mem_of_getElem? (i := 43) (by decide +kernel)) rfl
theorem kw_44 : Cond.fieldLink "SlottedMesh$FrameRow" 13 "SlottedMesh$FrameRow" "numbers" "[I" ∈ gz := gz_t (List.mem_of_getElem? (i := 44) (by decide +kernel)) rfl
theorem kw_45 : Cond.fieldLink "SlottedMesh" 245 "SlottedMesh$FrameRow" "numbers" "[I" ∈ gz := gz_t (List.mem_of_getElem? (i := 45) (by decide +kernel)) rfl
theorem kw_46 : Cond.fieldLink "SlottedMesh$FrameRow" 16 "SlottedMesh$FrameRow" "values" "[I" ∈ gz := gz_t (List.mem_of_getElem? (i := 46) (by decide +kernel)) rfl
theorem kw_47 : Cond.fieldLink "SlottedMesh" 248 "SlottedMesh$FrameRow" "values" "[I" ∈ gz := gz_t (List.mem_of_getElem? (i := 47) (by decide +kernel)) rfl
theorem kw_48 : Cond.fieldLink "SlottedMesh$FrameRow" 19 "SlottedMesh$FrameRow" "size" "I" ∈ gz := gz_t (List.mem_of_getElem? (i := 48) (by decide +kernel)) rfl
theorem kw_49 : Cond.fieldLink "SlottedMesh" 162 "SlottedMesh$FrameRow" "size" "I" ∈ gz := gz_t (List.mem_of_getElem? (i := 49) (by decide +kernel)) rfl
theorem kw_59 : Cond.arrayClass .boolean ∈ gz := gz_t (List.mem_of_getElem? (i := 59) (by decide +kernel)) rfl
theorem kw_60 : Cond.arrayClass .int ∈ gz := gz_t (List.mem_of_getElem? (i := 60) (by decide +kernel)) rfl
theorem kw_61 : Cond.fieldLink "SlottedMesh$Node" 9 "SlottedMesh$Node" "number" "I" ∈ gz := gz_t (List.mem_of_getElem? (i := 61) (by decide +kernel)) rfl
theorem kw_62 : Cond.fieldLink "SlottedMesh" 218 "SlottedMesh$Node" "number" "I" ∈ gz := gz_t (List.mem_of_getElem? (i := 62) (by decide +kernel)) rfl
theorem kw_63 : Cond.fieldLink "SlottedMesh$Node" 15 "SlottedMesh$Node" "near" "[Z" ∈ gz := gz_t (List.mem_of_getElem? (i := 63) (by decide +kernel)) rfl
theorem kw_64 : Cond.fieldLink "SlottedMesh" 65 "SlottedMesh$Node" "near" "[Z" ∈ gz := gz_t (List.mem_of_getElem? (i := 64) (by decide +kernel)) rfl
theorem kw_65 : Cond.fieldLink "SlottedMesh$Plan" 66 "SlottedMesh$Node" "near" "[Z" ∈ gz := gz_t (List.mem_of_getElem? (i := 65) (by decide +kernel)) rfl
theorem kw_66 : Cond.fieldLink "SlottedMesh$Node" 22 "SlottedMesh$Node" "ups" "LSlottedMesh$FrameRow;" ∈ gz := gz_t (List.mem_of_getElem? (i := 66) (by decide +kernel)) rfl
theorem kw_67 : Cond.fieldLink "SlottedMesh" 109 "SlottedMesh$Node" "ups" "LSlottedMesh$FrameRow;" ∈ gz := gz_t (List.mem_of_getElem? (i := 67) (by decide +kernel)) rfl
theorem kw_68 : Cond.fieldLink "SlottedMesh$Node" 26 "SlottedMesh$Node" "downs" "LSlottedMesh$FrameRow;" ∈ gz := gz_t (List.mem_of_getElem? (i := 68) (by decide +kernel)) rfl
theorem kw_69 : Cond.fieldLink "SlottedMesh" 163 "SlottedMesh$Node" "downs" "LSlottedMesh$FrameRow;" ∈ gz := gz_t (List.mem_of_getElem? (i := 69) (by decide +kernel)) rfl
theorem kw_70 : Cond.fieldLink "SlottedMesh$Node" 29 "SlottedMesh$Node" "upsTaken" "[I" ∈ gz := gz_t (List.mem_of_getElem? (i := 70) (by decide +kernel)) rfl
theorem kw_71 : Cond.fieldLink "SlottedMesh" 178 "SlottedMesh$Node" "upsTaken" "[I" ∈ gz := gz_t (List.mem_of_getElem? (i := 71) (by decide +kernel)) rfl
theorem kw_72 : Cond.fieldLink "SlottedMesh$Node" 33 "SlottedMesh$Node" "downsTaken" "[I" ∈ gz := gz_t (List.mem_of_getElem? (i := 72) (by decide +kernel)) rfl
theorem kw_73 : Cond.fieldLink "SlottedMesh" 270 "SlottedMesh$Node" "downsTaken" "[I" ∈ gz := gz_t (List.mem_of_getElem? (i := 73) (by decide +kernel)) rfl
theorem kw_74 : Cond.fieldLink "SlottedMesh$Node" 36 "SlottedMesh$Node" "started" "Z" ∈ gz := gz_t (List.mem_of_getElem? (i := 74) (by decide +kernel)) rfl
theorem kw_75 : Cond.fieldLink "SlottedMesh" 79 "SlottedMesh$Node" "started" "Z" ∈ gz := gz_t (List.mem_of_getElem? (i := 75) (by decide +kernel)) rfl
theorem kw_76 : Cond.fieldLink "SlottedMesh$Node" 40 "SlottedMesh$Node" "current" "Z" ∈ gz := gz_t (List.mem_of_getElem? (i := 76) (by decide +kernel)) rfl
theorem kw_77 : Cond.fieldLink "SlottedMesh" 83 "SlottedMesh$Node" "current" "Z" ∈ gz := gz_t (List.mem_of_getElem? (i := 77) (by decide +kernel)) rfl
theorem kw_78 : Cond.fieldLink "SlottedMesh$Node" 52 "SlottedMesh$Node" "clock" "I" ∈ gz := gz_t (List.mem_of_getElem? (i := 78) (by decide +kernel)) rfl
theorem kw_79 : Cond.fieldLink "SlottedMesh" 159 "SlottedMesh$Node" "clock" "I" ∈ gz := gz_t (List.mem_of_getElem? (i := 79) (by decide +kernel)) rfl
theorem kw_80 : Cond.fieldLink "SlottedMesh" 96 "SlottedMesh$Node" "clockDrift" "I" ∈ gz := gz_t (List.mem_of_getElem? (i := 80) (by decide +kernel)) rfl
theorem kw_81 : Cond.fieldLink "SlottedMesh$Node" 43 "SlottedMesh$Node" "fails" "I" ∈ gz := gz_t (List.mem_of_getElem? (i := 81) (by decide +kernel)) rfl
theorem kw_82 : Cond.fieldLink "SlottedMesh" 166 "SlottedMesh$Node" "fails" "I" ∈ gz := gz_t (List.mem_of_getElem? (i := 82) (by decide +kernel)) rfl
theorem kw_83 : Cond.fieldLink "SlottedMesh$Node" 46 "SlottedMesh$Node" "tries" "I" ∈ gz := gz_t (List.mem_of_getElem? (i := 83) (by decide +kernel)) rfl
theorem kw_84 : Cond.fieldLink "SlottedMesh" 169 "SlottedMesh$Node" "tries" "I" ∈ gz := gz_t (List.mem_of_getElem? (i := 84) (by decide +kernel)) rfl
theorem kw_85 : Cond.fieldLink "SlottedMesh" 113 "SlottedMesh$Node" "samples" "I" ∈ gz := gz_t (List.mem_of_getElem? (i := 85) (by decide +kernel)) rfl
theorem kw_86 : Cond.fieldLink "SlottedMesh" 181 "SlottedMesh$Node" "actuatorValue" "I" ∈ gz := gz_t (List.mem_of_getElem? (i := 86) (by decide +kernel)) rfl
theorem kw_116 : Cond.instantiable "SlottedMesh$Loop" 6 ∈ gz := gz_t (List.mem_of_getElem? (i := 116) (by decide +kernel)) rfl
theorem kx_117 : Cond.methodLinkNest "SlottedMesh" 35 ⟨"SlottedMesh$Loop", "<init>", "()V"⟩ "SlottedMesh" ∈ lw_tbl := List.mem_append_right _ (List.mem_of_getElem? (i := 117) (by decide +kernel))
theorem kw_118 : Cond.instanceMethod ⟨"SlottedMesh$Loop", "<init>", "()V"⟩ ∈ gz := gz_t (List.mem_of_getElem? (i := 118) (by decide +kernel)) rfl
theorem kw_119 : Cond.code ⟨"SlottedMesh$Loop", "<init>", "()V"⟩ prog_4_method_1_code 1 none ∈ gz := gz_t (List.mem_of_getElem? (i := 119) (by decide +kernel)) rfl
theorem kw_120 : Cond.methodLink "SlottedMesh$Loop" 1 ⟨"java/lang/Object", "<init>", "()V"⟩ ∈ gz := gz_t (List.mem_of_getElem? (i := 120) (by decide +kernel)) rfl
theorem kw_121 : Cond.fieldLink "SlottedMesh$Loop" 9 "SlottedMesh$Loop" "newest" "[I" ∈ gz := gz_t (List.mem_of_getElem? (i := 121) (by decide +kernel)) rfl
theorem kw_122 : Cond.fieldLink "SlottedMesh" 175 "SlottedMesh$Loop" "newest" "[I" ∈ gz := gz_t (List.mem_of_getElem? (i := 122) (by decide +kernel)) rfl
theorem kw_123 : Cond.fieldLink "SlottedMesh$Loop" 13 "SlottedMesh$Loop" "kept" "I" ∈ gz := gz_t (List.mem_of_getElem? (i := 123) (by decide +kernel)) rfl
theorem kw_124 : Cond.fieldLink "SlottedMesh" 172 "SlottedMesh$Loop" "kept" "I" ∈ gz := gz_t (List.mem_of_getElem? (i := 124) (by decide +kernel)) rfl
theorem kw_125 : Cond.fieldLink "SlottedMesh$Loop" 23 "SlottedMesh$Loop" "target" "I" ∈ gz := gz_t (List.mem_of_getElem? (i := 125) (by decide +kernel)) rfl
theorem kw_126 : Cond.fieldLink "SlottedMesh" 121 "SlottedMesh$Loop" "target" "I" ∈ gz := gz_t (List.mem_of_getElem? (i := 126) (by decide +kernel)) rfl
theorem kw_127 : Cond.fieldLink "SlottedMesh$Loop" 35 "SlottedMesh$Loop" "p" "I" ∈ gz := gz_t (List.mem_of_getElem? (i := 127) (by decide +kernel)) rfl
theorem kw_128 : Cond.fieldLink "SlottedMesh" 124 "SlottedMesh$Loop" "p" "I" ∈ gz := gz_t (List.mem_of_getElem? (i := 128) (by decide +kernel)) rfl
theorem kw_129 : Cond.fieldLink "SlottedMesh$Loop" 38 "SlottedMesh$Loop" "i" "I" ∈ gz := gz_t (List.mem_of_getElem? (i := 129) (by decide +kernel)) rfl
theorem kw_130 : Cond.fieldLink "SlottedMesh" 127 "SlottedMesh$Loop" "i" "I" ∈ gz := gz_t (List.mem_of_getElem? (i := 130) (by decide +kernel)) rfl
theorem kw_131 : Cond.fieldLink "SlottedMesh$Loop" 26 "SlottedMesh$Loop" "sum" "I" ∈ gz := gz_t (List.mem_of_getElem? (i := 131) (by decide +kernel)) rfl
theorem kw_145 : Cond.classLink "SlottedMesh" 36 "SlottedMesh$Channel" ∈ gz := gz_t (List.mem_of_getElem? (i := 145) (by decide +kernel)) rfl
theorem kx_146 : Cond.arrayOver (.object "SlottedMesh$Channel") ∈ lw_tbl := List.mem_append_right _ (List.mem_of_getElem? (i := 146) (by decide +kernel))
theorem kw_147 : Cond.instantiable "SlottedMesh$Channel" 2 ∈ gz := gz_t (List.mem_of_getElem? (i := 147) (by decide +kernel)) rfl
theorem kx_148 : Cond.methodLinkNest "SlottedMesh" 42 ⟨"SlottedMesh$Channel", "<init>", "()V"⟩ "SlottedMesh" ∈ lw_tbl := List.mem_append_right _ (List.mem_of_getElem? (i := 148) (by decide +kernel))
theorem kw_149 : Cond.instanceMethod ⟨"SlottedMesh$Channel", "<init>", "()V"⟩ ∈ gz := gz_t (List.mem_of_getElem? (i := 149) (by decide +kernel)) rfl
theorem kw_150 : Cond.code ⟨"SlottedMesh$Channel", "<init>", "()V"⟩ prog_2_method_1_code 1 none ∈ gz := gz_t (List.mem_of_getElem? (i := 150) (by decide +kernel)) rfl
theorem kw_151 : Cond.methodLink "SlottedMesh$Channel" 1 ⟨"java/lang/Object", "<init>", "()V"⟩ ∈ gz := gz_t (List.mem_of_getElem? (i := 151) (by decide +kernel)) rfl
theorem kw_152 : Cond.constantLong "SlottedMesh$Channel" 7 (-1) ∈ gz := gz_t (List.mem_of_getElem? (i := 152) (by decide +kernel)) rfl
theorem kw_153 : Cond.fieldLink "SlottedMesh$Channel" 9 "SlottedMesh$Channel" "frames" "J" ∈ gz := gz_t (List.mem_of_getElem? (i := 153) (by decide +kernel)) rfl
theorem kw_154 : Cond.fieldLink "SlottedMesh" 102 "SlottedMesh$Channel" "frames" "J" ∈ gz := gz_t (List.mem_of_getElem? (i := 154) (by decide +kernel)) rfl
theorem kw_155 : Cond.fieldLink "SlottedMesh$Channel" 15 "SlottedMesh$Channel" "confirmations" "J" ∈ gz := gz_t (List.mem_of_getElem? (i := 155) (by decide +kernel)) rfl
theorem kw_156 : Cond.fieldLink "SlottedMesh" 106 "SlottedMesh$Channel" "confirmations" "J" ∈ gz := gz_t (List.mem_of_getElem? (i := 156) (by decide +kernel)) rfl
theorem kw_162 : Cond.classLink "SlottedMesh" 43 "SlottedMesh$Plan" ∈ gz := gz_t (List.mem_of_getElem? (i := 162) (by decide +kernel)) rfl
theorem kw_163 : Cond.instantiable "SlottedMesh$Plan" 9 ∈ gz := gz_t (List.mem_of_getElem? (i := 163) (by decide +kernel)) rfl
theorem kw_164 : Cond.methodLink "SlottedMesh" 45 ⟨"SlottedMesh$Plan", "<init>", "(III)V"⟩ ∈ gz := gz_t (List.mem_of_getElem? (i := 164) (by decide +kernel)) rfl
theorem kw_165 : Cond.instanceMethod ⟨"SlottedMesh$Plan", "<init>", "(III)V"⟩ ∈ gz := gz_t (List.mem_of_getElem? (i := 165) (by decide +kernel)) rfl
theorem kw_166 : Cond.code ⟨"SlottedMesh$Plan", "<init>", "(III)V"⟩ prog_6_method_1_code 4 none ∈ gz := gz_t (List.mem_of_getElem? (i := 166) (by decide +kernel)) rfl
theorem kw_167 : Cond.methodLink "SlottedMesh$Plan" 3 ⟨"java/lang/Object", "<init>", "()V"⟩ ∈ gz := gz_t (List.mem_of_getElem? (i := 167) (by decide +kernel)) rfl
theorem kw_168 : Cond.fieldLink "SlottedMesh$Plan" 9 "SlottedMesh$Plan" "slots" "I" ∈ gz := gz_t (List.mem_of_getElem? (i := 168) (by decide +kernel)) rfl
theorem kw_169 : Cond.fieldLink "SlottedMesh$Plan" 15 "SlottedMesh$Plan" "channels" "I" ∈ gz := gz_t (List.mem_of_getElem? (i := 169) (by decide +kernel)) rfl
theorem kw_170 : Cond.fieldLink "SlottedMesh$Plan" 18 "SlottedMesh$Plan" "ranks" "[I" ∈ gz := gz_t (List.mem_of_getElem? (i := 170) (by decide +kernel)) rfl
theorem kw_171 : Cond.fieldLink "SlottedMesh" 146 "SlottedMesh$Plan" "ranks" "[I" ∈ gz := gz_t (List.mem_of_getElem? (i := 171) (by decide +kernel)) rfl
theorem kw_172 : Cond.fieldLink "SlottedMesh$Plan" 22 "SlottedMesh$Plan" "firsts" "[I" ∈ gz := gz_t (List.mem_of_getElem? (i := 172) (by decide +kernel)) rfl
theorem kw_173 : Cond.fieldLink "SlottedMesh" 150 "SlottedMesh$Plan" "firsts" "[I" ∈ gz := gz_t (List.mem_of_getElem? (i := 173) (by decide +kernel)) rfl
theorem kw_174 : Cond.fieldLink "SlottedMesh$Plan" 25 "SlottedMesh$Plan" "seconds" "[I" ∈ gz := gz_t (List.mem_of_getElem? (i := 174) (by decide +kernel)) rfl
theorem kw_175 : Cond.fieldLink "SlottedMesh" 153 "SlottedMesh$Plan" "seconds" "[I" ∈ gz := gz_t (List.mem_of_getElem? (i := 175) (by decide +kernel)) rfl
theorem kw_176 : Cond.fieldLink "SlottedMesh$Plan" 28 "SlottedMesh$Plan" "order" "[I" ∈ gz := gz_t (List.mem_of_getElem? (i := 176) (by decide +kernel)) rfl
theorem kw_177 : Cond.fieldLink "SlottedMesh$Plan" 31 "SlottedMesh$Plan" "codes" "[I" ∈ gz := gz_t (List.mem_of_getElem? (i := 177) (by decide +kernel)) rfl
theorem kw_178 : Cond.fieldLink "SlottedMesh" 76 "SlottedMesh$Plan" "size" "I" ∈ gz := gz_t (List.mem_of_getElem? (i := 178) (by decide +kernel)) rfl
theorem kw_179 : Cond.fieldLink "SlottedMesh$Plan" 38 "SlottedMesh$Plan" "size" "I" ∈ gz := gz_t (List.mem_of_getElem? (i := 179) (by decide +kernel)) rfl
theorem kw_180 : Cond.fieldLink "SlottedMesh$Plan" 34 "SlottedMesh$Plan" "made" "Z" ∈ gz := gz_t (List.mem_of_getElem? (i := 180) (by decide +kernel)) rfl
theorem kw_181 : Cond.fieldLink "SlottedMesh" 133 "SlottedMesh$Plan" "made" "Z" ∈ gz := gz_t (List.mem_of_getElem? (i := 181) (by decide +kernel)) rfl
theorem kw_201 : Cond.fieldLink "SlottedMesh" 13 "SlottedMesh" "slots" "I" ∈ gz := gz_t (List.mem_of_getElem? (i := 201) (by decide +kernel)) rfl
theorem kw_202 : Cond.fieldLink "SlottedMesh" 17 "SlottedMesh" "channels" "I" ∈ gz := gz_t (List.mem_of_getElem? (i := 202) (by decide +kernel)) rfl
theorem kw_203 : Cond.fieldLink "SlottedMesh" 22 "SlottedMesh" "nodes" "[LSlottedMesh$Node;" ∈ gz := gz_t (List.mem_of_getElem? (i := 203) (by decide +kernel)) rfl
theorem kw_204 : Cond.fieldLink "SlottedMesh" 38 "SlottedMesh" "air" "[LSlottedMesh$Channel;" ∈ gz := gz_t (List.mem_of_getElem? (i := 204) (by decide +kernel)) rfl
theorem kw_205 : Cond.fieldLink "SlottedMesh" 28 "SlottedMesh" "loops" "[LSlottedMesh$Loop;" ∈ gz := gz_t (List.mem_of_getElem? (i := 205) (by decide +kernel)) rfl
theorem kw_206 : Cond.fieldLink "SlottedMesh" 48 "SlottedMesh" "active" "LSlottedMesh$Plan;" ∈ gz := gz_t (List.mem_of_getElem? (i := 206) (by decide +kernel)) rfl
theorem kw_207 : Cond.fieldLink "SlottedMesh" 52 "SlottedMesh" "spare" "LSlottedMesh$Plan;" ∈ gz := gz_t (List.mem_of_getElem? (i := 207) (by decide +kernel)) rfl
theorem kw_208 : Cond.fieldLink "SlottedMesh" 55 "SlottedMesh" "time" "I" ∈ gz := gz_t (List.mem_of_getElem? (i := 208) (by decide +kernel)) rfl
theorem kw_209 : Cond.fieldLink "SlottedMesh" 58 "SlottedMesh" "sentFrames" "I" ∈ gz := gz_t (List.mem_of_getElem? (i := 209) (by decide +kernel)) rfl
theorem kw_229 : Cond.methodLink "SlottedMeshLaw" 21 ⟨"SlottedMesh", "pair", "(IIZ)Z"⟩ ∈ gz := gz_t (List.mem_of_getElem? (i := 229) (by decide +kernel)) rfl
theorem kw_230 : Cond.instanceMethod ⟨"SlottedMesh", "pair", "(IIZ)Z"⟩ ∈ gz := gz_t (List.mem_of_getElem? (i := 230) (by decide +kernel)) rfl
theorem kw_231 : Cond.selects "SlottedMesh" ⟨"SlottedMesh", "pair", "(IIZ)Z"⟩ ⟨"SlottedMesh", "pair", "(IIZ)Z"⟩ ∈ gz := gz_t (List.mem_of_getElem? (i := 231) (by decide +kernel)) rfl
theorem kw_232 : Cond.code ⟨"SlottedMesh", "pair", "(IIZ)Z"⟩ prog_1_method_2_code 4 (some .boolean) ∈ gz := gz_t (List.mem_of_getElem? (i := 232) (by decide +kernel)) rfl
theorem kw_233 : Cond.methodLink "SlottedMesh" 61 ⟨"SlottedMesh", "isNode", "(I)Z"⟩ ∈ gz := gz_t (List.mem_of_getElem? (i := 233) (by decide +kernel)) rfl
theorem kw_235 : Cond.instanceMethod ⟨"SlottedMesh", "isNode", "(I)Z"⟩ ∈ gz := gz_t (List.mem_of_getElem? (i := 235) (by decide +kernel)) rfl
theorem kw_236 : Cond.code ⟨"SlottedMesh", "isNode", "(I)Z"⟩ prog_1_method_23_code 2 (some .boolean) ∈ gz := gz_t (List.mem_of_getElem? (i := 236) (by decide +kernel)) rfl
theorem kw_237 : Cond.methodLink "SlottedMeshLaw" 26 ⟨"SlottedMesh", "plan", "()I"⟩ ∈ gz := gz_t (List.mem_of_getElem? (i := 237) (by decide +kernel)) rfl
theorem kw_238 : Cond.instanceMethod ⟨"SlottedMesh", "plan", "()I"⟩ ∈ gz := gz_t (List.mem_of_getElem? (i := 238) (by decide +kernel)) rfl
theorem kw_239 : Cond.selects "SlottedMesh" ⟨"SlottedMesh", "plan", "()I"⟩ ⟨"SlottedMesh", "plan", "()I"⟩ ∈ gz := gz_t (List.mem_of_getElem? (i := 239) (by decide +kernel)) rfl
theorem kw_240 : Cond.code ⟨"SlottedMesh", "plan", "()I"⟩ prog_1_method_3_code 3 (some .int) ∈ gz := gz_t (List.mem_of_getElem? (i := 240) (by decide +kernel)) rfl
theorem kw_241 : Cond.methodLink "SlottedMesh" 69 ⟨"SlottedMesh$Plan", "make", "([LSlottedMesh$Node;)Z"⟩ ∈ gz := gz_t (List.mem_of_getElem? (i := 241) (by decide +kernel)) rfl
theorem kw_242 : Cond.instanceMethod ⟨"SlottedMesh$Plan", "make", "([LSlottedMesh$Node;)Z"⟩ ∈ gz := gz_t (List.mem_of_getElem? (i := 242) (by decide +kernel)) rfl
theorem kw_243 : Cond.selects "SlottedMesh$Plan" ⟨"SlottedMesh$Plan", "make", "([LSlottedMesh$Node;)Z"⟩ ⟨"SlottedMesh$Plan", "make", "([LSlottedMesh$Node;)Z"⟩ ∈ gz := gz_t (List.mem_of_getElem? (i := 243) (by decide +kernel)) rfl
theorem kw_244 : Cond.code ⟨"SlottedMesh$Plan", "make", "([LSlottedMesh$Node;)Z"⟩ prog_6_method_6_code 2 (some .boolean) ∈ gz := gz_t (List.mem_of_getElem? (i := 244) (by decide +kernel)) rfl
theorem kw_245 : Cond.methodLink "SlottedMesh$Plan" 41 ⟨"java/util/Arrays", "fill", "([II)V"⟩ ∈ gz := gz_t (List.mem_of_getElem? (i := 245) (by decide +kernel)) rfl
theorem kw_246 : Cond.static ⟨"java/util/Arrays", "fill", "([II)V"⟩ ∈ gz := gz_t (List.mem_of_getElem? (i := 246) (by decide +kernel)) rfl
theorem kw_247 : Cond.code ⟨"java/util/Arrays", "fill", "([II)V"⟩ prog_10_method_103_code 4 none ∈ gz := gz_t (List.mem_of_getElem? (i := 247) (by decide +kernel)) rfl
theorem kw_248 : Cond.methodLink "SlottedMesh$Plan" 47 ⟨"SlottedMesh$Plan", "findRanks", "([LSlottedMesh$Node;)Z"⟩ ∈ gz := gz_t (List.mem_of_getElem? (i := 248) (by decide +kernel)) rfl
theorem kw_250 : Cond.instanceMethod ⟨"SlottedMesh$Plan", "findRanks", "([LSlottedMesh$Node;)Z"⟩ ∈ gz := gz_t (List.mem_of_getElem? (i := 250) (by decide +kernel)) rfl
theorem kw_251 : Cond.code ⟨"SlottedMesh$Plan", "findRanks", "([LSlottedMesh$Node;)Z"⟩ prog_6_method_8_code 5 (some .boolean) ∈ gz := gz_t (List.mem_of_getElem? (i := 251) (by decide +kernel)) rfl
theorem kw_252 : Cond.methodLink "SlottedMesh$Plan" 62 ⟨"SlottedMesh$Plan", "nextNearOfRank", "(LSlottedMesh$Node;II)I"⟩ ∈ gz := gz_t (List.mem_of_getElem? (i := 252) (by decide +kernel)) rfl
theorem kw_254 : Cond.instanceMethod ⟨"SlottedMesh$Plan", "nextNearOfRank", "(LSlottedMesh$Node;II)I"⟩ ∈ gz := gz_t (List.mem_of_getElem? (i := 254) (by decide +kernel)) rfl
theorem kw_255 : Cond.code ⟨"SlottedMesh$Plan", "nextNearOfRank", "(LSlottedMesh$Node;II)I"⟩ prog_6_method_10_code 5 (some .int) ∈ gz := gz_t (List.mem_of_getElem? (i := 255) (by decide +kernel)) rfl
theorem kw_256 : Cond.methodLink "SlottedMesh$Plan" 51 ⟨"SlottedMesh$Plan", "findParents", "([LSlottedMesh$Node;)V"⟩ ∈ gz := gz_t (List.mem_of_getElem? (i := 256) (by decide +kernel)) rfl
theorem kw_258 : Cond.instanceMethod ⟨"SlottedMesh$Plan", "findParents", "([LSlottedMesh$Node;)V"⟩ ∈ gz := gz_t (List.mem_of_getElem? (i := 258) (by decide +kernel)) rfl
theorem kw_259 : Cond.code ⟨"SlottedMesh$Plan", "findParents", "([LSlottedMesh$Node;)V"⟩ prog_6_method_9_code 3 none ∈ gz := gz_t (List.mem_of_getElem? (i := 259) (by decide +kernel)) rfl
theorem kw_260 : Cond.methodLink "SlottedMesh$Plan" 55 ⟨"SlottedMesh$Plan", "placeAdverts", "()Z"⟩ ∈ gz := gz_t (List.mem_of_getElem? (i := 260) (by decide +kernel)) rfl
theorem kw_262 : Cond.instanceMethod ⟨"SlottedMesh$Plan", "placeAdverts", "()Z"⟩ ∈ gz := gz_t (List.mem_of_getElem? (i := 262) (by decide +kernel)) rfl
theorem kw_263 : Cond.code ⟨"SlottedMesh$Plan", "placeAdverts", "()Z"⟩ prog_6_method_11_code 2 (some .boolean) ∈ gz := gz_t (List.mem_of_getElem? (i := 263) (by decide +kernel)) rfl
theorem kw_264 : Cond.methodLink "SlottedMesh$Plan" 72 ⟨"SlottedMesh$Plan", "placeAdvert", "(I)Z"⟩ ∈ gz := gz_t (List.mem_of_getElem? (i := 264) (by decide +kernel)) rfl
theorem kw_266 : Cond.instanceMethod ⟨"SlottedMesh$Plan", "placeAdvert", "(I)Z"⟩ ∈ gz := gz_t (List.mem_of_getElem? (i := 266) (by decide +kernel)) rfl
theorem kw_267 : Cond.code ⟨"SlottedMesh$Plan", "placeAdvert", "(I)Z"⟩ prog_6_method_12_code 3 (some .boolean) ∈ gz := gz_t (List.mem_of_getElem? (i := 267) (by decide +kernel)) rfl
theorem kw_268 : Cond.methodLink "SlottedMesh$Plan" 76 ⟨"SlottedMesh$Plan", "codeAt", "(II)I"⟩ ∈ gz := gz_t (List.mem_of_getElem? (i := 268) (by decide +kernel)) rfl
theorem kw_269 : Cond.instanceMethod ⟨"SlottedMesh$Plan", "codeAt", "(II)I"⟩ ∈ gz := gz_t (List.mem_of_getElem? (i := 269) (by decide +kernel)) rfl
theorem kw_270 : Cond.selects "SlottedMesh$Plan" ⟨"SlottedMesh$Plan", "codeAt", "(II)I"⟩ ⟨"SlottedMesh$Plan", "codeAt", "(II)I"⟩ ∈ gz := gz_t (List.mem_of_getElem? (i := 270) (by decide +kernel)) rfl
theorem kw_271 : Cond.code ⟨"SlottedMesh$Plan", "codeAt", "(II)I"⟩ prog_6_method_5_code 3 (some .int) ∈ gz := gz_t (List.mem_of_getElem? (i := 271) (by decide +kernel)) rfl
theorem kw_272 : Cond.methodLink "SlottedMesh$Plan" 80 ⟨"SlottedMesh$Plan", "fillSlot", "(II)V"⟩ ∈ gz := gz_t (List.mem_of_getElem? (i := 272) (by decide +kernel)) rfl
theorem kw_274 : Cond.instanceMethod ⟨"SlottedMesh$Plan", "fillSlot", "(II)V"⟩ ∈ gz := gz_t (List.mem_of_getElem? (i := 274) (by decide +kernel)) rfl
theorem kw_275 : Cond.code ⟨"SlottedMesh$Plan", "fillSlot", "(II)V"⟩ prog_6_method_13_code 4 none ∈ gz := gz_t (List.mem_of_getElem? (i := 275) (by decide +kernel)) rfl
theorem kw_276 : Cond.methodLink "SlottedMesh$Plan" 59 ⟨"SlottedMesh$Plan", "placeLinks", "()Z"⟩ ∈ gz := gz_t (List.mem_of_getElem? (i := 276) (by decide +kernel)) rfl
theorem kw_278 : Cond.instanceMethod ⟨"SlottedMesh$Plan", "placeLinks", "()Z"⟩ ∈ gz := gz_t (List.mem_of_getElem? (i := 278) (by decide +kernel)) rfl
theorem kw_279 : Cond.code ⟨"SlottedMesh$Plan", "placeLinks", "()Z"⟩ prog_6_method_14_code 6 (some .boolean) ∈ gz := gz_t (List.mem_of_getElem? (i := 279) (by decide +kernel)) rfl
theorem kw_280 : Cond.methodLink "SlottedMesh$Plan" 84 ⟨"SlottedMesh$Plan", "placeLink", "(III)Z"⟩ ∈ gz := gz_t (List.mem_of_getElem? (i := 280) (by decide +kernel)) rfl
theorem kw_282 : Cond.instanceMethod ⟨"SlottedMesh$Plan", "placeLink", "(III)Z"⟩ ∈ gz := gz_t (List.mem_of_getElem? (i := 282) (by decide +kernel)) rfl
theorem kw_283 : Cond.code ⟨"SlottedMesh$Plan", "placeLink", "(III)Z"⟩ prog_6_method_15_code 6 (some .boolean) ∈ gz := gz_t (List.mem_of_getElem? (i := 283) (by decide +kernel)) rfl
theorem kw_284 : Cond.methodLink "SlottedMesh$Plan" 88 ⟨"SlottedMesh$Plan", "freeChannel", "(III)I"⟩ ∈ gz := gz_t (List.mem_of_getElem? (i := 284) (by decide +kernel)) rfl
theorem kw_286 : Cond.instanceMethod ⟨"SlottedMesh$Plan", "freeChannel", "(III)I"⟩ ∈ gz := gz_t (List.mem_of_getElem? (i := 286) (by decide +kernel)) rfl
theorem kw_287 : Cond.code ⟨"SlottedMesh$Plan", "freeChannel", "(III)I"⟩ prog_6_method_16_code 6 (some .int) ∈ gz := gz_t (List.mem_of_getElem? (i := 287) (by decide +kernel)) rfl
theorem kw_288 : Cond.methodLink "SlottedMesh$Plan" 92 ⟨"SlottedMesh$Plan", "kindOf", "(I)I"⟩ ∈ gz := gz_t (List.mem_of_getElem? (i := 288) (by decide +kernel)) rfl
theorem kw_289 : Cond.static ⟨"SlottedMesh$Plan", "kindOf", "(I)I"⟩ ∈ gz := gz_t (List.mem_of_getElem? (i := 289) (by decide +kernel)) rfl
theorem kw_290 : Cond.code ⟨"SlottedMesh$Plan", "kindOf", "(I)I"⟩ prog_6_method_2_code 1 (some .int) ∈ gz := gz_t (List.mem_of_getElem? (i := 290) (by decide +kernel)) rfl
theorem kw_291 : Cond.methodLink "SlottedMesh$Plan" 96 ⟨"SlottedMesh$Plan", "touches", "(II)Z"⟩ ∈ gz := gz_t (List.mem_of_getElem? (i := 291) (by decide +kernel)) rfl
theorem kw_292 : Cond.static ⟨"SlottedMesh$Plan", "touches", "(II)Z"⟩ ∈ gz := gz_t (List.mem_of_getElem? (i := 292) (by decide +kernel)) rfl
theorem kw_293 : Cond.code ⟨"SlottedMesh$Plan", "touches", "(II)Z"⟩ prog_6_method_17_code 2 (some .boolean) ∈ gz := gz_t (List.mem_of_getElem? (i := 293) (by decide +kernel)) rfl
theorem kw_294 : Cond.methodLink "SlottedMesh$Plan" 100 ⟨"SlottedMesh$Plan", "fromOf", "(I)I"⟩ ∈ gz := gz_t (List.mem_of_getElem? (i := 294) (by decide +kernel)) rfl
theorem kw_295 : Cond.static ⟨"SlottedMesh$Plan", "fromOf", "(I)I"⟩ ∈ gz := gz_t (List.mem_of_getElem? (i := 295) (by decide +kernel)) rfl
theorem kw_296 : Cond.code ⟨"SlottedMesh$Plan", "fromOf", "(I)I"⟩ prog_6_method_3_code 1 (some .int) ∈ gz := gz_t (List.mem_of_getElem? (i := 296) (by decide +kernel)) rfl
theorem kw_297 : Cond.methodLink "SlottedMesh$Plan" 103 ⟨"SlottedMesh$Plan", "toOf", "(I)I"⟩ ∈ gz := gz_t (List.mem_of_getElem? (i := 297) (by decide +kernel)) rfl
theorem kw_298 : Cond.static ⟨"SlottedMesh$Plan", "toOf", "(I)I"⟩ ∈ gz := gz_t (List.mem_of_getElem? (i := 298) (by decide +kernel)) rfl
theorem kw_299 : Cond.code ⟨"SlottedMesh$Plan", "toOf", "(I)I"⟩ prog_6_method_4_code 1 (some .int) ∈ gz := gz_t (List.mem_of_getElem? (i := 299) (by decide +kernel)) rfl
theorem kw_300 : Cond.methodLink "SlottedMesh" 73 ⟨"SlottedMesh$Node", "enterPlan", "()V"⟩ ∈ gz := gz_t (List.mem_of_getElem? (i := 300) (by decide +kernel)) rfl
theorem kw_301 : Cond.instanceMethod ⟨"SlottedMesh$Node", "enterPlan", "()V"⟩ ∈ gz := gz_t (List.mem_of_getElem? (i := 301) (by decide +kernel)) rfl
theorem kw_302 : Cond.selects "SlottedMesh$Node" ⟨"SlottedMesh$Node", "enterPlan", "()V"⟩ ⟨"SlottedMesh$Node", "enterPlan", "()V"⟩ ∈ gz := gz_t (List.mem_of_getElem? (i := 302) (by decide +kernel)) rfl
theorem kw_303 : Cond.code ⟨"SlottedMesh$Node", "enterPlan", "()V"⟩ prog_5_method_2_code 1 none ∈ gz := gz_t (List.mem_of_getElem? (i := 303) (by decide +kernel)) rfl
theorem kw_304 : Cond.methodLink "SlottedMesh$Node" 49 ⟨"SlottedMesh$FrameRow", "clear", "()V"⟩ ∈ gz := gz_t (List.mem_of_getElem? (i := 304) (by decide +kernel)) rfl
theorem kw_305 : Cond.instanceMethod ⟨"SlottedMesh$FrameRow", "clear", "()V"⟩ ∈ gz := gz_t (List.mem_of_getElem? (i := 305) (by decide +kernel)) rfl
theorem kw_306 : Cond.selects "SlottedMesh$FrameRow" ⟨"SlottedMesh$FrameRow", "clear", "()V"⟩ ⟨"SlottedMesh$FrameRow", "clear", "()V"⟩ ∈ gz := gz_t (List.mem_of_getElem? (i := 306) (by decide +kernel)) rfl
theorem kw_307 : Cond.code ⟨"SlottedMesh$FrameRow", "clear", "()V"⟩ prog_3_method_4_code 1 none ∈ gz := gz_t (List.mem_of_getElem? (i := 307) (by decide +kernel)) rfl
theorem kw_308 : Cond.methodLink "SlottedMeshLaw" 31 ⟨"SlottedMesh", "start", "(I)Z"⟩ ∈ gz := gz_t (List.mem_of_getElem? (i := 308) (by decide +kernel)) rfl
theorem kw_309 : Cond.instanceMethod ⟨"SlottedMesh", "start", "(I)Z"⟩ ∈ gz := gz_t (List.mem_of_getElem? (i := 309) (by decide +kernel)) rfl
theorem kw_310 : Cond.selects "SlottedMesh" ⟨"SlottedMesh", "start", "(I)Z"⟩ ⟨"SlottedMesh", "start", "(I)Z"⟩ ∈ gz := gz_t (List.mem_of_getElem? (i := 310) (by decide +kernel)) rfl
theorem kw_311 : Cond.code ⟨"SlottedMesh", "start", "(I)Z"⟩ prog_1_method_4_code 2 (some .boolean) ∈ gz := gz_t (List.mem_of_getElem? (i := 311) (by decide +kernel)) rfl
theorem kw_312 : Cond.methodLink "SlottedMeshLaw" 36 ⟨"SlottedMesh", "stop", "(I)Z"⟩ ∈ gz := gz_t (List.mem_of_getElem? (i := 312) (by decide +kernel)) rfl
theorem kw_313 : Cond.instanceMethod ⟨"SlottedMesh", "stop", "(I)Z"⟩ ∈ gz := gz_t (List.mem_of_getElem? (i := 313) (by decide +kernel)) rfl
theorem kw_314 : Cond.selects "SlottedMesh" ⟨"SlottedMesh", "stop", "(I)Z"⟩ ⟨"SlottedMesh", "stop", "(I)Z"⟩ ∈ gz := gz_t (List.mem_of_getElem? (i := 314) (by decide +kernel)) rfl
theorem kw_315 : Cond.code ⟨"SlottedMesh", "stop", "(I)Z"⟩ prog_1_method_5_code 2 (some .boolean) ∈ gz := gz_t (List.mem_of_getElem? (i := 315) (by decide +kernel)) rfl
theorem kw_316 : Cond.methodLink "SlottedMesh" 86 ⟨"SlottedMesh", "isFieldNode", "(I)Z"⟩ ∈ gz := gz_t (List.mem_of_getElem? (i := 316) (by decide +kernel)) rfl
theorem kw_318 : Cond.instanceMethod ⟨"SlottedMesh", "isFieldNode", "(I)Z"⟩ ∈ gz := gz_t (List.mem_of_getElem? (i := 318) (by decide +kernel)) rfl
theorem kw_319 : Cond.code ⟨"SlottedMesh", "isFieldNode", "(I)Z"⟩ prog_1_method_24_code 2 (some .boolean) ∈ gz := gz_t (List.mem_of_getElem? (i := 319) (by decide +kernel)) rfl
theorem kw_320 : Cond.methodLink "SlottedMesh" 89 ⟨"SlottedMesh$Node", "switchOff", "()V"⟩ ∈ gz := gz_t (List.mem_of_getElem? (i := 320) (by decide +kernel)) rfl
theorem kw_321 : Cond.instanceMethod ⟨"SlottedMesh$Node", "switchOff", "()V"⟩ ∈ gz := gz_t (List.mem_of_getElem? (i := 321) (by decide +kernel)) rfl
theorem kw_322 : Cond.selects "SlottedMesh$Node" ⟨"SlottedMesh$Node", "switchOff", "()V"⟩ ⟨"SlottedMesh$Node", "switchOff", "()V"⟩ ∈ gz := gz_t (List.mem_of_getElem? (i := 322) (by decide +kernel)) rfl
theorem kw_323 : Cond.code ⟨"SlottedMesh$Node", "switchOff", "()V"⟩ prog_5_method_3_code 2 none ∈ gz := gz_t (List.mem_of_getElem? (i := 323) (by decide +kernel)) rfl
theorem kw_324 : Cond.methodLink "SlottedMesh$Node" 55 ⟨"java/util/Arrays", "fill", "([II)V"⟩ ∈ gz := gz_t (List.mem_of_getElem? (i := 324) (by decide +kernel)) rfl
theorem kw_325 : Cond.methodLink "SlottedMeshLaw" 40 ⟨"SlottedMesh", "drift", "(II)Z"⟩ ∈ gz := gz_t (List.mem_of_getElem? (i := 325) (by decide +kernel)) rfl
theorem kw_326 : Cond.instanceMethod ⟨"SlottedMesh", "drift", "(II)Z"⟩ ∈ gz := gz_t (List.mem_of_getElem? (i := 326) (by decide +kernel)) rfl
theorem kw_327 : Cond.selects "SlottedMesh" ⟨"SlottedMesh", "drift", "(II)Z"⟩ ⟨"SlottedMesh", "drift", "(II)Z"⟩ ∈ gz := gz_t (List.mem_of_getElem? (i := 327) (by decide +kernel)) rfl
theorem kw_328 : Cond.code ⟨"SlottedMesh", "drift", "(II)Z"⟩ prog_1_method_6_code 3 (some .boolean) ∈ gz := gz_t (List.mem_of_getElem? (i := 328) (by decide +kernel)) rfl
theorem kw_329 : Cond.methodLink "SlottedMesh" 92 ⟨"SlottedMesh", "isWithin", "(III)Z"⟩ ∈ gz := gz_t (List.mem_of_getElem? (i := 329) (by decide +kernel)) rfl
theorem kw_330 : Cond.static ⟨"SlottedMesh", "isWithin", "(III)Z"⟩ ∈ gz := gz_t (List.mem_of_getElem? (i := 330) (by decide +kernel)) rfl
theorem kw_331 : Cond.code ⟨"SlottedMesh", "isWithin", "(III)Z"⟩ prog_1_method_22_code 3 (some .boolean) ∈ gz := gz_t (List.mem_of_getElem? (i := 331) (by decide +kernel)) rfl
theorem kw_332 : Cond.methodLink "SlottedMeshLaw" 47 ⟨"SlottedMesh", "radio", "(IJJ)Z"⟩ ∈ gz := gz_t (List.mem_of_getElem? (i := 332) (by decide +kernel)) rfl
theorem kw_333 : Cond.instanceMethod ⟨"SlottedMesh", "radio", "(IJJ)Z"⟩ ∈ gz := gz_t (List.mem_of_getElem? (i := 333) (by decide +kernel)) rfl
theorem kw_334 : Cond.selects "SlottedMesh" ⟨"SlottedMesh", "radio", "(IJJ)Z"⟩ ⟨"SlottedMesh", "radio", "(IJJ)Z"⟩ ∈ gz := gz_t (List.mem_of_getElem? (i := 334) (by decide +kernel)) rfl
theorem kw_335 : Cond.code ⟨"SlottedMesh", "radio", "(IJJ)Z"⟩ prog_1_method_7_code 6 (some .boolean) ∈ gz := gz_t (List.mem_of_getElem? (i := 335) (by decide +kernel)) rfl
theorem kw_336 : Cond.methodLink "SlottedMesh" 99 ⟨"SlottedMesh", "isChannel", "(I)Z"⟩ ∈ gz := gz_t (List.mem_of_getElem? (i := 336) (by decide +kernel)) rfl
theorem kw_338 : Cond.instanceMethod ⟨"SlottedMesh", "isChannel", "(I)Z"⟩ ∈ gz := gz_t (List.mem_of_getElem? (i := 338) (by decide +kernel)) rfl
theorem kw_339 : Cond.code ⟨"SlottedMesh", "isChannel", "(I)Z"⟩ prog_1_method_25_code 2 (some .boolean) ∈ gz := gz_t (List.mem_of_getElem? (i := 339) (by decide +kernel)) rfl
theorem kw_340 : Cond.methodLink "SlottedMeshLaw" 52 ⟨"SlottedMesh", "sample", "(II)I"⟩ ∈ gz := gz_t (List.mem_of_getElem? (i := 340) (by decide +kernel)) rfl
theorem kw_341 : Cond.instanceMethod ⟨"SlottedMesh", "sample", "(II)I"⟩ ∈ gz := gz_t (List.mem_of_getElem? (i := 341) (by decide +kernel)) rfl
theorem kw_342 : Cond.selects "SlottedMesh" ⟨"SlottedMesh", "sample", "(II)I"⟩ ⟨"SlottedMesh", "sample", "(II)I"⟩ ∈ gz := gz_t (List.mem_of_getElem? (i := 342) (by decide +kernel)) rfl
theorem kw_343 : Cond.code ⟨"SlottedMesh", "sample", "(II)I"⟩ prog_1_method_8_code 4 (some .int) ∈ gz := gz_t (List.mem_of_getElem? (i := 343) (by decide +kernel)) rfl
theorem kw_344 : Cond.methodLink "SlottedMesh" 116 ⟨"SlottedMesh$FrameRow", "append", "(III)Z"⟩ ∈ gz := gz_t (List.mem_of_getElem? (i := 344) (by decide +kernel)) rfl
theorem kw_345 : Cond.instanceMethod ⟨"SlottedMesh$FrameRow", "append", "(III)Z"⟩ ∈ gz := gz_t (List.mem_of_getElem? (i := 345) (by decide +kernel)) rfl
theorem kw_346 : Cond.selects "SlottedMesh$FrameRow" ⟨"SlottedMesh$FrameRow", "append", "(III)Z"⟩ ⟨"SlottedMesh$FrameRow", "append", "(III)Z"⟩ ∈ gz := gz_t (List.mem_of_getElem? (i := 346) (by decide +kernel)) rfl
theorem kw_347 : Cond.code ⟨"SlottedMesh$FrameRow", "append", "(III)Z"⟩ prog_3_method_2_code 4 (some .boolean) ∈ gz := gz_t (List.mem_of_getElem? (i := 347) (by decide +kernel)) rfl
theorem kw_348 : Cond.methodLink "SlottedMeshLaw" 57 ⟨"SlottedMesh", "control", "(IIII)Z"⟩ ∈ gz := gz_t (List.mem_of_getElem? (i := 348) (by decide +kernel)) rfl
theorem kw_349 : Cond.instanceMethod ⟨"SlottedMesh", "control", "(IIII)Z"⟩ ∈ gz := gz_t (List.mem_of_getElem? (i := 349) (by decide +kernel)) rfl
theorem kw_350 : Cond.selects "SlottedMesh" ⟨"SlottedMesh", "control", "(IIII)Z"⟩ ⟨"SlottedMesh", "control", "(IIII)Z"⟩ ∈ gz := gz_t (List.mem_of_getElem? (i := 350) (by decide +kernel)) rfl
theorem kw_351 : Cond.code ⟨"SlottedMesh", "control", "(IIII)Z"⟩ prog_1_method_9_code 5 (some .boolean) ∈ gz := gz_t (List.mem_of_getElem? (i := 351) (by decide +kernel)) rfl
theorem kw_352 : Cond.methodLink "SlottedMeshLaw" 62 ⟨"SlottedMesh", "run", "(I)I"⟩ ∈ gz := gz_t (List.mem_of_getElem? (i := 352) (by decide +kernel)) rfl
theorem kw_353 : Cond.instanceMethod ⟨"SlottedMesh", "run", "(I)I"⟩ ∈ gz := gz_t (List.mem_of_getElem? (i := 353) (by decide +kernel)) rfl
theorem kw_354 : Cond.selects "SlottedMesh" ⟨"SlottedMesh", "run", "(I)I"⟩ ⟨"SlottedMesh", "run", "(I)I"⟩ ∈ gz := gz_t (List.mem_of_getElem? (i := 354) (by decide +kernel)) rfl
theorem kw_355 : Cond.code ⟨"SlottedMesh", "run", "(I)I"⟩ prog_1_method_10_code 3 (some .int) ∈ gz := gz_t (List.mem_of_getElem? (i := 355) (by decide +kernel)) rfl
theorem kw_356 : Cond.methodLink "SlottedMesh" 130 ⟨"SlottedMesh", "driftClocks", "()V"⟩ ∈ gz := gz_t (List.mem_of_getElem? (i := 356) (by decide +kernel)) rfl
theorem kw_358 : Cond.instanceMethod ⟨"SlottedMesh", "driftClocks", "()V"⟩ ∈ gz := gz_t (List.mem_of_getElem? (i := 358) (by decide +kernel)) rfl
theorem kw_359 : Cond.code ⟨"SlottedMesh", "driftClocks", "()V"⟩ prog_1_method_26_code 2 none ∈ gz := gz_t (List.mem_of_getElem? (i := 359) (by decide +kernel)) rfl
theorem kw_360 : Cond.methodLink "SlottedMesh" 136 ⟨"java/lang/Math", "floorMod", "(II)I"⟩ ∈ gz := gz_t (List.mem_of_getElem? (i := 360) (by decide +kernel)) rfl
theorem kw_361 : Cond.static ⟨"java/lang/Math", "floorMod", "(II)I"⟩ ∈ gz := gz_t (List.mem_of_getElem? (i := 361) (by decide +kernel)) rfl
theorem kw_362 : Cond.code ⟨"java/lang/Math", "floorMod", "(II)I"⟩ prog_9_method_50_code 3 (some .int) ∈ gz := gz_t (List.mem_of_getElem? (i := 362) (by decide +kernel)) rfl
theorem kw_363 : Cond.methodLink "SlottedMesh" 142 ⟨"SlottedMesh", "playCells", "(I)V"⟩ ∈ gz := gz_t (List.mem_of_getElem? (i := 363) (by decide +kernel)) rfl
theorem kw_365 : Cond.instanceMethod ⟨"SlottedMesh", "playCells", "(I)V"⟩ ∈ gz := gz_t (List.mem_of_getElem? (i := 365) (by decide +kernel)) rfl
theorem kw_366 : Cond.code ⟨"SlottedMesh", "playCells", "(I)V"⟩ prog_1_method_27_code 7 none ∈ gz := gz_t (List.mem_of_getElem? (i := 366) (by decide +kernel)) rfl
theorem kw_367 : Cond.methodLink "SlottedMesh" 156 ⟨"SlottedMesh$Plan", "codeAt", "(II)I"⟩ ∈ gz := gz_t (List.mem_of_getElem? (i := 367) (by decide +kernel)) rfl
theorem kw_368 : Cond.methodLink "SlottedMesh" 190 ⟨"SlottedMesh$Plan", "fromOf", "(I)I"⟩ ∈ gz := gz_t (List.mem_of_getElem? (i := 368) (by decide +kernel)) rfl
theorem kw_369 : Cond.methodLink "SlottedMesh" 194 ⟨"SlottedMesh$Plan", "toOf", "(I)I"⟩ ∈ gz := gz_t (List.mem_of_getElem? (i := 369) (by decide +kernel)) rfl
theorem kw_370 : Cond.methodLink "SlottedMesh" 197 ⟨"SlottedMesh$Plan", "kindOf", "(I)I"⟩ ∈ gz := gz_t (List.mem_of_getElem? (i := 370) (by decide +kernel)) rfl
theorem kw_371 : Cond.methodLink "SlottedMesh" 200 ⟨"SlottedMesh", "advertise", "(LSlottedMesh$Node;LSlottedMesh$Channel;)V"⟩ ∈ gz := gz_t (List.mem_of_getElem? (i := 371) (by decide +kernel)) rfl
theorem kw_373 : Cond.instanceMethod ⟨"SlottedMesh", "advertise", "(LSlottedMesh$Node;LSlottedMesh$Channel;)V"⟩ ∈ gz := gz_t (List.mem_of_getElem? (i := 373) (by decide +kernel)) rfl
theorem kw_374 : Cond.code ⟨"SlottedMesh", "advertise", "(LSlottedMesh$Node;LSlottedMesh$Channel;)V"⟩ prog_1_method_28_code 4 none ∈ gz := gz_t (List.mem_of_getElem? (i := 374) (by decide +kernel)) rfl
theorem kw_375 : Cond.methodLink "SlottedMesh" 211 ⟨"SlottedMesh$Channel", "carriesFrame", "(I)Z"⟩ ∈ gz := gz_t (List.mem_of_getElem? (i := 375) (by decide +kernel)) rfl
theorem kw_376 : Cond.instanceMethod ⟨"SlottedMesh$Channel", "carriesFrame", "(I)Z"⟩ ∈ gz := gz_t (List.mem_of_getElem? (i := 376) (by decide +kernel)) rfl
theorem kw_377 : Cond.selects "SlottedMesh$Channel" ⟨"SlottedMesh$Channel", "carriesFrame", "(I)Z"⟩ ⟨"SlottedMesh$Channel", "carriesFrame", "(I)Z"⟩ ∈ gz := gz_t (List.mem_of_getElem? (i := 377) (by decide +kernel)) rfl
theorem kw_378 : Cond.code ⟨"SlottedMesh$Channel", "carriesFrame", "(I)Z"⟩ prog_2_method_2_code 2 (some .boolean) ∈ gz := gz_t (List.mem_of_getElem? (i := 378) (by decide +kernel)) rfl
theorem kw_379 : Cond.methodLink "SlottedMesh$Channel" 18 ⟨"SlottedMesh$Channel", "bitAt", "(JI)Z"⟩ ∈ gz := gz_t (List.mem_of_getElem? (i := 379) (by decide +kernel)) rfl
theorem kw_380 : Cond.static ⟨"SlottedMesh$Channel", "bitAt", "(JI)Z"⟩ ∈ gz := gz_t (List.mem_of_getElem? (i := 380) (by decide +kernel)) rfl
theorem kw_381 : Cond.code ⟨"SlottedMesh$Channel", "bitAt", "(JI)Z"⟩ prog_2_method_4_code 3 (some .boolean) ∈ gz := gz_t (List.mem_of_getElem? (i := 381) (by decide +kernel)) rfl
theorem kw_382 : Cond.methodLink "SlottedMesh$Channel" 22 ⟨"java/lang/Math", "floorMod", "(II)I"⟩ ∈ gz := gz_t (List.mem_of_getElem? (i := 382) (by decide +kernel)) rfl
theorem kw_383 : Cond.methodLink "SlottedMesh" 214 ⟨"SlottedMesh", "answerAdvert", "(LSlottedMesh$Node;LSlottedMesh$Node;)V"⟩ ∈ gz := gz_t (List.mem_of_getElem? (i := 383) (by decide +kernel)) rfl
theorem kw_385 : Cond.instanceMethod ⟨"SlottedMesh", "answerAdvert", "(LSlottedMesh$Node;LSlottedMesh$Node;)V"⟩ ∈ gz := gz_t (List.mem_of_getElem? (i := 385) (by decide +kernel)) rfl
theorem kw_386 : Cond.code ⟨"SlottedMesh", "answerAdvert", "(LSlottedMesh$Node;LSlottedMesh$Node;)V"⟩ prog_1_method_29_code 3 none ∈ gz := gz_t (List.mem_of_getElem? (i := 386) (by decide +kernel)) rfl
theorem kw_387 : Cond.methodLink "SlottedMesh" 221 ⟨"SlottedMesh$Node", "clockIsCloseTo", "(LSlottedMesh$Node;)Z"⟩ ∈ gz := gz_t (List.mem_of_getElem? (i := 387) (by decide +kernel)) rfl
theorem kw_388 : Cond.instanceMethod ⟨"SlottedMesh$Node", "clockIsCloseTo", "(LSlottedMesh$Node;)Z"⟩ ∈ gz := gz_t (List.mem_of_getElem? (i := 388) (by decide +kernel)) rfl
theorem kw_389 : Cond.selects "SlottedMesh$Node" ⟨"SlottedMesh$Node", "clockIsCloseTo", "(LSlottedMesh$Node;)Z"⟩ ⟨"SlottedMesh$Node", "clockIsCloseTo", "(LSlottedMesh$Node;)Z"⟩ ∈ gz := gz_t (List.mem_of_getElem? (i := 389) (by decide +kernel)) rfl
theorem kw_390 : Cond.code ⟨"SlottedMesh$Node", "clockIsCloseTo", "(LSlottedMesh$Node;)Z"⟩ prog_5_method_4_code 2 (some .boolean) ∈ gz := gz_t (List.mem_of_getElem? (i := 390) (by decide +kernel)) rfl
theorem kw_391 : Cond.methodLink "SlottedMesh$Node" 61 ⟨"java/lang/Math", "abs", "(I)I"⟩ ∈ gz := gz_t (List.mem_of_getElem? (i := 391) (by decide +kernel)) rfl
theorem kw_392 : Cond.static ⟨"java/lang/Math", "abs", "(I)I"⟩ ∈ gz := gz_t (List.mem_of_getElem? (i := 392) (by decide +kernel)) rfl
theorem kw_393 : Cond.code ⟨"java/lang/Math", "abs", "(I)I"⟩ prog_9_method_59_code 1 (some .int) ∈ gz := gz_t (List.mem_of_getElem? (i := 393) (by decide +kernel)) rfl
theorem kw_394 : Cond.methodLink "SlottedMesh" 204 ⟨"SlottedMesh", "sendUp", "(LSlottedMesh$Node;LSlottedMesh$Node;LSlottedMesh$Channel;)V"⟩ ∈ gz := gz_t (List.mem_of_getElem? (i := 394) (by decide +kernel)) rfl
theorem kw_396 : Cond.instanceMethod ⟨"SlottedMesh", "sendUp", "(LSlottedMesh$Node;LSlottedMesh$Node;LSlottedMesh$Channel;)V"⟩ ∈ gz := gz_t (List.mem_of_getElem? (i := 396) (by decide +kernel)) rfl
theorem kw_397 : Cond.code ⟨"SlottedMesh", "sendUp", "(LSlottedMesh$Node;LSlottedMesh$Node;LSlottedMesh$Channel;)V"⟩ prog_1_method_31_code 5 none ∈ gz := gz_t (List.mem_of_getElem? (i := 397) (by decide +kernel)) rfl
theorem kw_398 : Cond.methodLink "SlottedMesh" 225 ⟨"SlottedMesh", "hears", "(LSlottedMesh$Node;LSlottedMesh$Node;LSlottedMesh$Channel;)Z"⟩ ∈ gz := gz_t (List.mem_of_getElem? (i := 398) (by decide +kernel)) rfl
theorem kw_400 : Cond.instanceMethod ⟨"SlottedMesh", "hears", "(LSlottedMesh$Node;LSlottedMesh$Node;LSlottedMesh$Channel;)Z"⟩ ∈ gz := gz_t (List.mem_of_getElem? (i := 400) (by decide +kernel)) rfl
theorem kw_401 : Cond.code ⟨"SlottedMesh", "hears", "(LSlottedMesh$Node;LSlottedMesh$Node;LSlottedMesh$Channel;)Z"⟩ prog_1_method_30_code 4 (some .boolean) ∈ gz := gz_t (List.mem_of_getElem? (i := 401) (by decide +kernel)) rfl
theorem kw_402 : Cond.methodLink "SlottedMesh" 229 ⟨"SlottedMesh", "settleUp", "(LSlottedMesh$FrameRow;LSlottedMesh$Node;)Z"⟩ ∈ gz := gz_t (List.mem_of_getElem? (i := 402) (by decide +kernel)) rfl
theorem kw_404 : Cond.instanceMethod ⟨"SlottedMesh", "settleUp", "(LSlottedMesh$FrameRow;LSlottedMesh$Node;)Z"⟩ ∈ gz := gz_t (List.mem_of_getElem? (i := 404) (by decide +kernel)) rfl
theorem kw_405 : Cond.code ⟨"SlottedMesh", "settleUp", "(LSlottedMesh$FrameRow;LSlottedMesh$Node;)Z"⟩ prog_1_method_32_code 5 (some .boolean) ∈ gz := gz_t (List.mem_of_getElem? (i := 405) (by decide +kernel)) rfl
theorem kw_406 : Cond.methodLink "SlottedMesh" 251 ⟨"SlottedMesh", "cacheSample", "(III)V"⟩ ∈ gz := gz_t (List.mem_of_getElem? (i := 406) (by decide +kernel)) rfl
theorem kw_408 : Cond.instanceMethod ⟨"SlottedMesh", "cacheSample", "(III)V"⟩ ∈ gz := gz_t (List.mem_of_getElem? (i := 408) (by decide +kernel)) rfl
theorem kw_409 : Cond.code ⟨"SlottedMesh", "cacheSample", "(III)V"⟩ prog_1_method_33_code 4 none ∈ gz := gz_t (List.mem_of_getElem? (i := 409) (by decide +kernel)) rfl
theorem kw_410 : Cond.methodLink "SlottedMesh" 254 ⟨"SlottedMesh$Loop", "keep", "(I)V"⟩ ∈ gz := gz_t (List.mem_of_getElem? (i := 410) (by decide +kernel)) rfl
theorem kw_411 : Cond.instanceMethod ⟨"SlottedMesh$Loop", "keep", "(I)V"⟩ ∈ gz := gz_t (List.mem_of_getElem? (i := 411) (by decide +kernel)) rfl
theorem kw_412 : Cond.selects "SlottedMesh$Loop" ⟨"SlottedMesh$Loop", "keep", "(I)V"⟩ ⟨"SlottedMesh$Loop", "keep", "(I)V"⟩ ∈ gz := gz_t (List.mem_of_getElem? (i := 412) (by decide +kernel)) rfl
theorem kw_413 : Cond.code ⟨"SlottedMesh$Loop", "keep", "(I)V"⟩ prog_4_method_2_code 3 none ∈ gz := gz_t (List.mem_of_getElem? (i := 413) (by decide +kernel)) rfl
theorem kw_414 : Cond.methodLink "SlottedMesh$Loop" 17 ⟨"java/lang/Math", "min", "(II)I"⟩ ∈ gz := gz_t (List.mem_of_getElem? (i := 414) (by decide +kernel)) rfl
theorem kw_415 : Cond.methodLink "SlottedMesh" 257 ⟨"SlottedMesh$Loop", "nextCommand", "(I)I"⟩ ∈ gz := gz_t (List.mem_of_getElem? (i := 415) (by decide +kernel)) rfl
theorem kw_416 : Cond.instanceMethod ⟨"SlottedMesh$Loop", "nextCommand", "(I)I"⟩ ∈ gz := gz_t (List.mem_of_getElem? (i := 416) (by decide +kernel)) rfl
theorem kw_417 : Cond.selects "SlottedMesh$Loop" ⟨"SlottedMesh$Loop", "nextCommand", "(I)I"⟩ ⟨"SlottedMesh$Loop", "nextCommand", "(I)I"⟩ ∈ gz := gz_t (List.mem_of_getElem? (i := 417) (by decide +kernel)) rfl
theorem kw_418 : Cond.code ⟨"SlottedMesh$Loop", "nextCommand", "(I)I"⟩ prog_4_method_3_code 4 (some .int) ∈ gz := gz_t (List.mem_of_getElem? (i := 418) (by decide +kernel)) rfl
theorem kx_419 : Cond.methodLinkNest "SlottedMesh$Loop" 29 ⟨"SlottedMesh", "nearest", "(III)I"⟩ "SlottedMesh" ∈ lw_tbl := List.mem_append_right _ (List.mem_of_getElem? (i := 419) (by decide +kernel))
theorem kw_420 : Cond.methodLink "SlottedMesh$Loop" 41 ⟨"java/lang/Math", "floorDiv", "(II)I"⟩ ∈ gz := gz_t (List.mem_of_getElem? (i := 420) (by decide +kernel)) rfl
theorem kw_421 : Cond.static ⟨"java/lang/Math", "floorDiv", "(II)I"⟩ ∈ gz := gz_t (List.mem_of_getElem? (i := 421) (by decide +kernel)) rfl
theorem kw_422 : Cond.code ⟨"java/lang/Math", "floorDiv", "(II)I"⟩ prog_9_method_47_code 3 (some .int) ∈ gz := gz_t (List.mem_of_getElem? (i := 422) (by decide +kernel)) rfl
theorem kw_423 : Cond.methodLink "SlottedMesh" 233 ⟨"SlottedMesh$Channel", "carriesConfirmation", "(I)Z"⟩ ∈ gz := gz_t (List.mem_of_getElem? (i := 423) (by decide +kernel)) rfl
theorem kw_424 : Cond.instanceMethod ⟨"SlottedMesh$Channel", "carriesConfirmation", "(I)Z"⟩ ∈ gz := gz_t (List.mem_of_getElem? (i := 424) (by decide +kernel)) rfl
theorem kw_425 : Cond.selects "SlottedMesh$Channel" ⟨"SlottedMesh$Channel", "carriesConfirmation", "(I)Z"⟩ ⟨"SlottedMesh$Channel", "carriesConfirmation", "(I)Z"⟩ ∈ gz := gz_t (List.mem_of_getElem? (i := 425) (by decide +kernel)) rfl
theorem kw_426 : Cond.code ⟨"SlottedMesh$Channel", "carriesConfirmation", "(I)Z"⟩ prog_2_method_3_code 2 (some .boolean) ∈ gz := gz_t (List.mem_of_getElem? (i := 426) (by decide +kernel)) rfl
theorem kw_427 : Cond.methodLink "SlottedMesh" 236 ⟨"SlottedMesh$Node", "failUp", "()V"⟩ ∈ gz := gz_t (List.mem_of_getElem? (i := 427) (by decide +kernel)) rfl
theorem kw_428 : Cond.instanceMethod ⟨"SlottedMesh$Node", "failUp", "()V"⟩ ∈ gz := gz_t (List.mem_of_getElem? (i := 428) (by decide +kernel)) rfl
theorem kw_429 : Cond.selects "SlottedMesh$Node" ⟨"SlottedMesh$Node", "failUp", "()V"⟩ ⟨"SlottedMesh$Node", "failUp", "()V"⟩ ∈ gz := gz_t (List.mem_of_getElem? (i := 429) (by decide +kernel)) rfl
theorem kw_430 : Cond.code ⟨"SlottedMesh$Node", "failUp", "()V"⟩ prog_5_method_5_code 1 none ∈ gz := gz_t (List.mem_of_getElem? (i := 430) (by decide +kernel)) rfl
theorem kw_431 : Cond.methodLink "SlottedMesh" 239 ⟨"SlottedMesh$FrameRow", "dropFirst", "()V"⟩ ∈ gz := gz_t (List.mem_of_getElem? (i := 431) (by decide +kernel)) rfl
theorem kw_432 : Cond.instanceMethod ⟨"SlottedMesh$FrameRow", "dropFirst", "()V"⟩ ∈ gz := gz_t (List.mem_of_getElem? (i := 432) (by decide +kernel)) rfl
theorem kw_433 : Cond.selects "SlottedMesh$FrameRow" ⟨"SlottedMesh$FrameRow", "dropFirst", "()V"⟩ ⟨"SlottedMesh$FrameRow", "dropFirst", "()V"⟩ ∈ gz := gz_t (List.mem_of_getElem? (i := 433) (by decide +kernel)) rfl
theorem kw_434 : Cond.code ⟨"SlottedMesh$FrameRow", "dropFirst", "()V"⟩ prog_3_method_3_code 2 none ∈ gz := gz_t (List.mem_of_getElem? (i := 434) (by decide +kernel)) rfl
theorem kw_435 : Cond.methodLink "SlottedMesh" 208 ⟨"SlottedMesh", "sendDown", "(LSlottedMesh$Node;LSlottedMesh$Node;LSlottedMesh$Channel;)V"⟩ ∈ gz := gz_t (List.mem_of_getElem? (i := 435) (by decide +kernel)) rfl
theorem kw_437 : Cond.instanceMethod ⟨"SlottedMesh", "sendDown", "(LSlottedMesh$Node;LSlottedMesh$Node;LSlottedMesh$Channel;)V"⟩ ∈ gz := gz_t (List.mem_of_getElem? (i := 437) (by decide +kernel)) rfl
theorem kw_438 : Cond.code ⟨"SlottedMesh", "sendDown", "(LSlottedMesh$Node;LSlottedMesh$Node;LSlottedMesh$Channel;)V"⟩ prog_1_method_34_code 6 none ∈ gz := gz_t (List.mem_of_getElem? (i := 438) (by decide +kernel)) rfl
theorem kw_439 : Cond.methodLink "SlottedMesh" 260 ⟨"SlottedMesh$Plan", "leadsUp", "(II)Z"⟩ ∈ gz := gz_t (List.mem_of_getElem? (i := 439) (by decide +kernel)) rfl
theorem kw_440 : Cond.instanceMethod ⟨"SlottedMesh$Plan", "leadsUp", "(II)Z"⟩ ∈ gz := gz_t (List.mem_of_getElem? (i := 440) (by decide +kernel)) rfl
theorem kw_441 : Cond.selects "SlottedMesh$Plan" ⟨"SlottedMesh$Plan", "leadsUp", "(II)Z"⟩ ⟨"SlottedMesh$Plan", "leadsUp", "(II)Z"⟩ ∈ gz := gz_t (List.mem_of_getElem? (i := 441) (by decide +kernel)) rfl
theorem kw_442 : Cond.code ⟨"SlottedMesh$Plan", "leadsUp", "(II)Z"⟩ prog_6_method_7_code 5 (some .boolean) ∈ gz := gz_t (List.mem_of_getElem? (i := 442) (by decide +kernel)) rfl
theorem kw_443 : Cond.methodLink "SlottedMesh" 264 ⟨"SlottedMesh", "settleDown", "(LSlottedMesh$FrameRow;LSlottedMesh$Node;)Z"⟩ ∈ gz := gz_t (List.mem_of_getElem? (i := 443) (by decide +kernel)) rfl
theorem kw_444 : Cond.static ⟨"SlottedMesh", "settleDown", "(LSlottedMesh$FrameRow;LSlottedMesh$Node;)Z"⟩ ∈ gz := gz_t (List.mem_of_getElem? (i := 444) (by decide +kernel)) rfl
theorem kw_445 : Cond.code ⟨"SlottedMesh", "settleDown", "(LSlottedMesh$FrameRow;LSlottedMesh$Node;)Z"⟩ prog_1_method_35_code 4 (some .boolean) ∈ gz := gz_t (List.mem_of_getElem? (i := 445) (by decide +kernel)) rfl
theorem kw_446 : Cond.methodLink "SlottedMesh" 267 ⟨"SlottedMesh$Node", "failDown", "()V"⟩ ∈ gz := gz_t (List.mem_of_getElem? (i := 446) (by decide +kernel)) rfl
theorem kw_447 : Cond.instanceMethod ⟨"SlottedMesh$Node", "failDown", "()V"⟩ ∈ gz := gz_t (List.mem_of_getElem? (i := 447) (by decide +kernel)) rfl
theorem kw_448 : Cond.selects "SlottedMesh$Node" ⟨"SlottedMesh$Node", "failDown", "()V"⟩ ⟨"SlottedMesh$Node", "failDown", "()V"⟩ ∈ gz := gz_t (List.mem_of_getElem? (i := 448) (by decide +kernel)) rfl
theorem kw_449 : Cond.code ⟨"SlottedMesh$Node", "failDown", "()V"⟩ prog_5_method_6_code 1 none ∈ gz := gz_t (List.mem_of_getElem? (i := 449) (by decide +kernel)) rfl
theorem kw_450 : Cond.methodLink "SlottedMesh$Node" 67 ⟨"SlottedMesh$FrameRow", "dropFirst", "()V"⟩ ∈ gz := gz_t (List.mem_of_getElem? (i := 450) (by decide +kernel)) rfl
theorem kw_451 : Cond.methodLink "SlottedMeshLaw" 67 ⟨"SlottedMesh", "rank", "(I)I"⟩ ∈ gz := gz_t (List.mem_of_getElem? (i := 451) (by decide +kernel)) rfl
theorem kw_452 : Cond.instanceMethod ⟨"SlottedMesh", "rank", "(I)I"⟩ ∈ gz := gz_t (List.mem_of_getElem? (i := 452) (by decide +kernel)) rfl
theorem kw_453 : Cond.selects "SlottedMesh" ⟨"SlottedMesh", "rank", "(I)I"⟩ ⟨"SlottedMesh", "rank", "(I)I"⟩ ∈ gz := gz_t (List.mem_of_getElem? (i := 453) (by decide +kernel)) rfl
theorem kw_454 : Cond.code ⟨"SlottedMesh", "rank", "(I)I"⟩ prog_1_method_11_code 2 (some .int) ∈ gz := gz_t (List.mem_of_getElem? (i := 454) (by decide +kernel)) rfl
theorem kw_455 : Cond.methodLink "SlottedMeshLaw" 71 ⟨"SlottedMesh", "parent", "(II)I"⟩ ∈ gz := gz_t (List.mem_of_getElem? (i := 455) (by decide +kernel)) rfl
theorem kw_456 : Cond.instanceMethod ⟨"SlottedMesh", "parent", "(II)I"⟩ ∈ gz := gz_t (List.mem_of_getElem? (i := 456) (by decide +kernel)) rfl
theorem kw_457 : Cond.selects "SlottedMesh" ⟨"SlottedMesh", "parent", "(II)I"⟩ ⟨"SlottedMesh", "parent", "(II)I"⟩ ∈ gz := gz_t (List.mem_of_getElem? (i := 457) (by decide +kernel)) rfl
theorem kw_458 : Cond.code ⟨"SlottedMesh", "parent", "(II)I"⟩ prog_1_method_12_code 3 (some .int) ∈ gz := gz_t (List.mem_of_getElem? (i := 458) (by decide +kernel)) rfl
theorem kw_459 : Cond.methodLink "SlottedMeshLaw" 75 ⟨"SlottedMesh", "cell", "(II)I"⟩ ∈ gz := gz_t (List.mem_of_getElem? (i := 459) (by decide +kernel)) rfl
theorem kw_460 : Cond.instanceMethod ⟨"SlottedMesh", "cell", "(II)I"⟩ ∈ gz := gz_t (List.mem_of_getElem? (i := 460) (by decide +kernel)) rfl
theorem kw_461 : Cond.selects "SlottedMesh" ⟨"SlottedMesh", "cell", "(II)I"⟩ ⟨"SlottedMesh", "cell", "(II)I"⟩ ∈ gz := gz_t (List.mem_of_getElem? (i := 461) (by decide +kernel)) rfl
theorem kw_462 : Cond.code ⟨"SlottedMesh", "cell", "(II)I"⟩ prog_1_method_13_code 3 (some .int) ∈ gz := gz_t (List.mem_of_getElem? (i := 462) (by decide +kernel)) rfl
theorem kw_463 : Cond.methodLink "SlottedMeshLaw" 78 ⟨"SlottedMesh", "current", "(I)Z"⟩ ∈ gz := gz_t (List.mem_of_getElem? (i := 463) (by decide +kernel)) rfl
theorem kw_464 : Cond.instanceMethod ⟨"SlottedMesh", "current", "(I)Z"⟩ ∈ gz := gz_t (List.mem_of_getElem? (i := 464) (by decide +kernel)) rfl
theorem kw_465 : Cond.selects "SlottedMesh" ⟨"SlottedMesh", "current", "(I)Z"⟩ ⟨"SlottedMesh", "current", "(I)Z"⟩ ∈ gz := gz_t (List.mem_of_getElem? (i := 465) (by decide +kernel)) rfl
theorem kw_466 : Cond.code ⟨"SlottedMesh", "current", "(I)Z"⟩ prog_1_method_14_code 2 (some .boolean) ∈ gz := gz_t (List.mem_of_getElem? (i := 466) (by decide +kernel)) rfl
theorem kw_467 : Cond.methodLink "SlottedMeshLaw" 82 ⟨"SlottedMesh", "offset", "(I)I"⟩ ∈ gz := gz_t (List.mem_of_getElem? (i := 467) (by decide +kernel)) rfl
theorem kw_468 : Cond.instanceMethod ⟨"SlottedMesh", "offset", "(I)I"⟩ ∈ gz := gz_t (List.mem_of_getElem? (i := 468) (by decide +kernel)) rfl
theorem kw_469 : Cond.selects "SlottedMesh" ⟨"SlottedMesh", "offset", "(I)I"⟩ ⟨"SlottedMesh", "offset", "(I)I"⟩ ∈ gz := gz_t (List.mem_of_getElem? (i := 469) (by decide +kernel)) rfl
theorem kw_470 : Cond.code ⟨"SlottedMesh", "offset", "(I)I"⟩ prog_1_method_15_code 2 (some .int) ∈ gz := gz_t (List.mem_of_getElem? (i := 470) (by decide +kernel)) rfl
theorem kw_471 : Cond.methodLink "SlottedMeshLaw" 86 ⟨"SlottedMesh", "count", "(II)I"⟩ ∈ gz := gz_t (List.mem_of_getElem? (i := 471) (by decide +kernel)) rfl
theorem kw_472 : Cond.instanceMethod ⟨"SlottedMesh", "count", "(II)I"⟩ ∈ gz := gz_t (List.mem_of_getElem? (i := 472) (by decide +kernel)) rfl
theorem kw_473 : Cond.selects "SlottedMesh" ⟨"SlottedMesh", "count", "(II)I"⟩ ⟨"SlottedMesh", "count", "(II)I"⟩ ∈ gz := gz_t (List.mem_of_getElem? (i := 473) (by decide +kernel)) rfl
theorem kw_474 : Cond.code ⟨"SlottedMesh", "count", "(II)I"⟩ prog_1_method_16_code 3 (some .int) ∈ gz := gz_t (List.mem_of_getElem? (i := 474) (by decide +kernel)) rfl
theorem kw_475 : Cond.methodLink "SlottedMeshLaw" 90 ⟨"SlottedMesh", "cached", "(II)I"⟩ ∈ gz := gz_t (List.mem_of_getElem? (i := 475) (by decide +kernel)) rfl
theorem kw_476 : Cond.instanceMethod ⟨"SlottedMesh", "cached", "(II)I"⟩ ∈ gz := gz_t (List.mem_of_getElem? (i := 476) (by decide +kernel)) rfl
theorem kw_477 : Cond.selects "SlottedMesh" ⟨"SlottedMesh", "cached", "(II)I"⟩ ⟨"SlottedMesh", "cached", "(II)I"⟩ ∈ gz := gz_t (List.mem_of_getElem? (i := 477) (by decide +kernel)) rfl
theorem kw_478 : Cond.code ⟨"SlottedMesh", "cached", "(II)I"⟩ prog_1_method_17_code 3 (some .int) ∈ gz := gz_t (List.mem_of_getElem? (i := 478) (by decide +kernel)) rfl
theorem kw_479 : Cond.methodLink "SlottedMeshLaw" 94 ⟨"SlottedMesh", "latest", "(I)I"⟩ ∈ gz := gz_t (List.mem_of_getElem? (i := 479) (by decide +kernel)) rfl
theorem kw_480 : Cond.instanceMethod ⟨"SlottedMesh", "latest", "(I)I"⟩ ∈ gz := gz_t (List.mem_of_getElem? (i := 480) (by decide +kernel)) rfl
theorem kw_481 : Cond.selects "SlottedMesh" ⟨"SlottedMesh", "latest", "(I)I"⟩ ⟨"SlottedMesh", "latest", "(I)I"⟩ ∈ gz := gz_t (List.mem_of_getElem? (i := 481) (by decide +kernel)) rfl
theorem kw_482 : Cond.code ⟨"SlottedMesh", "latest", "(I)I"⟩ prog_1_method_18_code 2 (some .int) ∈ gz := gz_t (List.mem_of_getElem? (i := 482) (by decide +kernel)) rfl
theorem kw_483 : Cond.methodLink "SlottedMeshLaw" 98 ⟨"SlottedMesh", "actuator", "(I)I"⟩ ∈ gz := gz_t (List.mem_of_getElem? (i := 483) (by decide +kernel)) rfl
theorem kw_484 : Cond.instanceMethod ⟨"SlottedMesh", "actuator", "(I)I"⟩ ∈ gz := gz_t (List.mem_of_getElem? (i := 484) (by decide +kernel)) rfl
theorem kw_485 : Cond.selects "SlottedMesh" ⟨"SlottedMesh", "actuator", "(I)I"⟩ ⟨"SlottedMesh", "actuator", "(I)I"⟩ ∈ gz := gz_t (List.mem_of_getElem? (i := 485) (by decide +kernel)) rfl
theorem kw_486 : Cond.code ⟨"SlottedMesh", "actuator", "(I)I"⟩ prog_1_method_19_code 2 (some .int) ∈ gz := gz_t (List.mem_of_getElem? (i := 486) (by decide +kernel)) rfl
theorem kw_487 : Cond.methodLink "SlottedMeshLaw" 102 ⟨"SlottedMesh", "sent", "()I"⟩ ∈ gz := gz_t (List.mem_of_getElem? (i := 487) (by decide +kernel)) rfl
theorem kw_488 : Cond.instanceMethod ⟨"SlottedMesh", "sent", "()I"⟩ ∈ gz := gz_t (List.mem_of_getElem? (i := 488) (by decide +kernel)) rfl
theorem kw_489 : Cond.selects "SlottedMesh" ⟨"SlottedMesh", "sent", "()I"⟩ ⟨"SlottedMesh", "sent", "()I"⟩ ∈ gz := gz_t (List.mem_of_getElem? (i := 489) (by decide +kernel)) rfl
theorem kw_490 : Cond.code ⟨"SlottedMesh", "sent", "()I"⟩ prog_1_method_20_code 1 (some .int) ∈ gz := gz_t (List.mem_of_getElem? (i := 490) (by decide +kernel)) rfl
theorem kw_491 : Cond.methodLink "SlottedMeshLaw" 9 ⟨"SlottedMeshLaw", "cell", "([II)I"⟩ ∈ gz := gz_t (List.mem_of_getElem? (i := 491) (by decide +kernel)) rfl
theorem kw_492 : Cond.static ⟨"SlottedMeshLaw", "cell", "([II)I"⟩ ∈ gz := gz_t (List.mem_of_getElem? (i := 492) (by decide +kernel)) rfl
theorem kw_493 : Cond.code ⟨"SlottedMeshLaw", "cell", "([II)I"⟩ method_2_code 2 (some .int) ∈ gz := gz_t (List.mem_of_getElem? (i := 493) (by decide +kernel)) rfl
theorem kw_494 : Cond.classLink "SlottedMeshLaw" 18 "SlottedMeshModel" ∈ gz := gz_t (List.mem_of_getElem? (i := 494) (by decide +kernel)) rfl
theorem kw_495 : Cond.instantiable "SlottedMeshModel" 34 ∈ gz := gz_t (List.mem_of_getElem? (i := 495) (by decide +kernel)) rfl
theorem kw_496 : Cond.methodLink "SlottedMeshLaw" 20 ⟨"SlottedMeshModel", "<init>", "(III)V"⟩ ∈ gz := gz_t (List.mem_of_getElem? (i := 496) (by decide +kernel)) rfl
theorem kw_497 : Cond.instanceMethod ⟨"SlottedMeshModel", "<init>", "(III)V"⟩ ∈ gz := gz_t (List.mem_of_getElem? (i := 497) (by decide +kernel)) rfl
theorem kw_498 : Cond.code ⟨"SlottedMeshModel", "<init>", "(III)V"⟩ prog_8_method_1_code 5 none ∈ gz := gz_t (List.mem_of_getElem? (i := 498) (by decide +kernel)) rfl
theorem kw_499 : Cond.methodLink "SlottedMeshModel" 1 ⟨"java/lang/Object", "<init>", "()V"⟩ ∈ gz := gz_t (List.mem_of_getElem? (i := 499) (by decide +kernel)) rfl
theorem kw_500 : Cond.constantLong "SlottedMeshModel" 106 (-1) ∈ gz := gz_t (List.mem_of_getElem? (i := 500) (by decide +kernel)) rfl
theorem kw_501 : Cond.fieldLink "SlottedMeshModel" 96 "SlottedMeshModel" "nodes" "I" ∈ gz := gz_t (List.mem_of_getElem? (i := 501) (by decide +kernel)) rfl
theorem kw_502 : Cond.fieldLink "SlottedMeshModel" 100 "SlottedMeshModel" "slots" "I" ∈ gz := gz_t (List.mem_of_getElem? (i := 502) (by decide +kernel)) rfl
theorem kw_503 : Cond.fieldLink "SlottedMeshModel" 103 "SlottedMeshModel" "channels" "I" ∈ gz := gz_t (List.mem_of_getElem? (i := 503) (by decide +kernel)) rfl
theorem kw_504 : Cond.fieldLink "SlottedMeshModel" 147 "SlottedMeshModel" "time" "I" ∈ gz := gz_t (List.mem_of_getElem? (i := 504) (by decide +kernel)) rfl
theorem kw_505 : Cond.fieldLink "SlottedMeshModel" 158 "SlottedMeshModel" "sends" "I" ∈ gz := gz_t (List.mem_of_getElem? (i := 505) (by decide +kernel)) rfl
theorem kw_506 : Cond.fieldLink "SlottedMeshModel" 7 "SlottedMeshModel" "near" "[Z" ∈ gz := gz_t (List.mem_of_getElem? (i := 506) (by decide +kernel)) rfl
theorem kw_507 : Cond.fieldLink "SlottedMeshModel" 13 "SlottedMeshModel" "started" "[Z" ∈ gz := gz_t (List.mem_of_getElem? (i := 507) (by decide +kernel)) rfl
theorem kw_508 : Cond.fieldLink "SlottedMeshModel" 16 "SlottedMeshModel" "current" "[Z" ∈ gz := gz_t (List.mem_of_getElem? (i := 508) (by decide +kernel)) rfl
theorem kw_509 : Cond.fieldLink "SlottedMeshModel" 19 "SlottedMeshModel" "offset" "[I" ∈ gz := gz_t (List.mem_of_getElem? (i := 509) (by decide +kernel)) rfl
theorem kw_510 : Cond.fieldLink "SlottedMeshModel" 23 "SlottedMeshModel" "drift" "[I" ∈ gz := gz_t (List.mem_of_getElem? (i := 510) (by decide +kernel)) rfl
theorem kw_511 : Cond.fieldLink "SlottedMeshModel" 26 "SlottedMeshModel" "heard" "[J" ∈ gz := gz_t (List.mem_of_getElem? (i := 511) (by decide +kernel)) rfl
theorem kw_512 : Cond.fieldLink "SlottedMeshModel" 30 "SlottedMeshModel" "confirmed" "[J" ∈ gz := gz_t (List.mem_of_getElem? (i := 512) (by decide +kernel)) rfl
theorem kw_513 : Cond.fieldLink "SlottedMeshModel" 135 "SlottedMeshModel" "planned" "Z" ∈ gz := gz_t (List.mem_of_getElem? (i := 513) (by decide +kernel)) rfl
theorem kw_514 : Cond.fieldLink "SlottedMeshModel" 33 "SlottedMeshModel" "rank" "[I" ∈ gz := gz_t (List.mem_of_getElem? (i := 514) (by decide +kernel)) rfl
theorem kw_515 : Cond.fieldLink "SlottedMeshModel" 36 "SlottedMeshModel" "parents" "[I" ∈ gz := gz_t (List.mem_of_getElem? (i := 515) (by decide +kernel)) rfl
theorem kw_516 : Cond.fieldLink "SlottedMeshModel" 39 "SlottedMeshModel" "cells" "[I" ∈ gz := gz_t (List.mem_of_getElem? (i := 516) (by decide +kernel)) rfl
theorem kw_517 : Cond.fieldLink "SlottedMeshModel" 42 "SlottedMeshModel" "newRank" "[I" ∈ gz := gz_t (List.mem_of_getElem? (i := 517) (by decide +kernel)) rfl
theorem kw_518 : Cond.fieldLink "SlottedMeshModel" 45 "SlottedMeshModel" "newParents" "[I" ∈ gz := gz_t (List.mem_of_getElem? (i := 518) (by decide +kernel)) rfl
theorem kw_519 : Cond.fieldLink "SlottedMeshModel" 48 "SlottedMeshModel" "newCells" "[I" ∈ gz := gz_t (List.mem_of_getElem? (i := 519) (by decide +kernel)) rfl
theorem kw_520 : Cond.fieldLink "SlottedMeshModel" 51 "SlottedMeshModel" "many" "[I" ∈ gz := gz_t (List.mem_of_getElem? (i := 520) (by decide +kernel)) rfl
theorem kw_521 : Cond.fieldLink "SlottedMeshModel" 54 "SlottedMeshModel" "end" "[I" ∈ gz := gz_t (List.mem_of_getElem? (i := 521) (by decide +kernel)) rfl
theorem kw_522 : Cond.fieldLink "SlottedMeshModel" 57 "SlottedMeshModel" "number" "[I" ∈ gz := gz_t (List.mem_of_getElem? (i := 522) (by decide +kernel)) rfl
theorem kw_523 : Cond.fieldLink "SlottedMeshModel" 60 "SlottedMeshModel" "value" "[I" ∈ gz := gz_t (List.mem_of_getElem? (i := 523) (by decide +kernel)) rfl
theorem kw_524 : Cond.fieldLink "SlottedMeshModel" 63 "SlottedMeshModel" "fails" "[I" ∈ gz := gz_t (List.mem_of_getElem? (i := 524) (by decide +kernel)) rfl
theorem kw_525 : Cond.fieldLink "SlottedMeshModel" 66 "SlottedMeshModel" "tries" "[I" ∈ gz := gz_t (List.mem_of_getElem? (i := 525) (by decide +kernel)) rfl
theorem kw_526 : Cond.fieldLink "SlottedMeshModel" 69 "SlottedMeshModel" "took" "[I" ∈ gz := gz_t (List.mem_of_getElem? (i := 526) (by decide +kernel)) rfl
theorem kw_527 : Cond.fieldLink "SlottedMeshModel" 72 "SlottedMeshModel" "counted" "[I" ∈ gz := gz_t (List.mem_of_getElem? (i := 527) (by decide +kernel)) rfl
theorem kw_528 : Cond.fieldLink "SlottedMeshModel" 75 "SlottedMeshModel" "kept" "[I" ∈ gz := gz_t (List.mem_of_getElem? (i := 528) (by decide +kernel)) rfl
theorem kw_529 : Cond.fieldLink "SlottedMeshModel" 78 "SlottedMeshModel" "keeps" "[I" ∈ gz := gz_t (List.mem_of_getElem? (i := 529) (by decide +kernel)) rfl
theorem kw_530 : Cond.fieldLink "SlottedMeshModel" 81 "SlottedMeshModel" "target" "[I" ∈ gz := gz_t (List.mem_of_getElem? (i := 530) (by decide +kernel)) rfl
theorem kw_531 : Cond.fieldLink "SlottedMeshModel" 84 "SlottedMeshModel" "ps" "[I" ∈ gz := gz_t (List.mem_of_getElem? (i := 531) (by decide +kernel)) rfl
theorem kw_532 : Cond.fieldLink "SlottedMeshModel" 87 "SlottedMeshModel" "is" "[I" ∈ gz := gz_t (List.mem_of_getElem? (i := 532) (by decide +kernel)) rfl
theorem kw_533 : Cond.fieldLink "SlottedMeshModel" 90 "SlottedMeshModel" "sum" "[I" ∈ gz := gz_t (List.mem_of_getElem? (i := 533) (by decide +kernel)) rfl
theorem kw_534 : Cond.fieldLink "SlottedMeshModel" 93 "SlottedMeshModel" "actuators" "[I" ∈ gz := gz_t (List.mem_of_getElem? (i := 534) (by decide +kernel)) rfl
theorem kw_604 : Cond.arrayClass .long ∈ gz := gz_t (List.mem_of_getElem? (i := 604) (by decide +kernel)) rfl
theorem kw_605 : Cond.methodLink "SlottedMeshLaw" 25 ⟨"SlottedMeshModel", "pair", "(IIZ)Z"⟩ ∈ gz := gz_t (List.mem_of_getElem? (i := 605) (by decide +kernel)) rfl
theorem kw_606 : Cond.instanceMethod ⟨"SlottedMeshModel", "pair", "(IIZ)Z"⟩ ∈ gz := gz_t (List.mem_of_getElem? (i := 606) (by decide +kernel)) rfl
theorem kw_607 : Cond.selects "SlottedMeshModel" ⟨"SlottedMeshModel", "pair", "(IIZ)Z"⟩ ⟨"SlottedMeshModel", "pair", "(IIZ)Z"⟩ ∈ gz := gz_t (List.mem_of_getElem? (i := 607) (by decide +kernel)) rfl
theorem kw_608 : Cond.code ⟨"SlottedMeshModel", "pair", "(IIZ)Z"⟩ prog_8_method_3_code 4 (some .boolean) ∈ gz := gz_t (List.mem_of_getElem? (i := 608) (by decide +kernel)) rfl
theorem kw_609 : Cond.methodLink "SlottedMeshModel" 108 ⟨"SlottedMeshModel", "noNode", "(I)Z"⟩ ∈ gz := gz_t (List.mem_of_getElem? (i := 609) (by decide +kernel)) rfl
theorem kw_611 : Cond.instanceMethod ⟨"SlottedMeshModel", "noNode", "(I)Z"⟩ ∈ gz := gz_t (List.mem_of_getElem? (i := 611) (by decide +kernel)) rfl
theorem kw_612 : Cond.code ⟨"SlottedMeshModel", "noNode", "(I)Z"⟩ prog_8_method_2_code 2 (some .boolean) ∈ gz := gz_t (List.mem_of_getElem? (i := 612) (by decide +kernel)) rfl
theorem kw_613 : Cond.methodLink "SlottedMeshLaw" 30 ⟨"SlottedMeshModel", "plan", "()I"⟩ ∈ gz := gz_t (List.mem_of_getElem? (i := 613) (by decide +kernel)) rfl
theorem kw_614 : Cond.instanceMethod ⟨"SlottedMeshModel", "plan", "()I"⟩ ∈ gz := gz_t (List.mem_of_getElem? (i := 614) (by decide +kernel)) rfl
theorem kw_615 : Cond.selects "SlottedMeshModel" ⟨"SlottedMeshModel", "plan", "()I"⟩ ⟨"SlottedMeshModel", "plan", "()I"⟩ ∈ gz := gz_t (List.mem_of_getElem? (i := 615) (by decide +kernel)) rfl
theorem kw_616 : Cond.code ⟨"SlottedMeshModel", "plan", "()I"⟩ prog_8_method_11_code 3 (some .int) ∈ gz := gz_t (List.mem_of_getElem? (i := 616) (by decide +kernel)) rfl
theorem kw_617 : Cond.methodLink "SlottedMeshModel" 125 ⟨"SlottedMeshModel", "ranks", "()Z"⟩ ∈ gz := gz_t (List.mem_of_getElem? (i := 617) (by decide +kernel)) rfl
theorem kw_619 : Cond.instanceMethod ⟨"SlottedMeshModel", "ranks", "()Z"⟩ ∈ gz := gz_t (List.mem_of_getElem? (i := 619) (by decide +kernel)) rfl
theorem kw_620 : Cond.code ⟨"SlottedMeshModel", "ranks", "()Z"⟩ prog_8_method_4_code 4 (some .boolean) ∈ gz := gz_t (List.mem_of_getElem? (i := 620) (by decide +kernel)) rfl
theorem kw_621 : Cond.methodLink "SlottedMeshModel" 129 ⟨"SlottedMeshModel", "findParents", "()V"⟩ ∈ gz := gz_t (List.mem_of_getElem? (i := 621) (by decide +kernel)) rfl
theorem kw_623 : Cond.instanceMethod ⟨"SlottedMeshModel", "findParents", "()V"⟩ ∈ gz := gz_t (List.mem_of_getElem? (i := 623) (by decide +kernel)) rfl
theorem kw_624 : Cond.code ⟨"SlottedMeshModel", "findParents", "()V"⟩ prog_8_method_5_code 4 none ∈ gz := gz_t (List.mem_of_getElem? (i := 624) (by decide +kernel)) rfl
theorem kw_625 : Cond.methodLink "SlottedMeshModel" 132 ⟨"SlottedMeshModel", "placeAll", "()Z"⟩ ∈ gz := gz_t (List.mem_of_getElem? (i := 625) (by decide +kernel)) rfl
theorem kw_627 : Cond.instanceMethod ⟨"SlottedMeshModel", "placeAll", "()Z"⟩ ∈ gz := gz_t (List.mem_of_getElem? (i := 627) (by decide +kernel)) rfl
theorem kw_628 : Cond.code ⟨"SlottedMeshModel", "placeAll", "()Z"⟩ prog_8_method_10_code 6 (some .boolean) ∈ gz := gz_t (List.mem_of_getElem? (i := 628) (by decide +kernel)) rfl
theorem kw_629 : Cond.methodLink "SlottedMeshModel" 119 ⟨"SlottedMeshModel", "placeAdvert", "(I)Z"⟩ ∈ gz := gz_t (List.mem_of_getElem? (i := 629) (by decide +kernel)) rfl
theorem kw_631 : Cond.instanceMethod ⟨"SlottedMeshModel", "placeAdvert", "(I)Z"⟩ ∈ gz := gz_t (List.mem_of_getElem? (i := 631) (by decide +kernel)) rfl
theorem kw_632 : Cond.code ⟨"SlottedMeshModel", "placeAdvert", "(I)Z"⟩ prog_8_method_8_code 4 (some .boolean) ∈ gz := gz_t (List.mem_of_getElem? (i := 632) (by decide +kernel)) rfl
theorem kw_633 : Cond.methodLink "SlottedMeshModel" 122 ⟨"SlottedMeshModel", "place", "(I)Z"⟩ ∈ gz := gz_t (List.mem_of_getElem? (i := 633) (by decide +kernel)) rfl
theorem kw_635 : Cond.instanceMethod ⟨"SlottedMeshModel", "place", "(I)Z"⟩ ∈ gz := gz_t (List.mem_of_getElem? (i := 635) (by decide +kernel)) rfl
theorem kw_636 : Cond.code ⟨"SlottedMeshModel", "place", "(I)Z"⟩ prog_8_method_9_code 8 (some .boolean) ∈ gz := gz_t (List.mem_of_getElem? (i := 636) (by decide +kernel)) rfl
theorem kw_637 : Cond.methodLink "SlottedMeshModel" 112 ⟨"SlottedMeshModel", "first", "(I)I"⟩ ∈ gz := gz_t (List.mem_of_getElem? (i := 637) (by decide +kernel)) rfl
theorem kw_638 : Cond.static ⟨"SlottedMeshModel", "first", "(I)I"⟩ ∈ gz := gz_t (List.mem_of_getElem? (i := 638) (by decide +kernel)) rfl
theorem kw_639 : Cond.code ⟨"SlottedMeshModel", "first", "(I)I"⟩ prog_8_method_6_code 1 (some .int) ∈ gz := gz_t (List.mem_of_getElem? (i := 639) (by decide +kernel)) rfl
theorem kw_640 : Cond.methodLink "SlottedMeshModel" 116 ⟨"SlottedMeshModel", "second", "(I)I"⟩ ∈ gz := gz_t (List.mem_of_getElem? (i := 640) (by decide +kernel)) rfl
theorem kw_641 : Cond.static ⟨"SlottedMeshModel", "second", "(I)I"⟩ ∈ gz := gz_t (List.mem_of_getElem? (i := 641) (by decide +kernel)) rfl
theorem kw_642 : Cond.code ⟨"SlottedMeshModel", "second", "(I)I"⟩ prog_8_method_7_code 1 (some .int) ∈ gz := gz_t (List.mem_of_getElem? (i := 642) (by decide +kernel)) rfl
theorem kw_643 : Cond.methodLink "SlottedMeshLaw" 35 ⟨"SlottedMeshModel", "start", "(I)Z"⟩ ∈ gz := gz_t (List.mem_of_getElem? (i := 643) (by decide +kernel)) rfl
theorem kw_644 : Cond.instanceMethod ⟨"SlottedMeshModel", "start", "(I)Z"⟩ ∈ gz := gz_t (List.mem_of_getElem? (i := 644) (by decide +kernel)) rfl
theorem kw_645 : Cond.selects "SlottedMeshModel" ⟨"SlottedMeshModel", "start", "(I)Z"⟩ ⟨"SlottedMeshModel", "start", "(I)Z"⟩ ∈ gz := gz_t (List.mem_of_getElem? (i := 645) (by decide +kernel)) rfl
theorem kw_646 : Cond.code ⟨"SlottedMeshModel", "start", "(I)Z"⟩ prog_8_method_12_code 2 (some .boolean) ∈ gz := gz_t (List.mem_of_getElem? (i := 646) (by decide +kernel)) rfl
theorem kw_647 : Cond.methodLink "SlottedMeshLaw" 39 ⟨"SlottedMeshModel", "stop", "(I)Z"⟩ ∈ gz := gz_t (List.mem_of_getElem? (i := 647) (by decide +kernel)) rfl
theorem kw_648 : Cond.instanceMethod ⟨"SlottedMeshModel", "stop", "(I)Z"⟩ ∈ gz := gz_t (List.mem_of_getElem? (i := 648) (by decide +kernel)) rfl
theorem kw_649 : Cond.selects "SlottedMeshModel" ⟨"SlottedMeshModel", "stop", "(I)Z"⟩ ⟨"SlottedMeshModel", "stop", "(I)Z"⟩ ∈ gz := gz_t (List.mem_of_getElem? (i := 649) (by decide +kernel)) rfl
theorem kw_650 : Cond.code ⟨"SlottedMeshModel", "stop", "(I)Z"⟩ prog_8_method_13_code 3 (some .boolean) ∈ gz := gz_t (List.mem_of_getElem? (i := 650) (by decide +kernel)) rfl
theorem kw_651 : Cond.methodLink "SlottedMeshLaw" 44 ⟨"SlottedMeshModel", "drift", "(II)Z"⟩ ∈ gz := gz_t (List.mem_of_getElem? (i := 651) (by decide +kernel)) rfl
theorem kw_652 : Cond.instanceMethod ⟨"SlottedMeshModel", "drift", "(II)Z"⟩ ∈ gz := gz_t (List.mem_of_getElem? (i := 652) (by decide +kernel)) rfl
theorem kw_653 : Cond.selects "SlottedMeshModel" ⟨"SlottedMeshModel", "drift", "(II)Z"⟩ ⟨"SlottedMeshModel", "drift", "(II)Z"⟩ ∈ gz := gz_t (List.mem_of_getElem? (i := 653) (by decide +kernel)) rfl
theorem kw_654 : Cond.code ⟨"SlottedMeshModel", "drift", "(II)Z"⟩ prog_8_method_14_code 3 (some .boolean) ∈ gz := gz_t (List.mem_of_getElem? (i := 654) (by decide +kernel)) rfl
theorem kw_655 : Cond.methodLink "SlottedMeshLaw" 51 ⟨"SlottedMeshModel", "radio", "(IJJ)Z"⟩ ∈ gz := gz_t (List.mem_of_getElem? (i := 655) (by decide +kernel)) rfl
theorem kw_656 : Cond.instanceMethod ⟨"SlottedMeshModel", "radio", "(IJJ)Z"⟩ ∈ gz := gz_t (List.mem_of_getElem? (i := 656) (by decide +kernel)) rfl
theorem kw_657 : Cond.selects "SlottedMeshModel" ⟨"SlottedMeshModel", "radio", "(IJJ)Z"⟩ ⟨"SlottedMeshModel", "radio", "(IJJ)Z"⟩ ∈ gz := gz_t (List.mem_of_getElem? (i := 657) (by decide +kernel)) rfl
theorem kw_658 : Cond.code ⟨"SlottedMeshModel", "radio", "(IJJ)Z"⟩ prog_8_method_15_code 6 (some .boolean) ∈ gz := gz_t (List.mem_of_getElem? (i := 658) (by decide +kernel)) rfl
theorem kw_659 : Cond.methodLink "SlottedMeshLaw" 56 ⟨"SlottedMeshModel", "sample", "(II)I"⟩ ∈ gz := gz_t (List.mem_of_getElem? (i := 659) (by decide +kernel)) rfl
theorem kw_660 : Cond.instanceMethod ⟨"SlottedMeshModel", "sample", "(II)I"⟩ ∈ gz := gz_t (List.mem_of_getElem? (i := 660) (by decide +kernel)) rfl
theorem kw_661 : Cond.selects "SlottedMeshModel" ⟨"SlottedMeshModel", "sample", "(II)I"⟩ ⟨"SlottedMeshModel", "sample", "(II)I"⟩ ∈ gz := gz_t (List.mem_of_getElem? (i := 661) (by decide +kernel)) rfl
theorem kw_662 : Cond.code ⟨"SlottedMeshModel", "sample", "(II)I"⟩ prog_8_method_18_code 3 (some .int) ∈ gz := gz_t (List.mem_of_getElem? (i := 662) (by decide +kernel)) rfl
theorem kw_663 : Cond.methodLink "SlottedMeshModel" 139 ⟨"SlottedMeshModel", "add", "(IIII)V"⟩ ∈ gz := gz_t (List.mem_of_getElem? (i := 663) (by decide +kernel)) rfl
theorem kw_665 : Cond.instanceMethod ⟨"SlottedMeshModel", "add", "(IIII)V"⟩ ∈ gz := gz_t (List.mem_of_getElem? (i := 665) (by decide +kernel)) rfl
theorem kw_666 : Cond.code ⟨"SlottedMeshModel", "add", "(IIII)V"⟩ prog_8_method_16_code 6 none ∈ gz := gz_t (List.mem_of_getElem? (i := 666) (by decide +kernel)) rfl
theorem kw_667 : Cond.methodLink "SlottedMeshLaw" 61 ⟨"SlottedMeshModel", "control", "(IIII)Z"⟩ ∈ gz := gz_t (List.mem_of_getElem? (i := 667) (by decide +kernel)) rfl
theorem kw_668 : Cond.instanceMethod ⟨"SlottedMeshModel", "control", "(IIII)Z"⟩ ∈ gz := gz_t (List.mem_of_getElem? (i := 668) (by decide +kernel)) rfl
theorem kw_669 : Cond.selects "SlottedMeshModel" ⟨"SlottedMeshModel", "control", "(IIII)Z"⟩ ⟨"SlottedMeshModel", "control", "(IIII)Z"⟩ ∈ gz := gz_t (List.mem_of_getElem? (i := 669) (by decide +kernel)) rfl
theorem kw_670 : Cond.code ⟨"SlottedMeshModel", "control", "(IIII)Z"⟩ prog_8_method_19_code 5 (some .boolean) ∈ gz := gz_t (List.mem_of_getElem? (i := 670) (by decide +kernel)) rfl
theorem kw_671 : Cond.methodLink "SlottedMeshLaw" 66 ⟨"SlottedMeshModel", "run", "(I)I"⟩ ∈ gz := gz_t (List.mem_of_getElem? (i := 671) (by decide +kernel)) rfl
theorem kw_672 : Cond.instanceMethod ⟨"SlottedMeshModel", "run", "(I)I"⟩ ∈ gz := gz_t (List.mem_of_getElem? (i := 672) (by decide +kernel)) rfl
theorem kw_673 : Cond.selects "SlottedMeshModel" ⟨"SlottedMeshModel", "run", "(I)I"⟩ ⟨"SlottedMeshModel", "run", "(I)I"⟩ ∈ gz := gz_t (List.mem_of_getElem? (i := 673) (by decide +kernel)) rfl
theorem kw_674 : Cond.code ⟨"SlottedMeshModel", "run", "(I)I"⟩ prog_8_method_30_code 3 (some .int) ∈ gz := gz_t (List.mem_of_getElem? (i := 674) (by decide +kernel)) rfl
theorem kw_675 : Cond.methodLink "SlottedMeshModel" 185 ⟨"SlottedMeshModel", "slot", "()V"⟩ ∈ gz := gz_t (List.mem_of_getElem? (i := 675) (by decide +kernel)) rfl
theorem kw_677 : Cond.instanceMethod ⟨"SlottedMeshModel", "slot", "()V"⟩ ∈ gz := gz_t (List.mem_of_getElem? (i := 677) (by decide +kernel)) rfl
theorem kw_678 : Cond.code ⟨"SlottedMeshModel", "slot", "()V"⟩ prog_8_method_29_code 6 none ∈ gz := gz_t (List.mem_of_getElem? (i := 678) (by decide +kernel)) rfl
theorem kw_679 : Cond.methodLink "SlottedMeshModel" 176 ⟨"SlottedMeshModel", "advert", "(I)V"⟩ ∈ gz := gz_t (List.mem_of_getElem? (i := 679) (by decide +kernel)) rfl
theorem kw_681 : Cond.instanceMethod ⟨"SlottedMeshModel", "advert", "(I)V"⟩ ∈ gz := gz_t (List.mem_of_getElem? (i := 681) (by decide +kernel)) rfl
theorem kw_682 : Cond.code ⟨"SlottedMeshModel", "advert", "(I)V"⟩ prog_8_method_24_code 3 none ∈ gz := gz_t (List.mem_of_getElem? (i := 682) (by decide +kernel)) rfl
theorem kw_683 : Cond.methodLink "SlottedMeshModel" 150 ⟨"SlottedMeshModel", "bit", "(JI)Z"⟩ ∈ gz := gz_t (List.mem_of_getElem? (i := 683) (by decide +kernel)) rfl
theorem kw_684 : Cond.static ⟨"SlottedMeshModel", "bit", "(JI)Z"⟩ ∈ gz := gz_t (List.mem_of_getElem? (i := 684) (by decide +kernel)) rfl
theorem kw_685 : Cond.code ⟨"SlottedMeshModel", "bit", "(JI)Z"⟩ prog_8_method_22_code 3 (some .boolean) ∈ gz := gz_t (List.mem_of_getElem? (i := 685) (by decide +kernel)) rfl
theorem kw_686 : Cond.methodLink "SlottedMeshModel" 154 ⟨"SlottedMeshModel", "close", "(II)Z"⟩ ∈ gz := gz_t (List.mem_of_getElem? (i := 686) (by decide +kernel)) rfl
theorem kw_688 : Cond.instanceMethod ⟨"SlottedMeshModel", "close", "(II)Z"⟩ ∈ gz := gz_t (List.mem_of_getElem? (i := 688) (by decide +kernel)) rfl
theorem kw_689 : Cond.code ⟨"SlottedMeshModel", "close", "(II)Z"⟩ prog_8_method_23_code 4 (some .boolean) ∈ gz := gz_t (List.mem_of_getElem? (i := 689) (by decide +kernel)) rfl
theorem kw_690 : Cond.methodLink "SlottedMeshModel" 179 ⟨"SlottedMeshModel", "down", "(III)V"⟩ ∈ gz := gz_t (List.mem_of_getElem? (i := 690) (by decide +kernel)) rfl
theorem kw_692 : Cond.instanceMethod ⟨"SlottedMeshModel", "down", "(III)V"⟩ ∈ gz := gz_t (List.mem_of_getElem? (i := 692) (by decide +kernel)) rfl
theorem kw_693 : Cond.code ⟨"SlottedMeshModel", "down", "(III)V"⟩ prog_8_method_28_code 8 none ∈ gz := gz_t (List.mem_of_getElem? (i := 693) (by decide +kernel)) rfl
theorem kw_694 : Cond.methodLink "SlottedMeshModel" 173 ⟨"SlottedMeshModel", "below", "(II)Z"⟩ ∈ gz := gz_t (List.mem_of_getElem? (i := 694) (by decide +kernel)) rfl
theorem kw_696 : Cond.instanceMethod ⟨"SlottedMeshModel", "below", "(II)Z"⟩ ∈ gz := gz_t (List.mem_of_getElem? (i := 696) (by decide +kernel)) rfl
theorem kw_697 : Cond.code ⟨"SlottedMeshModel", "below", "(II)Z"⟩ prog_8_method_27_code 5 (some .boolean) ∈ gz := gz_t (List.mem_of_getElem? (i := 697) (by decide +kernel)) rfl
theorem kw_698 : Cond.methodLink "SlottedMeshModel" 161 ⟨"SlottedMeshModel", "hears", "(III)Z"⟩ ∈ gz := gz_t (List.mem_of_getElem? (i := 698) (by decide +kernel)) rfl
theorem kw_700 : Cond.instanceMethod ⟨"SlottedMeshModel", "hears", "(III)Z"⟩ ∈ gz := gz_t (List.mem_of_getElem? (i := 700) (by decide +kernel)) rfl
theorem kw_701 : Cond.code ⟨"SlottedMeshModel", "hears", "(III)Z"⟩ prog_8_method_25_code 4 (some .boolean) ∈ gz := gz_t (List.mem_of_getElem? (i := 701) (by decide +kernel)) rfl
theorem kw_702 : Cond.methodLink "SlottedMeshModel" 169 ⟨"SlottedMeshModel", "leave", "(I)V"⟩ ∈ gz := gz_t (List.mem_of_getElem? (i := 702) (by decide +kernel)) rfl
theorem kw_704 : Cond.instanceMethod ⟨"SlottedMeshModel", "leave", "(I)V"⟩ ∈ gz := gz_t (List.mem_of_getElem? (i := 704) (by decide +kernel)) rfl
theorem kw_705 : Cond.code ⟨"SlottedMeshModel", "leave", "(I)V"⟩ prog_8_method_17_code 3 none ∈ gz := gz_t (List.mem_of_getElem? (i := 705) (by decide +kernel)) rfl
theorem kw_706 : Cond.methodLink "SlottedMeshModel" 182 ⟨"SlottedMeshModel", "up", "(III)V"⟩ ∈ gz := gz_t (List.mem_of_getElem? (i := 706) (by decide +kernel)) rfl
theorem kw_708 : Cond.instanceMethod ⟨"SlottedMeshModel", "up", "(III)V"⟩ ∈ gz := gz_t (List.mem_of_getElem? (i := 708) (by decide +kernel)) rfl
theorem kw_709 : Cond.code ⟨"SlottedMeshModel", "up", "(III)V"⟩ prog_8_method_26_code 7 none ∈ gz := gz_t (List.mem_of_getElem? (i := 709) (by decide +kernel)) rfl
theorem kw_710 : Cond.methodLink "SlottedMeshModel" 165 ⟨"SlottedMeshModel", "cache", "(III)V"⟩ ∈ gz := gz_t (List.mem_of_getElem? (i := 710) (by decide +kernel)) rfl
theorem kw_712 : Cond.instanceMethod ⟨"SlottedMeshModel", "cache", "(III)V"⟩ ∈ gz := gz_t (List.mem_of_getElem? (i := 712) (by decide +kernel)) rfl
theorem kw_713 : Cond.code ⟨"SlottedMeshModel", "cache", "(III)V"⟩ prog_8_method_21_code 7 none ∈ gz := gz_t (List.mem_of_getElem? (i := 713) (by decide +kernel)) rfl
theorem kw_714 : Cond.methodLink "SlottedMeshModel" 143 ⟨"SlottedMeshModel", "within", "(II)I"⟩ ∈ gz := gz_t (List.mem_of_getElem? (i := 714) (by decide +kernel)) rfl
theorem kw_715 : Cond.static ⟨"SlottedMeshModel", "within", "(II)I"⟩ ∈ gz := gz_t (List.mem_of_getElem? (i := 715) (by decide +kernel)) rfl
theorem kw_716 : Cond.code ⟨"SlottedMeshModel", "within", "(II)I"⟩ prog_8_method_20_code 2 (some .int) ∈ gz := gz_t (List.mem_of_getElem? (i := 716) (by decide +kernel)) rfl
theorem kw_717 : Cond.methodLink "SlottedMeshLaw" 70 ⟨"SlottedMeshModel", "rank", "(I)I"⟩ ∈ gz := gz_t (List.mem_of_getElem? (i := 717) (by decide +kernel)) rfl
theorem kw_718 : Cond.instanceMethod ⟨"SlottedMeshModel", "rank", "(I)I"⟩ ∈ gz := gz_t (List.mem_of_getElem? (i := 718) (by decide +kernel)) rfl
theorem kw_719 : Cond.selects "SlottedMeshModel" ⟨"SlottedMeshModel", "rank", "(I)I"⟩ ⟨"SlottedMeshModel", "rank", "(I)I"⟩ ∈ gz := gz_t (List.mem_of_getElem? (i := 719) (by decide +kernel)) rfl
theorem kw_720 : Cond.code ⟨"SlottedMeshModel", "rank", "(I)I"⟩ prog_8_method_31_code 2 (some .int) ∈ gz := gz_t (List.mem_of_getElem? (i := 720) (by decide +kernel)) rfl
theorem kw_721 : Cond.methodLink "SlottedMeshLaw" 74 ⟨"SlottedMeshModel", "parent", "(II)I"⟩ ∈ gz := gz_t (List.mem_of_getElem? (i := 721) (by decide +kernel)) rfl
theorem kw_722 : Cond.instanceMethod ⟨"SlottedMeshModel", "parent", "(II)I"⟩ ∈ gz := gz_t (List.mem_of_getElem? (i := 722) (by decide +kernel)) rfl
theorem kw_723 : Cond.selects "SlottedMeshModel" ⟨"SlottedMeshModel", "parent", "(II)I"⟩ ⟨"SlottedMeshModel", "parent", "(II)I"⟩ ∈ gz := gz_t (List.mem_of_getElem? (i := 723) (by decide +kernel)) rfl
theorem kw_724 : Cond.code ⟨"SlottedMeshModel", "parent", "(II)I"⟩ prog_8_method_32_code 3 (some .int) ∈ gz := gz_t (List.mem_of_getElem? (i := 724) (by decide +kernel)) rfl
theorem kw_725 : Cond.methodLink "SlottedMeshLaw" 77 ⟨"SlottedMeshModel", "cell", "(II)I"⟩ ∈ gz := gz_t (List.mem_of_getElem? (i := 725) (by decide +kernel)) rfl
theorem kw_726 : Cond.instanceMethod ⟨"SlottedMeshModel", "cell", "(II)I"⟩ ∈ gz := gz_t (List.mem_of_getElem? (i := 726) (by decide +kernel)) rfl
theorem kw_727 : Cond.selects "SlottedMeshModel" ⟨"SlottedMeshModel", "cell", "(II)I"⟩ ⟨"SlottedMeshModel", "cell", "(II)I"⟩ ∈ gz := gz_t (List.mem_of_getElem? (i := 727) (by decide +kernel)) rfl
theorem kw_728 : Cond.code ⟨"SlottedMeshModel", "cell", "(II)I"⟩ prog_8_method_33_code 3 (some .int) ∈ gz := gz_t (List.mem_of_getElem? (i := 728) (by decide +kernel)) rfl
theorem kw_729 : Cond.methodLink "SlottedMeshLaw" 81 ⟨"SlottedMeshModel", "current", "(I)Z"⟩ ∈ gz := gz_t (List.mem_of_getElem? (i := 729) (by decide +kernel)) rfl
theorem kw_730 : Cond.instanceMethod ⟨"SlottedMeshModel", "current", "(I)Z"⟩ ∈ gz := gz_t (List.mem_of_getElem? (i := 730) (by decide +kernel)) rfl
theorem kw_731 : Cond.selects "SlottedMeshModel" ⟨"SlottedMeshModel", "current", "(I)Z"⟩ ⟨"SlottedMeshModel", "current", "(I)Z"⟩ ∈ gz := gz_t (List.mem_of_getElem? (i := 731) (by decide +kernel)) rfl
theorem kw_732 : Cond.code ⟨"SlottedMeshModel", "current", "(I)Z"⟩ prog_8_method_34_code 2 (some .boolean) ∈ gz := gz_t (List.mem_of_getElem? (i := 732) (by decide +kernel)) rfl
theorem kw_733 : Cond.methodLink "SlottedMeshLaw" 85 ⟨"SlottedMeshModel", "offset", "(I)I"⟩ ∈ gz := gz_t (List.mem_of_getElem? (i := 733) (by decide +kernel)) rfl
theorem kw_734 : Cond.instanceMethod ⟨"SlottedMeshModel", "offset", "(I)I"⟩ ∈ gz := gz_t (List.mem_of_getElem? (i := 734) (by decide +kernel)) rfl
theorem kw_735 : Cond.selects "SlottedMeshModel" ⟨"SlottedMeshModel", "offset", "(I)I"⟩ ⟨"SlottedMeshModel", "offset", "(I)I"⟩ ∈ gz := gz_t (List.mem_of_getElem? (i := 735) (by decide +kernel)) rfl
theorem kw_736 : Cond.code ⟨"SlottedMeshModel", "offset", "(I)I"⟩ prog_8_method_35_code 2 (some .int) ∈ gz := gz_t (List.mem_of_getElem? (i := 736) (by decide +kernel)) rfl
theorem kw_737 : Cond.methodLink "SlottedMeshLaw" 89 ⟨"SlottedMeshModel", "count", "(II)I"⟩ ∈ gz := gz_t (List.mem_of_getElem? (i := 737) (by decide +kernel)) rfl
theorem kw_738 : Cond.instanceMethod ⟨"SlottedMeshModel", "count", "(II)I"⟩ ∈ gz := gz_t (List.mem_of_getElem? (i := 738) (by decide +kernel)) rfl
theorem kw_739 : Cond.selects "SlottedMeshModel" ⟨"SlottedMeshModel", "count", "(II)I"⟩ ⟨"SlottedMeshModel", "count", "(II)I"⟩ ∈ gz := gz_t (List.mem_of_getElem? (i := 739) (by decide +kernel)) rfl
theorem kw_740 : Cond.code ⟨"SlottedMeshModel", "count", "(II)I"⟩ prog_8_method_36_code 3 (some .int) ∈ gz := gz_t (List.mem_of_getElem? (i := 740) (by decide +kernel)) rfl
theorem kw_741 : Cond.methodLink "SlottedMeshLaw" 93 ⟨"SlottedMeshModel", "cached", "(II)I"⟩ ∈ gz := gz_t (List.mem_of_getElem? (i := 741) (by decide +kernel)) rfl
theorem kw_742 : Cond.instanceMethod ⟨"SlottedMeshModel", "cached", "(II)I"⟩ ∈ gz := gz_t (List.mem_of_getElem? (i := 742) (by decide +kernel)) rfl
theorem kw_743 : Cond.selects "SlottedMeshModel" ⟨"SlottedMeshModel", "cached", "(II)I"⟩ ⟨"SlottedMeshModel", "cached", "(II)I"⟩ ∈ gz := gz_t (List.mem_of_getElem? (i := 743) (by decide +kernel)) rfl
theorem kw_744 : Cond.code ⟨"SlottedMeshModel", "cached", "(II)I"⟩ prog_8_method_37_code 3 (some .int) ∈ gz := gz_t (List.mem_of_getElem? (i := 744) (by decide +kernel)) rfl
theorem kw_745 : Cond.methodLink "SlottedMeshLaw" 97 ⟨"SlottedMeshModel", "latest", "(I)I"⟩ ∈ gz := gz_t (List.mem_of_getElem? (i := 745) (by decide +kernel)) rfl
theorem kw_746 : Cond.instanceMethod ⟨"SlottedMeshModel", "latest", "(I)I"⟩ ∈ gz := gz_t (List.mem_of_getElem? (i := 746) (by decide +kernel)) rfl
theorem kw_747 : Cond.selects "SlottedMeshModel" ⟨"SlottedMeshModel", "latest", "(I)I"⟩ ⟨"SlottedMeshModel", "latest", "(I)I"⟩ ∈ gz := gz_t (List.mem_of_getElem? (i := 747) (by decide +kernel)) rfl
theorem kw_748 : Cond.code ⟨"SlottedMeshModel", "latest", "(I)I"⟩ prog_8_method_38_code 2 (some .int) ∈ gz := gz_t (List.mem_of_getElem? (i := 748) (by decide +kernel)) rfl
theorem kw_749 : Cond.methodLink "SlottedMeshLaw" 101 ⟨"SlottedMeshModel", "actuator", "(I)I"⟩ ∈ gz := gz_t (List.mem_of_getElem? (i := 749) (by decide +kernel)) rfl
theorem kw_750 : Cond.instanceMethod ⟨"SlottedMeshModel", "actuator", "(I)I"⟩ ∈ gz := gz_t (List.mem_of_getElem? (i := 750) (by decide +kernel)) rfl
theorem kw_751 : Cond.selects "SlottedMeshModel" ⟨"SlottedMeshModel", "actuator", "(I)I"⟩ ⟨"SlottedMeshModel", "actuator", "(I)I"⟩ ∈ gz := gz_t (List.mem_of_getElem? (i := 751) (by decide +kernel)) rfl
theorem kw_752 : Cond.code ⟨"SlottedMeshModel", "actuator", "(I)I"⟩ prog_8_method_39_code 2 (some .int) ∈ gz := gz_t (List.mem_of_getElem? (i := 752) (by decide +kernel)) rfl
theorem kw_753 : Cond.methodLink "SlottedMeshLaw" 105 ⟨"SlottedMeshModel", "sent", "()I"⟩ ∈ gz := gz_t (List.mem_of_getElem? (i := 753) (by decide +kernel)) rfl
theorem kw_754 : Cond.instanceMethod ⟨"SlottedMeshModel", "sent", "()I"⟩ ∈ gz := gz_t (List.mem_of_getElem? (i := 754) (by decide +kernel)) rfl
theorem kw_755 : Cond.selects "SlottedMeshModel" ⟨"SlottedMeshModel", "sent", "()I"⟩ ⟨"SlottedMeshModel", "sent", "()I"⟩ ∈ gz := gz_t (List.mem_of_getElem? (i := 755) (by decide +kernel)) rfl
theorem kw_756 : Cond.code ⟨"SlottedMeshModel", "sent", "()I"⟩ prog_8_method_40_code 1 (some .int) ∈ gz := gz_t (List.mem_of_getElem? (i := 756) (by decide +kernel)) rfl
theorem kw_757 : Cond.constantLong "SlottedMeshLaw" 45 4294967295 ∈ gz := gz_t (List.mem_of_getElem? (i := 757) (by decide +kernel)) rfl
theorem ks_0 : Cond.selects "SlottedMesh" ⟨"SlottedMesh", "isNode", "(I)Z"⟩ ⟨"SlottedMesh", "isNode", "(I)Z"⟩ ∈ gz := gz_s (List.mem_of_getElem? (i := 0) (by decide +kernel)) rfl
theorem ks_1 : Cond.selects "SlottedMesh$Plan" ⟨"SlottedMesh$Plan", "findRanks", "([LSlottedMesh$Node;)Z"⟩ ⟨"SlottedMesh$Plan", "findRanks", "([LSlottedMesh$Node;)Z"⟩ ∈ gz := gz_s (List.mem_of_getElem? (i := 1) (by decide +kernel)) rfl
theorem ks_2 : Cond.selects "SlottedMesh$Plan" ⟨"SlottedMesh$Plan", "nextNearOfRank", "(LSlottedMesh$Node;II)I"⟩ ⟨"SlottedMesh$Plan", "nextNearOfRank", "(LSlottedMesh$Node;II)I"⟩ ∈ gz := gz_s (List.mem_of_getElem? (i := 2) (by decide +kernel)) rfl
theorem ks_3 : Cond.selects "SlottedMesh$Plan" ⟨"SlottedMesh$Plan", "findParents", "([LSlottedMesh$Node;)V"⟩ ⟨"SlottedMesh$Plan", "findParents", "([LSlottedMesh$Node;)V"⟩ ∈ gz := gz_s (List.mem_of_getElem? (i := 3) (by decide +kernel)) rfl
theorem ks_4 : Cond.selects "SlottedMesh$Plan" ⟨"SlottedMesh$Plan", "placeAdverts", "()Z"⟩ ⟨"SlottedMesh$Plan", "placeAdverts", "()Z"⟩ ∈ gz := gz_s (List.mem_of_getElem? (i := 4) (by decide +kernel)) rfl
theorem ks_5 : Cond.selects "SlottedMesh$Plan" ⟨"SlottedMesh$Plan", "placeAdvert", "(I)Z"⟩ ⟨"SlottedMesh$Plan", "placeAdvert", "(I)Z"⟩ ∈ gz := gz_s (List.mem_of_getElem? (i := 5) (by decide +kernel)) rfl
theorem ks_6 : Cond.selects "SlottedMesh$Plan" ⟨"SlottedMesh$Plan", "fillSlot", "(II)V"⟩ ⟨"SlottedMesh$Plan", "fillSlot", "(II)V"⟩ ∈ gz := gz_s (List.mem_of_getElem? (i := 6) (by decide +kernel)) rfl
theorem ks_7 : Cond.selects "SlottedMesh$Plan" ⟨"SlottedMesh$Plan", "placeLinks", "()Z"⟩ ⟨"SlottedMesh$Plan", "placeLinks", "()Z"⟩ ∈ gz := gz_s (List.mem_of_getElem? (i := 7) (by decide +kernel)) rfl
theorem ks_8 : Cond.selects "SlottedMesh$Plan" ⟨"SlottedMesh$Plan", "placeLink", "(III)Z"⟩ ⟨"SlottedMesh$Plan", "placeLink", "(III)Z"⟩ ∈ gz := gz_s (List.mem_of_getElem? (i := 8) (by decide +kernel)) rfl
theorem ks_9 : Cond.selects "SlottedMesh$Plan" ⟨"SlottedMesh$Plan", "freeChannel", "(III)I"⟩ ⟨"SlottedMesh$Plan", "freeChannel", "(III)I"⟩ ∈ gz := gz_s (List.mem_of_getElem? (i := 9) (by decide +kernel)) rfl
theorem ks_10 : Cond.selects "SlottedMesh" ⟨"SlottedMesh", "isFieldNode", "(I)Z"⟩ ⟨"SlottedMesh", "isFieldNode", "(I)Z"⟩ ∈ gz := gz_s (List.mem_of_getElem? (i := 10) (by decide +kernel)) rfl
theorem ks_11 : Cond.selects "SlottedMesh" ⟨"SlottedMesh", "isChannel", "(I)Z"⟩ ⟨"SlottedMesh", "isChannel", "(I)Z"⟩ ∈ gz := gz_s (List.mem_of_getElem? (i := 11) (by decide +kernel)) rfl
theorem ks_12 : Cond.selects "SlottedMesh" ⟨"SlottedMesh", "driftClocks", "()V"⟩ ⟨"SlottedMesh", "driftClocks", "()V"⟩ ∈ gz := gz_s (List.mem_of_getElem? (i := 12) (by decide +kernel)) rfl
theorem ks_13 : Cond.selects "SlottedMesh" ⟨"SlottedMesh", "playCells", "(I)V"⟩ ⟨"SlottedMesh", "playCells", "(I)V"⟩ ∈ gz := gz_s (List.mem_of_getElem? (i := 13) (by decide +kernel)) rfl
theorem ks_14 : Cond.selects "SlottedMesh" ⟨"SlottedMesh", "advertise", "(LSlottedMesh$Node;LSlottedMesh$Channel;)V"⟩ ⟨"SlottedMesh", "advertise", "(LSlottedMesh$Node;LSlottedMesh$Channel;)V"⟩ ∈ gz := gz_s (List.mem_of_getElem? (i := 14) (by decide +kernel)) rfl
theorem ks_15 : Cond.selects "SlottedMesh" ⟨"SlottedMesh", "answerAdvert", "(LSlottedMesh$Node;LSlottedMesh$Node;)V"⟩ ⟨"SlottedMesh", "answerAdvert", "(LSlottedMesh$Node;LSlottedMesh$Node;)V"⟩ ∈ gz := gz_s (List.mem_of_getElem? (i := 15) (by decide +kernel)) rfl
theorem ks_16 : Cond.selects "SlottedMesh" ⟨"SlottedMesh", "sendUp", "(LSlottedMesh$Node;LSlottedMesh$Node;LSlottedMesh$Channel;)V"⟩ ⟨"SlottedMesh", "sendUp", "(LSlottedMesh$Node;LSlottedMesh$Node;LSlottedMesh$Channel;)V"⟩ ∈ gz := gz_s (List.mem_of_getElem? (i := 16) (by decide +kernel)) rfl
theorem ks_17 : Cond.selects "SlottedMesh" ⟨"SlottedMesh", "hears", "(LSlottedMesh$Node;LSlottedMesh$Node;LSlottedMesh$Channel;)Z"⟩ ⟨"SlottedMesh", "hears", "(LSlottedMesh$Node;LSlottedMesh$Node;LSlottedMesh$Channel;)Z"⟩ ∈ gz := gz_s (List.mem_of_getElem? (i := 17) (by decide +kernel)) rfl
theorem ks_18 : Cond.selects "SlottedMesh" ⟨"SlottedMesh", "settleUp", "(LSlottedMesh$FrameRow;LSlottedMesh$Node;)Z"⟩ ⟨"SlottedMesh", "settleUp", "(LSlottedMesh$FrameRow;LSlottedMesh$Node;)Z"⟩ ∈ gz := gz_s (List.mem_of_getElem? (i := 18) (by decide +kernel)) rfl
theorem ks_19 : Cond.selects "SlottedMesh" ⟨"SlottedMesh", "cacheSample", "(III)V"⟩ ⟨"SlottedMesh", "cacheSample", "(III)V"⟩ ∈ gz := gz_s (List.mem_of_getElem? (i := 19) (by decide +kernel)) rfl
theorem ks_20 : Cond.selects "SlottedMesh" ⟨"SlottedMesh", "sendDown", "(LSlottedMesh$Node;LSlottedMesh$Node;LSlottedMesh$Channel;)V"⟩ ⟨"SlottedMesh", "sendDown", "(LSlottedMesh$Node;LSlottedMesh$Node;LSlottedMesh$Channel;)V"⟩ ∈ gz := gz_s (List.mem_of_getElem? (i := 20) (by decide +kernel)) rfl
theorem ks_21 : Cond.selects "SlottedMeshModel" ⟨"SlottedMeshModel", "noNode", "(I)Z"⟩ ⟨"SlottedMeshModel", "noNode", "(I)Z"⟩ ∈ gz := gz_s (List.mem_of_getElem? (i := 21) (by decide +kernel)) rfl
theorem ks_22 : Cond.selects "SlottedMeshModel" ⟨"SlottedMeshModel", "ranks", "()Z"⟩ ⟨"SlottedMeshModel", "ranks", "()Z"⟩ ∈ gz := gz_s (List.mem_of_getElem? (i := 22) (by decide +kernel)) rfl
theorem ks_23 : Cond.selects "SlottedMeshModel" ⟨"SlottedMeshModel", "findParents", "()V"⟩ ⟨"SlottedMeshModel", "findParents", "()V"⟩ ∈ gz := gz_s (List.mem_of_getElem? (i := 23) (by decide +kernel)) rfl
theorem ks_24 : Cond.selects "SlottedMeshModel" ⟨"SlottedMeshModel", "placeAll", "()Z"⟩ ⟨"SlottedMeshModel", "placeAll", "()Z"⟩ ∈ gz := gz_s (List.mem_of_getElem? (i := 24) (by decide +kernel)) rfl
theorem ks_25 : Cond.selects "SlottedMeshModel" ⟨"SlottedMeshModel", "placeAdvert", "(I)Z"⟩ ⟨"SlottedMeshModel", "placeAdvert", "(I)Z"⟩ ∈ gz := gz_s (List.mem_of_getElem? (i := 25) (by decide +kernel)) rfl
theorem ks_26 : Cond.selects "SlottedMeshModel" ⟨"SlottedMeshModel", "place", "(I)Z"⟩ ⟨"SlottedMeshModel", "place", "(I)Z"⟩ ∈ gz := gz_s (List.mem_of_getElem? (i := 26) (by decide +kernel)) rfl
theorem ks_27 : Cond.selects "SlottedMeshModel" ⟨"SlottedMeshModel", "add", "(IIII)V"⟩ ⟨"SlottedMeshModel", "add", "(IIII)V"⟩ ∈ gz := gz_s (List.mem_of_getElem? (i := 27) (by decide +kernel)) rfl
theorem ks_28 : Cond.selects "SlottedMeshModel" ⟨"SlottedMeshModel", "slot", "()V"⟩ ⟨"SlottedMeshModel", "slot", "()V"⟩ ∈ gz := gz_s (List.mem_of_getElem? (i := 28) (by decide +kernel)) rfl
theorem ks_29 : Cond.selects "SlottedMeshModel" ⟨"SlottedMeshModel", "advert", "(I)V"⟩ ⟨"SlottedMeshModel", "advert", "(I)V"⟩ ∈ gz := gz_s (List.mem_of_getElem? (i := 29) (by decide +kernel)) rfl
theorem ks_30 : Cond.selects "SlottedMeshModel" ⟨"SlottedMeshModel", "close", "(II)Z"⟩ ⟨"SlottedMeshModel", "close", "(II)Z"⟩ ∈ gz := gz_s (List.mem_of_getElem? (i := 30) (by decide +kernel)) rfl
theorem ks_31 : Cond.selects "SlottedMeshModel" ⟨"SlottedMeshModel", "down", "(III)V"⟩ ⟨"SlottedMeshModel", "down", "(III)V"⟩ ∈ gz := gz_s (List.mem_of_getElem? (i := 31) (by decide +kernel)) rfl
theorem ks_32 : Cond.selects "SlottedMeshModel" ⟨"SlottedMeshModel", "below", "(II)Z"⟩ ⟨"SlottedMeshModel", "below", "(II)Z"⟩ ∈ gz := gz_s (List.mem_of_getElem? (i := 32) (by decide +kernel)) rfl
theorem ks_33 : Cond.selects "SlottedMeshModel" ⟨"SlottedMeshModel", "hears", "(III)Z"⟩ ⟨"SlottedMeshModel", "hears", "(III)Z"⟩ ∈ gz := gz_s (List.mem_of_getElem? (i := 33) (by decide +kernel)) rfl
theorem ks_34 : Cond.selects "SlottedMeshModel" ⟨"SlottedMeshModel", "leave", "(I)V"⟩ ⟨"SlottedMeshModel", "leave", "(I)V"⟩ ∈ gz := gz_s (List.mem_of_getElem? (i := 34) (by decide +kernel)) rfl
theorem ks_35 : Cond.selects "SlottedMeshModel" ⟨"SlottedMeshModel", "up", "(III)V"⟩ ⟨"SlottedMeshModel", "up", "(III)V"⟩ ∈ gz := gz_s (List.mem_of_getElem? (i := 35) (by decide +kernel)) rfl
theorem ks_36 : Cond.selects "SlottedMeshModel" ⟨"SlottedMeshModel", "cache", "(III)V"⟩ ⟨"SlottedMeshModel", "cache", "(III)V"⟩ ∈ gz := gz_s (List.mem_of_getElem? (i := 36) (by decide +kernel)) rfl
end
section
theorem d_S_init_0 : decode b_S_init 0 = .ok (.aload_n 0, 1) := by decide +kernel
theorem d_S_init_1 : decode b_S_init 1 = .ok (.invokespecial 1, 3) := by decide +kernel
theorem d_S_init_4 : decode b_S_init 4 = .ok (.iload_n 1, 1) := by decide +kernel
theorem d_S_init_5 : decode b_S_init 5 = .ok (.iconst 2, 1) := by decide +kernel
theorem d_S_init_6 : decode b_S_init 6 = .ok (.bipush 6, 2) := by decide +kernel
theorem d_S_init_8 : decode b_S_init 8 = .ok (.invokestatic 7, 3) := by decide +kernel
theorem d_S_init_11 : decode b_S_init 11 = .ok (.istore 4, 2) := by decide +kernel
theorem d_S_init_13 : decode b_S_init 13 = .ok (.aload_n 0, 1) := by decide +kernel
theorem d_S_init_14 : decode b_S_init 14 = .ok (.iload_n 2, 1) := by decide +kernel
theorem d_S_init_15 : decode b_S_init 15 = .ok (.bipush 8, 2) := by decide +kernel
theorem d_S_init_17 : decode b_S_init 17 = .ok (.bipush 24, 2) := by decide +kernel
theorem d_S_init_19 : decode b_S_init 19 = .ok (.invokestatic 7, 3) := by decide +kernel
theorem d_S_init_22 : decode b_S_init 22 = .ok (.putfield 13, 3) := by decide +kernel
theorem d_S_init_25 : decode b_S_init 25 = .ok (.aload_n 0, 1) := by decide +kernel
theorem d_S_init_26 : decode b_S_init 26 = .ok (.iload_n 3, 1) := by decide +kernel
theorem d_S_init_27 : decode b_S_init 27 = .ok (.iconst 1, 1) := by decide +kernel
theorem d_S_init_28 : decode b_S_init 28 = .ok (.iconst 4, 1) := by decide +kernel
theorem d_S_init_29 : decode b_S_init 29 = .ok (.invokestatic 7, 3) := by decide +kernel
theorem d_S_init_32 : decode b_S_init 32 = .ok (.putfield 17, 3) := by decide +kernel
theorem d_S_init_35 : decode b_S_init 35 = .ok (.aload_n 0, 1) := by decide +kernel
theorem d_S_init_36 : decode b_S_init 36 = .ok (.iload 4, 2) := by decide +kernel
theorem d_S_init_38 : decode b_S_init 38 = .ok (.anewarray 20, 3) := by decide +kernel
theorem d_S_init_41 : decode b_S_init 41 = .ok (.putfield 22, 3) := by decide +kernel
theorem d_S_init_44 : decode b_S_init 44 = .ok (.aload_n 0, 1) := by decide +kernel
theorem d_S_init_45 : decode b_S_init 45 = .ok (.iload 4, 2) := by decide +kernel
theorem d_S_init_47 : decode b_S_init 47 = .ok (.anewarray 26, 3) := by decide +kernel
theorem d_S_init_50 : decode b_S_init 50 = .ok (.putfield 28, 3) := by decide +kernel
theorem d_S_init_53 : decode b_S_init 53 = .ok (.iconst 0, 1) := by decide +kernel
theorem d_S_init_54 : decode b_S_init 54 = .ok (.istore 5, 2) := by decide +kernel
theorem d_S_init_56 : decode b_S_init 56 = .ok (.iload 5, 2) := by decide +kernel
theorem d_S_init_58 : decode b_S_init 58 = .ok (.iload 4, 2) := by decide +kernel
theorem d_S_init_60 : decode b_S_init 60 = .ok (.if_icmp .ge 41, 3) := by decide +kernel
theorem d_S_init_63 : decode b_S_init 63 = .ok (.aload_n 0, 1) := by decide +kernel
theorem d_S_init_64 : decode b_S_init 64 = .ok (.getfield 22, 3) := by decide +kernel
theorem d_S_init_67 : decode b_S_init 67 = .ok (.iload 5, 2) := by decide +kernel
theorem d_S_init_69 : decode b_S_init 69 = .ok (.new 20, 3) := by decide +kernel
theorem d_S_init_72 : decode b_S_init 72 = .ok (.dup, 1) := by decide +kernel
theorem d_S_init_73 : decode b_S_init 73 = .ok (.iload 5, 2) := by decide +kernel
theorem d_S_init_75 : decode b_S_init 75 = .ok (.iload 4, 2) := by decide +kernel
theorem d_S_init_77 : decode b_S_init 77 = .ok (.invokespecial 32, 3) := by decide +kernel
theorem d_S_init_80 : decode b_S_init 80 = .ok (.aastore, 1) := by decide +kernel
theorem d_S_init_81 : decode b_S_init 81 = .ok (.aload_n 0, 1) := by decide +kernel
theorem d_S_init_82 : decode b_S_init 82 = .ok (.getfield 28, 3) := by decide +kernel
theorem d_S_init_85 : decode b_S_init 85 = .ok (.iload 5, 2) := by decide +kernel
theorem d_S_init_87 : decode b_S_init 87 = .ok (.new 26, 3) := by decide +kernel
theorem d_S_init_90 : decode b_S_init 90 = .ok (.dup, 1) := by decide +kernel
theorem d_S_init_91 : decode b_S_init 91 = .ok (.invokespecial 35, 3) := by decide +kernel
theorem d_S_init_94 : decode b_S_init 94 = .ok (.aastore, 1) := by decide +kernel
theorem d_S_init_95 : decode b_S_init 95 = .ok (.iinc 5 1, 3) := by decide +kernel
theorem d_S_init_98 : decode b_S_init 98 = .ok (.goto (-42), 3) := by decide +kernel
theorem d_S_init_101 : decode b_S_init 101 = .ok (.aload_n 0, 1) := by decide +kernel
theorem d_S_init_102 : decode b_S_init 102 = .ok (.aload_n 0, 1) := by decide +kernel
theorem d_S_init_103 : decode b_S_init 103 = .ok (.getfield 17, 3) := by decide +kernel
theorem d_S_init_106 : decode b_S_init 106 = .ok (.anewarray 36, 3) := by decide +kernel
theorem d_S_init_109 : decode b_S_init 109 = .ok (.putfield 38, 3) := by decide +kernel
theorem d_S_init_112 : decode b_S_init 112 = .ok (.iconst 0, 1) := by decide +kernel
theorem d_S_init_113 : decode b_S_init 113 = .ok (.istore 5, 2) := by decide +kernel
theorem d_S_init_115 : decode b_S_init 115 = .ok (.iload 5, 2) := by decide +kernel
theorem d_S_init_117 : decode b_S_init 117 = .ok (.aload_n 0, 1) := by decide +kernel
theorem d_S_init_118 : decode b_S_init 118 = .ok (.getfield 17, 3) := by decide +kernel
theorem d_S_init_121 : decode b_S_init 121 = .ok (.if_icmp .ge 23, 3) := by decide +kernel
theorem d_S_init_124 : decode b_S_init 124 = .ok (.aload_n 0, 1) := by decide +kernel
theorem d_S_init_125 : decode b_S_init 125 = .ok (.getfield 38, 3) := by decide +kernel
theorem d_S_init_128 : decode b_S_init 128 = .ok (.iload 5, 2) := by decide +kernel
theorem d_S_init_130 : decode b_S_init 130 = .ok (.new 36, 3) := by decide +kernel
theorem d_S_init_133 : decode b_S_init 133 = .ok (.dup, 1) := by decide +kernel
theorem d_S_init_134 : decode b_S_init 134 = .ok (.invokespecial 42, 3) := by decide +kernel
theorem d_S_init_137 : decode b_S_init 137 = .ok (.aastore, 1) := by decide +kernel
theorem d_S_init_138 : decode b_S_init 138 = .ok (.iinc 5 1, 3) := by decide +kernel
theorem d_S_init_141 : decode b_S_init 141 = .ok (.goto (-26), 3) := by decide +kernel
theorem d_S_init_144 : decode b_S_init 144 = .ok (.aload_n 0, 1) := by decide +kernel
theorem d_S_init_145 : decode b_S_init 145 = .ok (.new 43, 3) := by decide +kernel
theorem d_S_init_148 : decode b_S_init 148 = .ok (.dup, 1) := by decide +kernel
theorem d_S_init_149 : decode b_S_init 149 = .ok (.iload 4, 2) := by decide +kernel
theorem d_S_init_151 : decode b_S_init 151 = .ok (.aload_n 0, 1) := by decide +kernel
theorem d_S_init_152 : decode b_S_init 152 = .ok (.getfield 13, 3) := by decide +kernel
theorem d_S_init_155 : decode b_S_init 155 = .ok (.aload_n 0, 1) := by decide +kernel
theorem d_S_init_156 : decode b_S_init 156 = .ok (.getfield 17, 3) := by decide +kernel
theorem d_S_init_159 : decode b_S_init 159 = .ok (.invokespecial 45, 3) := by decide +kernel
theorem d_S_init_162 : decode b_S_init 162 = .ok (.putfield 48, 3) := by decide +kernel
theorem d_S_init_165 : decode b_S_init 165 = .ok (.aload_n 0, 1) := by decide +kernel
theorem d_S_init_166 : decode b_S_init 166 = .ok (.new 43, 3) := by decide +kernel
theorem d_S_init_169 : decode b_S_init 169 = .ok (.dup, 1) := by decide +kernel
theorem d_S_init_170 : decode b_S_init 170 = .ok (.iload 4, 2) := by decide +kernel
theorem d_S_init_172 : decode b_S_init 172 = .ok (.aload_n 0, 1) := by decide +kernel
theorem d_S_init_173 : decode b_S_init 173 = .ok (.getfield 13, 3) := by decide +kernel
theorem d_S_init_176 : decode b_S_init 176 = .ok (.aload_n 0, 1) := by decide +kernel
theorem d_S_init_177 : decode b_S_init 177 = .ok (.getfield 17, 3) := by decide +kernel
theorem d_S_init_180 : decode b_S_init 180 = .ok (.invokespecial 45, 3) := by decide +kernel
theorem d_S_init_183 : decode b_S_init 183 = .ok (.putfield 52, 3) := by decide +kernel
theorem d_S_init_186 : decode b_S_init 186 = .ok (.aload_n 0, 1) := by decide +kernel
theorem d_S_init_187 : decode b_S_init 187 = .ok (.iconst 0, 1) := by decide +kernel
theorem d_S_init_188 : decode b_S_init 188 = .ok (.putfield 55, 3) := by decide +kernel
theorem d_S_init_191 : decode b_S_init 191 = .ok (.aload_n 0, 1) := by decide +kernel
theorem d_S_init_192 : decode b_S_init 192 = .ok (.iconst 0, 1) := by decide +kernel
theorem d_S_init_193 : decode b_S_init 193 = .ok (.putfield 58, 3) := by decide +kernel
theorem d_S_init_196 : decode b_S_init 196 = .ok (.return_, 1) := by decide +kernel
theorem d_S_pair_0 : decode b_S_pair 0 = .ok (.aload_n 0, 1) := by decide +kernel
theorem d_S_pair_1 : decode b_S_pair 1 = .ok (.iload_n 1, 1) := by decide +kernel
theorem d_S_pair_2 : decode b_S_pair 2 = .ok (.invokevirtual 61, 3) := by decide +kernel
theorem d_S_pair_5 : decode b_S_pair 5 = .ok (.ifCond .eq 31, 3) := by decide +kernel
theorem d_S_pair_8 : decode b_S_pair 8 = .ok (.aload_n 0, 1) := by decide +kernel
theorem d_S_pair_9 : decode b_S_pair 9 = .ok (.iload_n 2, 1) := by decide +kernel
theorem d_S_pair_10 : decode b_S_pair 10 = .ok (.invokevirtual 61, 3) := by decide +kernel
theorem d_S_pair_13 : decode b_S_pair 13 = .ok (.ifCond .eq 23, 3) := by decide +kernel
theorem d_S_pair_16 : decode b_S_pair 16 = .ok (.iload_n 1, 1) := by decide +kernel
theorem d_S_pair_17 : decode b_S_pair 17 = .ok (.iload_n 2, 1) := by decide +kernel
theorem d_S_pair_18 : decode b_S_pair 18 = .ok (.if_icmp .eq 18, 3) := by decide +kernel
theorem d_S_pair_21 : decode b_S_pair 21 = .ok (.aload_n 0, 1) := by decide +kernel
theorem d_S_pair_22 : decode b_S_pair 22 = .ok (.getfield 22, 3) := by decide +kernel
theorem d_S_pair_25 : decode b_S_pair 25 = .ok (.iload_n 1, 1) := by decide +kernel
theorem d_S_pair_26 : decode b_S_pair 26 = .ok (.aaload, 1) := by decide +kernel
theorem d_S_pair_27 : decode b_S_pair 27 = .ok (.getfield 65, 3) := by decide +kernel
theorem d_S_pair_30 : decode b_S_pair 30 = .ok (.iload_n 2, 1) := by decide +kernel
theorem d_S_pair_31 : decode b_S_pair 31 = .ok (.baload, 1) := by decide +kernel
theorem d_S_pair_32 : decode b_S_pair 32 = .ok (.iload_n 3, 1) := by decide +kernel
theorem d_S_pair_33 : decode b_S_pair 33 = .ok (.if_icmp .ne 5, 3) := by decide +kernel
theorem d_S_pair_36 : decode b_S_pair 36 = .ok (.iconst 0, 1) := by decide +kernel
theorem d_S_pair_37 : decode b_S_pair 37 = .ok (.ireturn, 1) := by decide +kernel
theorem d_S_pair_38 : decode b_S_pair 38 = .ok (.aload_n 0, 1) := by decide +kernel
theorem d_S_pair_39 : decode b_S_pair 39 = .ok (.getfield 22, 3) := by decide +kernel
theorem d_S_pair_42 : decode b_S_pair 42 = .ok (.iload_n 1, 1) := by decide +kernel
theorem d_S_pair_43 : decode b_S_pair 43 = .ok (.aaload, 1) := by decide +kernel
theorem d_S_pair_44 : decode b_S_pair 44 = .ok (.getfield 65, 3) := by decide +kernel
theorem d_S_pair_47 : decode b_S_pair 47 = .ok (.iload_n 2, 1) := by decide +kernel
theorem d_S_pair_48 : decode b_S_pair 48 = .ok (.iload_n 3, 1) := by decide +kernel
theorem d_S_pair_49 : decode b_S_pair 49 = .ok (.bastore, 1) := by decide +kernel
theorem d_S_pair_50 : decode b_S_pair 50 = .ok (.aload_n 0, 1) := by decide +kernel
theorem d_S_pair_51 : decode b_S_pair 51 = .ok (.getfield 22, 3) := by decide +kernel
theorem d_S_pair_54 : decode b_S_pair 54 = .ok (.iload_n 2, 1) := by decide +kernel
theorem d_S_pair_55 : decode b_S_pair 55 = .ok (.aaload, 1) := by decide +kernel
theorem d_S_pair_56 : decode b_S_pair 56 = .ok (.getfield 65, 3) := by decide +kernel
theorem d_S_pair_59 : decode b_S_pair 59 = .ok (.iload_n 1, 1) := by decide +kernel
theorem d_S_pair_60 : decode b_S_pair 60 = .ok (.iload_n 3, 1) := by decide +kernel
theorem d_S_pair_61 : decode b_S_pair 61 = .ok (.bastore, 1) := by decide +kernel
theorem d_S_pair_62 : decode b_S_pair 62 = .ok (.iconst 1, 1) := by decide +kernel
theorem d_S_pair_63 : decode b_S_pair 63 = .ok (.ireturn, 1) := by decide +kernel
theorem d_S_plan_0 : decode b_S_plan 0 = .ok (.aload_n 0, 1) := by decide +kernel
theorem d_S_plan_1 : decode b_S_plan 1 = .ok (.getfield 52, 3) := by decide +kernel
theorem d_S_plan_4 : decode b_S_plan 4 = .ok (.aload_n 0, 1) := by decide +kernel
theorem d_S_plan_5 : decode b_S_plan 5 = .ok (.getfield 22, 3) := by decide +kernel
theorem d_S_plan_8 : decode b_S_plan 8 = .ok (.invokevirtual 69, 3) := by decide +kernel
theorem d_S_plan_11 : decode b_S_plan 11 = .ok (.ifCond .ne 5, 3) := by decide +kernel
theorem d_S_plan_14 : decode b_S_plan 14 = .ok (.iconst (-1), 1) := by decide +kernel
theorem d_S_plan_15 : decode b_S_plan 15 = .ok (.ireturn, 1) := by decide +kernel
theorem d_S_plan_16 : decode b_S_plan 16 = .ok (.aload_n 0, 1) := by decide +kernel
theorem d_S_plan_17 : decode b_S_plan 17 = .ok (.getfield 52, 3) := by decide +kernel
theorem d_S_plan_20 : decode b_S_plan 20 = .ok (.astore_n 1, 1) := by decide +kernel
theorem d_S_plan_21 : decode b_S_plan 21 = .ok (.aload_n 0, 1) := by decide +kernel
theorem d_S_plan_22 : decode b_S_plan 22 = .ok (.aload_n 0, 1) := by decide +kernel
theorem d_S_plan_23 : decode b_S_plan 23 = .ok (.getfield 48, 3) := by decide +kernel
theorem d_S_plan_26 : decode b_S_plan 26 = .ok (.putfield 52, 3) := by decide +kernel
theorem d_S_plan_29 : decode b_S_plan 29 = .ok (.aload_n 0, 1) := by decide +kernel
theorem d_S_plan_30 : decode b_S_plan 30 = .ok (.aload_n 1, 1) := by decide +kernel
theorem d_S_plan_31 : decode b_S_plan 31 = .ok (.putfield 48, 3) := by decide +kernel
theorem d_S_plan_34 : decode b_S_plan 34 = .ok (.iconst 0, 1) := by decide +kernel
theorem d_S_plan_35 : decode b_S_plan 35 = .ok (.istore_n 2, 1) := by decide +kernel
theorem d_S_plan_36 : decode b_S_plan 36 = .ok (.iload_n 2, 1) := by decide +kernel
theorem d_S_plan_37 : decode b_S_plan 37 = .ok (.aload_n 0, 1) := by decide +kernel
theorem d_S_plan_38 : decode b_S_plan 38 = .ok (.getfield 22, 3) := by decide +kernel
theorem d_S_plan_41 : decode b_S_plan 41 = .ok (.arraylength, 1) := by decide +kernel
theorem d_S_plan_42 : decode b_S_plan 42 = .ok (.if_icmp .ge 18, 3) := by decide +kernel
theorem d_S_plan_45 : decode b_S_plan 45 = .ok (.aload_n 0, 1) := by decide +kernel
theorem d_S_plan_46 : decode b_S_plan 46 = .ok (.getfield 22, 3) := by decide +kernel
theorem d_S_plan_49 : decode b_S_plan 49 = .ok (.iload_n 2, 1) := by decide +kernel
theorem d_S_plan_50 : decode b_S_plan 50 = .ok (.aaload, 1) := by decide +kernel
theorem d_S_plan_51 : decode b_S_plan 51 = .ok (.invokevirtual 73, 3) := by decide +kernel
theorem d_S_plan_54 : decode b_S_plan 54 = .ok (.iinc 2 1, 3) := by decide +kernel
theorem d_S_plan_57 : decode b_S_plan 57 = .ok (.goto (-21), 3) := by decide +kernel
theorem d_S_plan_60 : decode b_S_plan 60 = .ok (.aload_n 0, 1) := by decide +kernel
theorem d_S_plan_61 : decode b_S_plan 61 = .ok (.getfield 48, 3) := by decide +kernel
theorem d_S_plan_64 : decode b_S_plan 64 = .ok (.getfield 76, 3) := by decide +kernel
theorem d_S_plan_67 : decode b_S_plan 67 = .ok (.ireturn, 1) := by decide +kernel
theorem d_S_start_0 : decode b_S_start 0 = .ok (.aload_n 0, 1) := by decide +kernel
theorem d_S_start_1 : decode b_S_start 1 = .ok (.iload_n 1, 1) := by decide +kernel
theorem d_S_start_2 : decode b_S_start 2 = .ok (.invokevirtual 61, 3) := by decide +kernel
theorem d_S_start_5 : decode b_S_start 5 = .ok (.ifCond .eq 15, 3) := by decide +kernel
theorem d_S_start_8 : decode b_S_start 8 = .ok (.aload_n 0, 1) := by decide +kernel
theorem d_S_start_9 : decode b_S_start 9 = .ok (.getfield 22, 3) := by decide +kernel
theorem d_S_start_12 : decode b_S_start 12 = .ok (.iload_n 1, 1) := by decide +kernel
theorem d_S_start_13 : decode b_S_start 13 = .ok (.aaload, 1) := by decide +kernel
theorem d_S_start_14 : decode b_S_start 14 = .ok (.getfield 79, 3) := by decide +kernel
theorem d_S_start_17 : decode b_S_start 17 = .ok (.ifCond .eq 5, 3) := by decide +kernel
theorem d_S_start_20 : decode b_S_start 20 = .ok (.iconst 0, 1) := by decide +kernel
theorem d_S_start_21 : decode b_S_start 21 = .ok (.ireturn, 1) := by decide +kernel
theorem d_S_start_22 : decode b_S_start 22 = .ok (.aload_n 0, 1) := by decide +kernel
theorem d_S_start_23 : decode b_S_start 23 = .ok (.getfield 22, 3) := by decide +kernel
theorem d_S_start_26 : decode b_S_start 26 = .ok (.iload_n 1, 1) := by decide +kernel
theorem d_S_start_27 : decode b_S_start 27 = .ok (.aaload, 1) := by decide +kernel
theorem d_S_start_28 : decode b_S_start 28 = .ok (.iconst 1, 1) := by decide +kernel
theorem d_S_start_29 : decode b_S_start 29 = .ok (.putfield 79, 3) := by decide +kernel
theorem d_S_start_32 : decode b_S_start 32 = .ok (.aload_n 0, 1) := by decide +kernel
theorem d_S_start_33 : decode b_S_start 33 = .ok (.getfield 22, 3) := by decide +kernel
theorem d_S_start_36 : decode b_S_start 36 = .ok (.iload_n 1, 1) := by decide +kernel
theorem d_S_start_37 : decode b_S_start 37 = .ok (.aaload, 1) := by decide +kernel
theorem d_S_start_38 : decode b_S_start 38 = .ok (.iconst 0, 1) := by decide +kernel
theorem d_S_start_39 : decode b_S_start 39 = .ok (.putfield 83, 3) := by decide +kernel
theorem d_S_start_42 : decode b_S_start 42 = .ok (.iconst 1, 1) := by decide +kernel
theorem d_S_start_43 : decode b_S_start 43 = .ok (.ireturn, 1) := by decide +kernel
theorem d_S_stop_0 : decode b_S_stop 0 = .ok (.aload_n 0, 1) := by decide +kernel
theorem d_S_stop_1 : decode b_S_stop 1 = .ok (.iload_n 1, 1) := by decide +kernel
theorem d_S_stop_2 : decode b_S_stop 2 = .ok (.invokevirtual 86, 3) := by decide +kernel
theorem d_S_stop_5 : decode b_S_stop 5 = .ok (.ifCond .eq 15, 3) := by decide +kernel
theorem d_S_stop_8 : decode b_S_stop 8 = .ok (.aload_n 0, 1) := by decide +kernel
theorem d_S_stop_9 : decode b_S_stop 9 = .ok (.getfield 22, 3) := by decide +kernel
theorem d_S_stop_12 : decode b_S_stop 12 = .ok (.iload_n 1, 1) := by decide +kernel
theorem d_S_stop_13 : decode b_S_stop 13 = .ok (.aaload, 1) := by decide +kernel
theorem d_S_stop_14 : decode b_S_stop 14 = .ok (.getfield 79, 3) := by decide +kernel
theorem d_S_stop_17 : decode b_S_stop 17 = .ok (.ifCond .ne 5, 3) := by decide +kernel
theorem d_S_stop_20 : decode b_S_stop 20 = .ok (.iconst 0, 1) := by decide +kernel
theorem d_S_stop_21 : decode b_S_stop 21 = .ok (.ireturn, 1) := by decide +kernel
theorem d_S_stop_22 : decode b_S_stop 22 = .ok (.aload_n 0, 1) := by decide +kernel
theorem d_S_stop_23 : decode b_S_stop 23 = .ok (.getfield 22, 3) := by decide +kernel
theorem d_S_stop_26 : decode b_S_stop 26 = .ok (.iload_n 1, 1) := by decide +kernel
theorem d_S_stop_27 : decode b_S_stop 27 = .ok (.aaload, 1) := by decide +kernel
theorem d_S_stop_28 : decode b_S_stop 28 = .ok (.invokevirtual 89, 3) := by decide +kernel
theorem d_S_stop_31 : decode b_S_stop 31 = .ok (.iconst 1, 1) := by decide +kernel
theorem d_S_stop_32 : decode b_S_stop 32 = .ok (.ireturn, 1) := by decide +kernel
theorem d_S_drift_0 : decode b_S_drift 0 = .ok (.aload_n 0, 1) := by decide +kernel
theorem d_S_drift_1 : decode b_S_drift 1 = .ok (.iload_n 1, 1) := by decide +kernel
theorem d_S_drift_2 : decode b_S_drift 2 = .ok (.invokevirtual 86, 3) := by decide +kernel
theorem d_S_drift_5 : decode b_S_drift 5 = .ok (.ifCond .eq 13, 3) := by decide +kernel
theorem d_S_drift_8 : decode b_S_drift 8 = .ok (.iload_n 2, 1) := by decide +kernel
theorem d_S_drift_9 : decode b_S_drift 9 = .ok (.bipush (-3), 2) := by decide +kernel
theorem d_S_drift_11 : decode b_S_drift 11 = .ok (.iconst 3, 1) := by decide +kernel
theorem d_S_drift_12 : decode b_S_drift 12 = .ok (.invokestatic 92, 3) := by decide +kernel
theorem d_S_drift_15 : decode b_S_drift 15 = .ok (.ifCond .ne 5, 3) := by decide +kernel
theorem d_S_drift_18 : decode b_S_drift 18 = .ok (.iconst 0, 1) := by decide +kernel
theorem d_S_drift_19 : decode b_S_drift 19 = .ok (.ireturn, 1) := by decide +kernel
theorem d_S_drift_20 : decode b_S_drift 20 = .ok (.aload_n 0, 1) := by decide +kernel
theorem d_S_drift_21 : decode b_S_drift 21 = .ok (.getfield 22, 3) := by decide +kernel
theorem d_S_drift_24 : decode b_S_drift 24 = .ok (.iload_n 1, 1) := by decide +kernel
theorem d_S_drift_25 : decode b_S_drift 25 = .ok (.aaload, 1) := by decide +kernel
theorem d_S_drift_26 : decode b_S_drift 26 = .ok (.iload_n 2, 1) := by decide +kernel
theorem d_S_drift_27 : decode b_S_drift 27 = .ok (.putfield 96, 3) := by decide +kernel
theorem d_S_drift_30 : decode b_S_drift 30 = .ok (.iconst 1, 1) := by decide +kernel
theorem d_S_drift_31 : decode b_S_drift 31 = .ok (.ireturn, 1) := by decide +kernel
theorem d_S_radio_0 : decode b_S_radio 0 = .ok (.aload_n 0, 1) := by decide +kernel
theorem d_S_radio_1 : decode b_S_radio 1 = .ok (.iload_n 1, 1) := by decide +kernel
theorem d_S_radio_2 : decode b_S_radio 2 = .ok (.invokevirtual 99, 3) := by decide +kernel
theorem d_S_radio_5 : decode b_S_radio 5 = .ok (.ifCond .ne 5, 3) := by decide +kernel
theorem d_S_radio_8 : decode b_S_radio 8 = .ok (.iconst 0, 1) := by decide +kernel
theorem d_S_radio_9 : decode b_S_radio 9 = .ok (.ireturn, 1) := by decide +kernel
theorem d_S_radio_10 : decode b_S_radio 10 = .ok (.aload_n 0, 1) := by decide +kernel
theorem d_S_radio_11 : decode b_S_radio 11 = .ok (.getfield 38, 3) := by decide +kernel
theorem d_S_radio_14 : decode b_S_radio 14 = .ok (.iload_n 1, 1) := by decide +kernel
theorem d_S_radio_15 : decode b_S_radio 15 = .ok (.aaload, 1) := by decide +kernel
theorem d_S_radio_16 : decode b_S_radio 16 = .ok (.lload_n 2, 1) := by decide +kernel
theorem d_S_radio_17 : decode b_S_radio 17 = .ok (.putfield 102, 3) := by decide +kernel
theorem d_S_radio_20 : decode b_S_radio 20 = .ok (.aload_n 0, 1) := by decide +kernel
theorem d_S_radio_21 : decode b_S_radio 21 = .ok (.getfield 38, 3) := by decide +kernel
theorem d_S_radio_24 : decode b_S_radio 24 = .ok (.iload_n 1, 1) := by decide +kernel
theorem d_S_radio_25 : decode b_S_radio 25 = .ok (.aaload, 1) := by decide +kernel
theorem d_S_radio_26 : decode b_S_radio 26 = .ok (.lload 4, 2) := by decide +kernel
theorem d_S_radio_28 : decode b_S_radio 28 = .ok (.putfield 106, 3) := by decide +kernel
theorem d_S_radio_31 : decode b_S_radio 31 = .ok (.iconst 1, 1) := by decide +kernel
theorem d_S_radio_32 : decode b_S_radio 32 = .ok (.ireturn, 1) := by decide +kernel
theorem d_S_sample_0 : decode b_S_sample 0 = .ok (.aload_n 0, 1) := by decide +kernel
theorem d_S_sample_1 : decode b_S_sample 1 = .ok (.iload_n 1, 1) := by decide +kernel
theorem d_S_sample_2 : decode b_S_sample 2 = .ok (.invokevirtual 86, 3) := by decide +kernel
theorem d_S_sample_5 : decode b_S_sample 5 = .ok (.ifCond .eq 28, 3) := by decide +kernel
theorem d_S_sample_8 : decode b_S_sample 8 = .ok (.aload_n 0, 1) := by decide +kernel
theorem d_S_sample_9 : decode b_S_sample 9 = .ok (.getfield 22, 3) := by decide +kernel
theorem d_S_sample_12 : decode b_S_sample 12 = .ok (.iload_n 1, 1) := by decide +kernel
theorem d_S_sample_13 : decode b_S_sample 13 = .ok (.aaload, 1) := by decide +kernel
theorem d_S_sample_14 : decode b_S_sample 14 = .ok (.getfield 79, 3) := by decide +kernel
theorem d_S_sample_17 : decode b_S_sample 17 = .ok (.ifCond .eq 16, 3) := by decide +kernel
theorem d_S_sample_20 : decode b_S_sample 20 = .ok (.iload_n 2, 1) := by decide +kernel
theorem d_S_sample_21 : decode b_S_sample 21 = .ok (.sipush (-1000), 3) := by decide +kernel
theorem d_S_sample_24 : decode b_S_sample 24 = .ok (.sipush 1000, 3) := by decide +kernel
theorem d_S_sample_27 : decode b_S_sample 27 = .ok (.invokestatic 92, 3) := by decide +kernel
theorem d_S_sample_30 : decode b_S_sample 30 = .ok (.ifCond .ne 5, 3) := by decide +kernel
theorem d_S_sample_33 : decode b_S_sample 33 = .ok (.iconst (-1), 1) := by decide +kernel
theorem d_S_sample_34 : decode b_S_sample 34 = .ok (.ireturn, 1) := by decide +kernel
theorem d_S_sample_35 : decode b_S_sample 35 = .ok (.aload_n 0, 1) := by decide +kernel
theorem d_S_sample_36 : decode b_S_sample 36 = .ok (.getfield 22, 3) := by decide +kernel
theorem d_S_sample_39 : decode b_S_sample 39 = .ok (.iload_n 1, 1) := by decide +kernel
theorem d_S_sample_40 : decode b_S_sample 40 = .ok (.aaload, 1) := by decide +kernel
theorem d_S_sample_41 : decode b_S_sample 41 = .ok (.astore_n 3, 1) := by decide +kernel
theorem d_S_sample_42 : decode b_S_sample 42 = .ok (.aload_n 3, 1) := by decide +kernel
theorem d_S_sample_43 : decode b_S_sample 43 = .ok (.getfield 109, 3) := by decide +kernel
theorem d_S_sample_46 : decode b_S_sample 46 = .ok (.iload_n 1, 1) := by decide +kernel
theorem d_S_sample_47 : decode b_S_sample 47 = .ok (.aload_n 3, 1) := by decide +kernel
theorem d_S_sample_48 : decode b_S_sample 48 = .ok (.getfield 113, 3) := by decide +kernel
theorem d_S_sample_51 : decode b_S_sample 51 = .ok (.iconst 1, 1) := by decide +kernel
theorem d_S_sample_52 : decode b_S_sample 52 = .ok (.iadd, 1) := by decide +kernel
theorem d_S_sample_53 : decode b_S_sample 53 = .ok (.iload_n 2, 1) := by decide +kernel
theorem d_S_sample_54 : decode b_S_sample 54 = .ok (.invokevirtual 116, 3) := by decide +kernel
theorem d_S_sample_57 : decode b_S_sample 57 = .ok (.ifCond .ne 5, 3) := by decide +kernel
theorem d_S_sample_60 : decode b_S_sample 60 = .ok (.iconst (-1), 1) := by decide +kernel
theorem d_S_sample_61 : decode b_S_sample 61 = .ok (.ireturn, 1) := by decide +kernel
theorem d_S_sample_62 : decode b_S_sample 62 = .ok (.aload_n 3, 1) := by decide +kernel
theorem d_S_sample_63 : decode b_S_sample 63 = .ok (.dup, 1) := by decide +kernel
theorem d_S_sample_64 : decode b_S_sample 64 = .ok (.getfield 113, 3) := by decide +kernel
theorem d_S_sample_67 : decode b_S_sample 67 = .ok (.iconst 1, 1) := by decide +kernel
theorem d_S_sample_68 : decode b_S_sample 68 = .ok (.iadd, 1) := by decide +kernel
theorem d_S_sample_69 : decode b_S_sample 69 = .ok (.putfield 113, 3) := by decide +kernel
theorem d_S_sample_72 : decode b_S_sample 72 = .ok (.aload_n 3, 1) := by decide +kernel
theorem d_S_sample_73 : decode b_S_sample 73 = .ok (.getfield 113, 3) := by decide +kernel
theorem d_S_sample_76 : decode b_S_sample 76 = .ok (.ireturn, 1) := by decide +kernel
theorem d_S_control_0 : decode b_S_control 0 = .ok (.aload_n 0, 1) := by decide +kernel
theorem d_S_control_1 : decode b_S_control 1 = .ok (.iload_n 1, 1) := by decide +kernel
theorem d_S_control_2 : decode b_S_control 2 = .ok (.invokevirtual 86, 3) := by decide +kernel
theorem d_S_control_5 : decode b_S_control 5 = .ok (.ifCond .eq 37, 3) := by decide +kernel
theorem d_S_control_8 : decode b_S_control 8 = .ok (.iload_n 2, 1) := by decide +kernel
theorem d_S_control_9 : decode b_S_control 9 = .ok (.sipush (-1000), 3) := by decide +kernel
theorem d_S_control_12 : decode b_S_control 12 = .ok (.sipush 1000, 3) := by decide +kernel
theorem d_S_control_15 : decode b_S_control 15 = .ok (.invokestatic 92, 3) := by decide +kernel
theorem d_S_control_18 : decode b_S_control 18 = .ok (.ifCond .eq 24, 3) := by decide +kernel
theorem d_S_control_21 : decode b_S_control 21 = .ok (.iload_n 3, 1) := by decide +kernel
theorem d_S_control_22 : decode b_S_control 22 = .ok (.iconst 0, 1) := by decide +kernel
theorem d_S_control_23 : decode b_S_control 23 = .ok (.bipush 16, 2) := by decide +kernel
theorem d_S_control_25 : decode b_S_control 25 = .ok (.invokestatic 92, 3) := by decide +kernel
theorem d_S_control_28 : decode b_S_control 28 = .ok (.ifCond .eq 14, 3) := by decide +kernel
theorem d_S_control_31 : decode b_S_control 31 = .ok (.iload 4, 2) := by decide +kernel
theorem d_S_control_33 : decode b_S_control 33 = .ok (.iconst 0, 1) := by decide +kernel
theorem d_S_control_34 : decode b_S_control 34 = .ok (.bipush 16, 2) := by decide +kernel
theorem d_S_control_36 : decode b_S_control 36 = .ok (.invokestatic 92, 3) := by decide +kernel
theorem d_S_control_39 : decode b_S_control 39 = .ok (.ifCond .ne 5, 3) := by decide +kernel
theorem d_S_control_42 : decode b_S_control 42 = .ok (.iconst 0, 1) := by decide +kernel
theorem d_S_control_43 : decode b_S_control 43 = .ok (.ireturn, 1) := by decide +kernel
theorem d_S_control_44 : decode b_S_control 44 = .ok (.aload_n 0, 1) := by decide +kernel
theorem d_S_control_45 : decode b_S_control 45 = .ok (.getfield 28, 3) := by decide +kernel
theorem d_S_control_48 : decode b_S_control 48 = .ok (.iload_n 1, 1) := by decide +kernel
theorem d_S_control_49 : decode b_S_control 49 = .ok (.aaload, 1) := by decide +kernel
theorem d_S_control_50 : decode b_S_control 50 = .ok (.iload_n 2, 1) := by decide +kernel
theorem d_S_control_51 : decode b_S_control 51 = .ok (.putfield 121, 3) := by decide +kernel
theorem d_S_control_54 : decode b_S_control 54 = .ok (.aload_n 0, 1) := by decide +kernel
theorem d_S_control_55 : decode b_S_control 55 = .ok (.getfield 28, 3) := by decide +kernel
theorem d_S_control_58 : decode b_S_control 58 = .ok (.iload_n 1, 1) := by decide +kernel
theorem d_S_control_59 : decode b_S_control 59 = .ok (.aaload, 1) := by decide +kernel
theorem d_S_control_60 : decode b_S_control 60 = .ok (.iload_n 3, 1) := by decide +kernel
theorem d_S_control_61 : decode b_S_control 61 = .ok (.putfield 124, 3) := by decide +kernel
theorem d_S_control_64 : decode b_S_control 64 = .ok (.aload_n 0, 1) := by decide +kernel
theorem d_S_control_65 : decode b_S_control 65 = .ok (.getfield 28, 3) := by decide +kernel
theorem d_S_control_68 : decode b_S_control 68 = .ok (.iload_n 1, 1) := by decide +kernel
theorem d_S_control_69 : decode b_S_control 69 = .ok (.aaload, 1) := by decide +kernel
theorem d_S_control_70 : decode b_S_control 70 = .ok (.iload 4, 2) := by decide +kernel
theorem d_S_control_72 : decode b_S_control 72 = .ok (.putfield 127, 3) := by decide +kernel
theorem d_S_control_75 : decode b_S_control 75 = .ok (.iconst 1, 1) := by decide +kernel
theorem d_S_control_76 : decode b_S_control 76 = .ok (.ireturn, 1) := by decide +kernel
theorem d_S_run_0 : decode b_S_run 0 = .ok (.iload_n 1, 1) := by decide +kernel
theorem d_S_run_1 : decode b_S_run 1 = .ok (.iconst 1, 1) := by decide +kernel
theorem d_S_run_2 : decode b_S_run 2 = .ok (.bipush 64, 2) := by decide +kernel
theorem d_S_run_4 : decode b_S_run 4 = .ok (.invokestatic 92, 3) := by decide +kernel
theorem d_S_run_7 : decode b_S_run 7 = .ok (.ifCond .ne 5, 3) := by decide +kernel
theorem d_S_run_10 : decode b_S_run 10 = .ok (.iconst (-1), 1) := by decide +kernel
theorem d_S_run_11 : decode b_S_run 11 = .ok (.ireturn, 1) := by decide +kernel
theorem d_S_run_12 : decode b_S_run 12 = .ok (.iconst 0, 1) := by decide +kernel
theorem d_S_run_13 : decode b_S_run 13 = .ok (.istore_n 2, 1) := by decide +kernel
theorem d_S_run_14 : decode b_S_run 14 = .ok (.iload_n 2, 1) := by decide +kernel
theorem d_S_run_15 : decode b_S_run 15 = .ok (.iload_n 1, 1) := by decide +kernel
theorem d_S_run_16 : decode b_S_run 16 = .ok (.if_icmp .ge 48, 3) := by decide +kernel
theorem d_S_run_19 : decode b_S_run 19 = .ok (.aload_n 0, 1) := by decide +kernel
theorem d_S_run_20 : decode b_S_run 20 = .ok (.invokevirtual 130, 3) := by decide +kernel
theorem d_S_run_23 : decode b_S_run 23 = .ok (.aload_n 0, 1) := by decide +kernel
theorem d_S_run_24 : decode b_S_run 24 = .ok (.getfield 48, 3) := by decide +kernel
theorem d_S_run_27 : decode b_S_run 27 = .ok (.getfield 133, 3) := by decide +kernel
theorem d_S_run_30 : decode b_S_run 30 = .ok (.ifCond .eq 18, 3) := by decide +kernel
theorem d_S_run_33 : decode b_S_run 33 = .ok (.aload_n 0, 1) := by decide +kernel
theorem d_S_run_34 : decode b_S_run 34 = .ok (.aload_n 0, 1) := by decide +kernel
theorem d_S_run_35 : decode b_S_run 35 = .ok (.getfield 55, 3) := by decide +kernel
theorem d_S_run_38 : decode b_S_run 38 = .ok (.aload_n 0, 1) := by decide +kernel
theorem d_S_run_39 : decode b_S_run 39 = .ok (.getfield 13, 3) := by decide +kernel
theorem d_S_run_42 : decode b_S_run 42 = .ok (.invokestatic 136, 3) := by decide +kernel
theorem d_S_run_45 : decode b_S_run 45 = .ok (.invokevirtual 142, 3) := by decide +kernel
theorem d_S_run_48 : decode b_S_run 48 = .ok (.aload_n 0, 1) := by decide +kernel
theorem d_S_run_49 : decode b_S_run 49 = .ok (.dup, 1) := by decide +kernel
theorem d_S_run_50 : decode b_S_run 50 = .ok (.getfield 55, 3) := by decide +kernel
theorem d_S_run_53 : decode b_S_run 53 = .ok (.iconst 1, 1) := by decide +kernel
theorem d_S_run_54 : decode b_S_run 54 = .ok (.iadd, 1) := by decide +kernel
theorem d_S_run_55 : decode b_S_run 55 = .ok (.putfield 55, 3) := by decide +kernel
theorem d_S_run_58 : decode b_S_run 58 = .ok (.iinc 2 1, 3) := by decide +kernel
theorem d_S_run_61 : decode b_S_run 61 = .ok (.goto (-47), 3) := by decide +kernel
theorem d_S_run_64 : decode b_S_run 64 = .ok (.aload_n 0, 1) := by decide +kernel
theorem d_S_run_65 : decode b_S_run 65 = .ok (.getfield 55, 3) := by decide +kernel
theorem d_S_run_68 : decode b_S_run 68 = .ok (.ireturn, 1) := by decide +kernel
theorem d_S_rank_0 : decode b_S_rank 0 = .ok (.aload_n 0, 1) := by decide +kernel
theorem d_S_rank_1 : decode b_S_rank 1 = .ok (.getfield 48, 3) := by decide +kernel
theorem d_S_rank_4 : decode b_S_rank 4 = .ok (.getfield 133, 3) := by decide +kernel
theorem d_S_rank_7 : decode b_S_rank 7 = .ok (.ifCond .eq 23, 3) := by decide +kernel
theorem d_S_rank_10 : decode b_S_rank 10 = .ok (.aload_n 0, 1) := by decide +kernel
theorem d_S_rank_11 : decode b_S_rank 11 = .ok (.iload_n 1, 1) := by decide +kernel
theorem d_S_rank_12 : decode b_S_rank 12 = .ok (.invokevirtual 61, 3) := by decide +kernel
theorem d_S_rank_15 : decode b_S_rank 15 = .ok (.ifCond .eq 15, 3) := by decide +kernel
theorem d_S_rank_18 : decode b_S_rank 18 = .ok (.aload_n 0, 1) := by decide +kernel
theorem d_S_rank_19 : decode b_S_rank 19 = .ok (.getfield 48, 3) := by decide +kernel
theorem d_S_rank_22 : decode b_S_rank 22 = .ok (.getfield 146, 3) := by decide +kernel
theorem d_S_rank_25 : decode b_S_rank 25 = .ok (.iload_n 1, 1) := by decide +kernel
theorem d_S_rank_26 : decode b_S_rank 26 = .ok (.iaload, 1) := by decide +kernel
theorem d_S_rank_27 : decode b_S_rank 27 = .ok (.goto 4, 3) := by decide +kernel
theorem d_S_rank_30 : decode b_S_rank 30 = .ok (.iconst (-1), 1) := by decide +kernel
theorem d_S_rank_31 : decode b_S_rank 31 = .ok (.ireturn, 1) := by decide +kernel
theorem d_S_parent_0 : decode b_S_parent 0 = .ok (.aload_n 0, 1) := by decide +kernel
theorem d_S_parent_1 : decode b_S_parent 1 = .ok (.getfield 48, 3) := by decide +kernel
theorem d_S_parent_4 : decode b_S_parent 4 = .ok (.getfield 133, 3) := by decide +kernel
theorem d_S_parent_7 : decode b_S_parent 7 = .ok (.ifCond .eq 11, 3) := by decide +kernel
theorem d_S_parent_10 : decode b_S_parent 10 = .ok (.aload_n 0, 1) := by decide +kernel
theorem d_S_parent_11 : decode b_S_parent 11 = .ok (.iload_n 1, 1) := by decide +kernel
theorem d_S_parent_12 : decode b_S_parent 12 = .ok (.invokevirtual 61, 3) := by decide +kernel
theorem d_S_parent_15 : decode b_S_parent 15 = .ok (.ifCond .ne 5, 3) := by decide +kernel
theorem d_S_parent_18 : decode b_S_parent 18 = .ok (.iconst (-1), 1) := by decide +kernel
theorem d_S_parent_19 : decode b_S_parent 19 = .ok (.ireturn, 1) := by decide +kernel
theorem d_S_parent_20 : decode b_S_parent 20 = .ok (.iload_n 2, 1) := by decide +kernel
theorem d_S_parent_21 : decode b_S_parent 21 = .ok (.ifCond .ne 13, 3) := by decide +kernel
theorem d_S_parent_24 : decode b_S_parent 24 = .ok (.aload_n 0, 1) := by decide +kernel
theorem d_S_parent_25 : decode b_S_parent 25 = .ok (.getfield 48, 3) := by decide +kernel
theorem d_S_parent_28 : decode b_S_parent 28 = .ok (.getfield 150, 3) := by decide +kernel
theorem d_S_parent_31 : decode b_S_parent 31 = .ok (.iload_n 1, 1) := by decide +kernel
theorem d_S_parent_32 : decode b_S_parent 32 = .ok (.iaload, 1) := by decide +kernel
theorem d_S_parent_33 : decode b_S_parent 33 = .ok (.ireturn, 1) := by decide +kernel
theorem d_S_parent_34 : decode b_S_parent 34 = .ok (.iload_n 2, 1) := by decide +kernel
theorem d_S_parent_35 : decode b_S_parent 35 = .ok (.iconst 1, 1) := by decide +kernel
theorem d_S_parent_36 : decode b_S_parent 36 = .ok (.if_icmp .ne 15, 3) := by decide +kernel
theorem d_S_parent_39 : decode b_S_parent 39 = .ok (.aload_n 0, 1) := by decide +kernel
theorem d_S_parent_40 : decode b_S_parent 40 = .ok (.getfield 48, 3) := by decide +kernel
theorem d_S_parent_43 : decode b_S_parent 43 = .ok (.getfield 153, 3) := by decide +kernel
theorem d_S_parent_46 : decode b_S_parent 46 = .ok (.iload_n 1, 1) := by decide +kernel
theorem d_S_parent_47 : decode b_S_parent 47 = .ok (.iaload, 1) := by decide +kernel
theorem d_S_parent_48 : decode b_S_parent 48 = .ok (.goto 4, 3) := by decide +kernel
theorem d_S_parent_51 : decode b_S_parent 51 = .ok (.iconst (-1), 1) := by decide +kernel
theorem d_S_parent_52 : decode b_S_parent 52 = .ok (.ireturn, 1) := by decide +kernel
theorem d_S_cell_0 : decode b_S_cell 0 = .ok (.iload_n 1, 1) := by decide +kernel
theorem d_S_cell_1 : decode b_S_cell 1 = .ok (.iconst 0, 1) := by decide +kernel
theorem d_S_cell_2 : decode b_S_cell 2 = .ok (.aload_n 0, 1) := by decide +kernel
theorem d_S_cell_3 : decode b_S_cell 3 = .ok (.getfield 13, 3) := by decide +kernel
theorem d_S_cell_6 : decode b_S_cell 6 = .ok (.iconst 1, 1) := by decide +kernel
theorem d_S_cell_7 : decode b_S_cell 7 = .ok (.isub, 1) := by decide +kernel
theorem d_S_cell_8 : decode b_S_cell 8 = .ok (.invokestatic 92, 3) := by decide +kernel
theorem d_S_cell_11 : decode b_S_cell 11 = .ok (.ifCond .eq 11, 3) := by decide +kernel
theorem d_S_cell_14 : decode b_S_cell 14 = .ok (.aload_n 0, 1) := by decide +kernel
theorem d_S_cell_15 : decode b_S_cell 15 = .ok (.iload_n 2, 1) := by decide +kernel
theorem d_S_cell_16 : decode b_S_cell 16 = .ok (.invokevirtual 99, 3) := by decide +kernel
theorem d_S_cell_19 : decode b_S_cell 19 = .ok (.ifCond .ne 5, 3) := by decide +kernel
theorem d_S_cell_22 : decode b_S_cell 22 = .ok (.iconst (-1), 1) := by decide +kernel
theorem d_S_cell_23 : decode b_S_cell 23 = .ok (.ireturn, 1) := by decide +kernel
theorem d_S_cell_24 : decode b_S_cell 24 = .ok (.aload_n 0, 1) := by decide +kernel
theorem d_S_cell_25 : decode b_S_cell 25 = .ok (.getfield 48, 3) := by decide +kernel
theorem d_S_cell_28 : decode b_S_cell 28 = .ok (.getfield 133, 3) := by decide +kernel
theorem d_S_cell_31 : decode b_S_cell 31 = .ok (.ifCond .eq 15, 3) := by decide +kernel
theorem d_S_cell_34 : decode b_S_cell 34 = .ok (.aload_n 0, 1) := by decide +kernel
theorem d_S_cell_35 : decode b_S_cell 35 = .ok (.getfield 48, 3) := by decide +kernel
theorem d_S_cell_38 : decode b_S_cell 38 = .ok (.iload_n 1, 1) := by decide +kernel
theorem d_S_cell_39 : decode b_S_cell 39 = .ok (.iload_n 2, 1) := by decide +kernel
theorem d_S_cell_40 : decode b_S_cell 40 = .ok (.invokevirtual 156, 3) := by decide +kernel
theorem d_S_cell_43 : decode b_S_cell 43 = .ok (.goto 4, 3) := by decide +kernel
theorem d_S_cell_46 : decode b_S_cell 46 = .ok (.iconst 0, 1) := by decide +kernel
theorem d_S_cell_47 : decode b_S_cell 47 = .ok (.ireturn, 1) := by decide +kernel
theorem d_S_current_0 : decode b_S_current 0 = .ok (.aload_n 0, 1) := by decide +kernel
theorem d_S_current_1 : decode b_S_current 1 = .ok (.iload_n 1, 1) := by decide +kernel
theorem d_S_current_2 : decode b_S_current 2 = .ok (.invokevirtual 61, 3) := by decide +kernel
theorem d_S_current_5 : decode b_S_current 5 = .ok (.ifCond .eq 19, 3) := by decide +kernel
theorem d_S_current_8 : decode b_S_current 8 = .ok (.aload_n 0, 1) := by decide +kernel
theorem d_S_current_9 : decode b_S_current 9 = .ok (.getfield 22, 3) := by decide +kernel
theorem d_S_current_12 : decode b_S_current 12 = .ok (.iload_n 1, 1) := by decide +kernel
theorem d_S_current_13 : decode b_S_current 13 = .ok (.aaload, 1) := by decide +kernel
theorem d_S_current_14 : decode b_S_current 14 = .ok (.getfield 83, 3) := by decide +kernel
theorem d_S_current_17 : decode b_S_current 17 = .ok (.ifCond .eq 7, 3) := by decide +kernel
theorem d_S_current_20 : decode b_S_current 20 = .ok (.iconst 1, 1) := by decide +kernel
theorem d_S_current_21 : decode b_S_current 21 = .ok (.goto 4, 3) := by decide +kernel
theorem d_S_current_24 : decode b_S_current 24 = .ok (.iconst 0, 1) := by decide +kernel
theorem d_S_current_25 : decode b_S_current 25 = .ok (.ireturn, 1) := by decide +kernel
theorem d_S_offset_0 : decode b_S_offset 0 = .ok (.aload_n 0, 1) := by decide +kernel
theorem d_S_offset_1 : decode b_S_offset 1 = .ok (.iload_n 1, 1) := by decide +kernel
theorem d_S_offset_2 : decode b_S_offset 2 = .ok (.invokevirtual 61, 3) := by decide +kernel
theorem d_S_offset_5 : decode b_S_offset 5 = .ok (.ifCond .eq 15, 3) := by decide +kernel
theorem d_S_offset_8 : decode b_S_offset 8 = .ok (.aload_n 0, 1) := by decide +kernel
theorem d_S_offset_9 : decode b_S_offset 9 = .ok (.getfield 22, 3) := by decide +kernel
theorem d_S_offset_12 : decode b_S_offset 12 = .ok (.iload_n 1, 1) := by decide +kernel
theorem d_S_offset_13 : decode b_S_offset 13 = .ok (.aaload, 1) := by decide +kernel
theorem d_S_offset_14 : decode b_S_offset 14 = .ok (.getfield 159, 3) := by decide +kernel
theorem d_S_offset_17 : decode b_S_offset 17 = .ok (.goto 6, 3) := by decide +kernel
theorem d_S_offset_20 : decode b_S_offset 20 = .ok (.sipush (-9999), 3) := by decide +kernel
theorem d_S_offset_23 : decode b_S_offset 23 = .ok (.ireturn, 1) := by decide +kernel
theorem d_S_count_0 : decode b_S_count 0 = .ok (.aload_n 0, 1) := by decide +kernel
theorem d_S_count_1 : decode b_S_count 1 = .ok (.iload_n 1, 1) := by decide +kernel
theorem d_S_count_2 : decode b_S_count 2 = .ok (.invokevirtual 61, 3) := by decide +kernel
theorem d_S_count_5 : decode b_S_count 5 = .ok (.ifCond .ne 5, 3) := by decide +kernel
theorem d_S_count_8 : decode b_S_count 8 = .ok (.iconst (-1), 1) := by decide +kernel
theorem d_S_count_9 : decode b_S_count 9 = .ok (.ireturn, 1) := by decide +kernel
theorem d_S_count_10 : decode b_S_count 10 = .ok (.iload_n 2, 1) := by decide +kernel
theorem d_S_count_11 : decode b_S_count 11 = .ok (.tableswitch 75 0 3 #[29, 42, 55, 65], 29) := by decide +kernel
theorem d_S_count_40 : decode b_S_count 40 = .ok (.aload_n 0, 1) := by decide +kernel
theorem d_S_count_41 : decode b_S_count 41 = .ok (.getfield 22, 3) := by decide +kernel
theorem d_S_count_44 : decode b_S_count 44 = .ok (.iload_n 1, 1) := by decide +kernel
theorem d_S_count_45 : decode b_S_count 45 = .ok (.aaload, 1) := by decide +kernel
theorem d_S_count_46 : decode b_S_count 46 = .ok (.getfield 109, 3) := by decide +kernel
theorem d_S_count_49 : decode b_S_count 49 = .ok (.getfield 162, 3) := by decide +kernel
theorem d_S_count_52 : decode b_S_count 52 = .ok (.ireturn, 1) := by decide +kernel
theorem d_S_count_53 : decode b_S_count 53 = .ok (.aload_n 0, 1) := by decide +kernel
theorem d_S_count_54 : decode b_S_count 54 = .ok (.getfield 22, 3) := by decide +kernel
theorem d_S_count_57 : decode b_S_count 57 = .ok (.iload_n 1, 1) := by decide +kernel
theorem d_S_count_58 : decode b_S_count 58 = .ok (.aaload, 1) := by decide +kernel
theorem d_S_count_59 : decode b_S_count 59 = .ok (.getfield 163, 3) := by decide +kernel
theorem d_S_count_62 : decode b_S_count 62 = .ok (.getfield 162, 3) := by decide +kernel
theorem d_S_count_65 : decode b_S_count 65 = .ok (.ireturn, 1) := by decide +kernel
theorem d_S_count_66 : decode b_S_count 66 = .ok (.aload_n 0, 1) := by decide +kernel
theorem d_S_count_67 : decode b_S_count 67 = .ok (.getfield 22, 3) := by decide +kernel
theorem d_S_count_70 : decode b_S_count 70 = .ok (.iload_n 1, 1) := by decide +kernel
theorem d_S_count_71 : decode b_S_count 71 = .ok (.aaload, 1) := by decide +kernel
theorem d_S_count_72 : decode b_S_count 72 = .ok (.getfield 166, 3) := by decide +kernel
theorem d_S_count_75 : decode b_S_count 75 = .ok (.ireturn, 1) := by decide +kernel
theorem d_S_count_76 : decode b_S_count 76 = .ok (.aload_n 0, 1) := by decide +kernel
theorem d_S_count_77 : decode b_S_count 77 = .ok (.getfield 22, 3) := by decide +kernel
theorem d_S_count_80 : decode b_S_count 80 = .ok (.iload_n 1, 1) := by decide +kernel
theorem d_S_count_81 : decode b_S_count 81 = .ok (.aaload, 1) := by decide +kernel
theorem d_S_count_82 : decode b_S_count 82 = .ok (.getfield 169, 3) := by decide +kernel
theorem d_S_count_85 : decode b_S_count 85 = .ok (.ireturn, 1) := by decide +kernel
theorem d_S_count_86 : decode b_S_count 86 = .ok (.iconst (-1), 1) := by decide +kernel
theorem d_S_count_87 : decode b_S_count 87 = .ok (.ireturn, 1) := by decide +kernel
theorem d_S_cached_0 : decode b_S_cached 0 = .ok (.aload_n 0, 1) := by decide +kernel
theorem d_S_cached_1 : decode b_S_cached 1 = .ok (.iload_n 1, 1) := by decide +kernel
theorem d_S_cached_2 : decode b_S_cached 2 = .ok (.invokevirtual 61, 3) := by decide +kernel
theorem d_S_cached_5 : decode b_S_cached 5 = .ok (.ifCond .eq 20, 3) := by decide +kernel
theorem d_S_cached_8 : decode b_S_cached 8 = .ok (.iload_n 2, 1) := by decide +kernel
theorem d_S_cached_9 : decode b_S_cached 9 = .ok (.ifCond .lt 16, 3) := by decide +kernel
theorem d_S_cached_12 : decode b_S_cached 12 = .ok (.iload_n 2, 1) := by decide +kernel
theorem d_S_cached_13 : decode b_S_cached 13 = .ok (.aload_n 0, 1) := by decide +kernel
theorem d_S_cached_14 : decode b_S_cached 14 = .ok (.getfield 28, 3) := by decide +kernel
theorem d_S_cached_17 : decode b_S_cached 17 = .ok (.iload_n 1, 1) := by decide +kernel
theorem d_S_cached_18 : decode b_S_cached 18 = .ok (.aaload, 1) := by decide +kernel
theorem d_S_cached_19 : decode b_S_cached 19 = .ok (.getfield 172, 3) := by decide +kernel
theorem d_S_cached_22 : decode b_S_cached 22 = .ok (.if_icmp .lt 7, 3) := by decide +kernel
theorem d_S_cached_25 : decode b_S_cached 25 = .ok (.sipush (-9999), 3) := by decide +kernel
theorem d_S_cached_28 : decode b_S_cached 28 = .ok (.ireturn, 1) := by decide +kernel
theorem d_S_cached_29 : decode b_S_cached 29 = .ok (.aload_n 0, 1) := by decide +kernel
theorem d_S_cached_30 : decode b_S_cached 30 = .ok (.getfield 28, 3) := by decide +kernel
theorem d_S_cached_33 : decode b_S_cached 33 = .ok (.iload_n 1, 1) := by decide +kernel
theorem d_S_cached_34 : decode b_S_cached 34 = .ok (.aaload, 1) := by decide +kernel
theorem d_S_cached_35 : decode b_S_cached 35 = .ok (.getfield 175, 3) := by decide +kernel
theorem d_S_cached_38 : decode b_S_cached 38 = .ok (.iload_n 2, 1) := by decide +kernel
theorem d_S_cached_39 : decode b_S_cached 39 = .ok (.iaload, 1) := by decide +kernel
theorem d_S_cached_40 : decode b_S_cached 40 = .ok (.ireturn, 1) := by decide +kernel
theorem d_S_latest_0 : decode b_S_latest 0 = .ok (.aload_n 0, 1) := by decide +kernel
theorem d_S_latest_1 : decode b_S_latest 1 = .ok (.iload_n 1, 1) := by decide +kernel
theorem d_S_latest_2 : decode b_S_latest 2 = .ok (.invokevirtual 61, 3) := by decide +kernel
theorem d_S_latest_5 : decode b_S_latest 5 = .ok (.ifCond .eq 17, 3) := by decide +kernel
theorem d_S_latest_8 : decode b_S_latest 8 = .ok (.aload_n 0, 1) := by decide +kernel
theorem d_S_latest_9 : decode b_S_latest 9 = .ok (.getfield 22, 3) := by decide +kernel
theorem d_S_latest_12 : decode b_S_latest 12 = .ok (.iconst 0, 1) := by decide +kernel
theorem d_S_latest_13 : decode b_S_latest 13 = .ok (.aaload, 1) := by decide +kernel
theorem d_S_latest_14 : decode b_S_latest 14 = .ok (.getfield 178, 3) := by decide +kernel
theorem d_S_latest_17 : decode b_S_latest 17 = .ok (.iload_n 1, 1) := by decide +kernel
theorem d_S_latest_18 : decode b_S_latest 18 = .ok (.iaload, 1) := by decide +kernel
theorem d_S_latest_19 : decode b_S_latest 19 = .ok (.goto 4, 3) := by decide +kernel
theorem d_S_latest_22 : decode b_S_latest 22 = .ok (.iconst (-1), 1) := by decide +kernel
theorem d_S_latest_23 : decode b_S_latest 23 = .ok (.ireturn, 1) := by decide +kernel
theorem d_S_actuator_0 : decode b_S_actuator 0 = .ok (.aload_n 0, 1) := by decide +kernel
theorem d_S_actuator_1 : decode b_S_actuator 1 = .ok (.iload_n 1, 1) := by decide +kernel
theorem d_S_actuator_2 : decode b_S_actuator 2 = .ok (.invokevirtual 86, 3) := by decide +kernel
theorem d_S_actuator_5 : decode b_S_actuator 5 = .ok (.ifCond .eq 15, 3) := by decide +kernel
theorem d_S_actuator_8 : decode b_S_actuator 8 = .ok (.aload_n 0, 1) := by decide +kernel
theorem d_S_actuator_9 : decode b_S_actuator 9 = .ok (.getfield 22, 3) := by decide +kernel
theorem d_S_actuator_12 : decode b_S_actuator 12 = .ok (.iload_n 1, 1) := by decide +kernel
theorem d_S_actuator_13 : decode b_S_actuator 13 = .ok (.aaload, 1) := by decide +kernel
theorem d_S_actuator_14 : decode b_S_actuator 14 = .ok (.getfield 181, 3) := by decide +kernel
theorem d_S_actuator_17 : decode b_S_actuator 17 = .ok (.goto 6, 3) := by decide +kernel
theorem d_S_actuator_20 : decode b_S_actuator 20 = .ok (.sipush (-9999), 3) := by decide +kernel
theorem d_S_actuator_23 : decode b_S_actuator 23 = .ok (.ireturn, 1) := by decide +kernel
theorem d_S_sent_0 : decode b_S_sent 0 = .ok (.aload_n 0, 1) := by decide +kernel
theorem d_S_sent_1 : decode b_S_sent 1 = .ok (.getfield 58, 3) := by decide +kernel
theorem d_S_sent_4 : decode b_S_sent 4 = .ok (.ireturn, 1) := by decide +kernel
theorem d_S_nearest_0 : decode b_S_nearest 0 = .ok (.iload_n 1, 1) := by decide +kernel
theorem d_S_nearest_1 : decode b_S_nearest 1 = .ok (.iload_n 2, 1) := by decide +kernel
theorem d_S_nearest_2 : decode b_S_nearest 2 = .ok (.iload_n 0, 1) := by decide +kernel
theorem d_S_nearest_3 : decode b_S_nearest 3 = .ok (.invokestatic 184, 3) := by decide +kernel
theorem d_S_nearest_6 : decode b_S_nearest 6 = .ok (.invokestatic 187, 3) := by decide +kernel
theorem d_S_nearest_9 : decode b_S_nearest 9 = .ok (.ireturn, 1) := by decide +kernel
theorem d_S_isWithin_0 : decode b_S_isWithin 0 = .ok (.iload_n 0, 1) := by decide +kernel
theorem d_S_isWithin_1 : decode b_S_isWithin 1 = .ok (.iload_n 1, 1) := by decide +kernel
theorem d_S_isWithin_2 : decode b_S_isWithin 2 = .ok (.if_icmp .lt 12, 3) := by decide +kernel
theorem d_S_isWithin_5 : decode b_S_isWithin 5 = .ok (.iload_n 0, 1) := by decide +kernel
theorem d_S_isWithin_6 : decode b_S_isWithin 6 = .ok (.iload_n 2, 1) := by decide +kernel
theorem d_S_isWithin_7 : decode b_S_isWithin 7 = .ok (.if_icmp .gt 7, 3) := by decide +kernel
theorem d_S_isWithin_10 : decode b_S_isWithin 10 = .ok (.iconst 1, 1) := by decide +kernel
theorem d_S_isWithin_11 : decode b_S_isWithin 11 = .ok (.goto 4, 3) := by decide +kernel
theorem d_S_isWithin_14 : decode b_S_isWithin 14 = .ok (.iconst 0, 1) := by decide +kernel
theorem d_S_isWithin_15 : decode b_S_isWithin 15 = .ok (.ireturn, 1) := by decide +kernel
theorem d_S_isNode_0 : decode b_S_isNode 0 = .ok (.iload_n 1, 1) := by decide +kernel
theorem d_S_isNode_1 : decode b_S_isNode 1 = .ok (.ifCond .lt 16, 3) := by decide +kernel
theorem d_S_isNode_4 : decode b_S_isNode 4 = .ok (.iload_n 1, 1) := by decide +kernel
theorem d_S_isNode_5 : decode b_S_isNode 5 = .ok (.aload_n 0, 1) := by decide +kernel
theorem d_S_isNode_6 : decode b_S_isNode 6 = .ok (.getfield 22, 3) := by decide +kernel
theorem d_S_isNode_9 : decode b_S_isNode 9 = .ok (.arraylength, 1) := by decide +kernel
theorem d_S_isNode_10 : decode b_S_isNode 10 = .ok (.if_icmp .ge 7, 3) := by decide +kernel
theorem d_S_isNode_13 : decode b_S_isNode 13 = .ok (.iconst 1, 1) := by decide +kernel
theorem d_S_isNode_14 : decode b_S_isNode 14 = .ok (.goto 4, 3) := by decide +kernel
theorem d_S_isNode_17 : decode b_S_isNode 17 = .ok (.iconst 0, 1) := by decide +kernel
theorem d_S_isNode_18 : decode b_S_isNode 18 = .ok (.ireturn, 1) := by decide +kernel
theorem d_S_isFieldNode_0 : decode b_S_isFieldNode 0 = .ok (.aload_n 0, 1) := by decide +kernel
theorem d_S_isFieldNode_1 : decode b_S_isFieldNode 1 = .ok (.iload_n 1, 1) := by decide +kernel
theorem d_S_isFieldNode_2 : decode b_S_isFieldNode 2 = .ok (.invokevirtual 61, 3) := by decide +kernel
theorem d_S_isFieldNode_5 : decode b_S_isFieldNode 5 = .ok (.ifCond .eq 11, 3) := by decide +kernel
theorem d_S_isFieldNode_8 : decode b_S_isFieldNode 8 = .ok (.iload_n 1, 1) := by decide +kernel
theorem d_S_isFieldNode_9 : decode b_S_isFieldNode 9 = .ok (.ifCond .eq 7, 3) := by decide +kernel
theorem d_S_isFieldNode_12 : decode b_S_isFieldNode 12 = .ok (.iconst 1, 1) := by decide +kernel
theorem d_S_isFieldNode_13 : decode b_S_isFieldNode 13 = .ok (.goto 4, 3) := by decide +kernel
theorem d_S_isFieldNode_16 : decode b_S_isFieldNode 16 = .ok (.iconst 0, 1) := by decide +kernel
theorem d_S_isFieldNode_17 : decode b_S_isFieldNode 17 = .ok (.ireturn, 1) := by decide +kernel
theorem d_S_isChannel_0 : decode b_S_isChannel 0 = .ok (.iload_n 1, 1) := by decide +kernel
theorem d_S_isChannel_1 : decode b_S_isChannel 1 = .ok (.ifCond .lt 15, 3) := by decide +kernel
theorem d_S_isChannel_4 : decode b_S_isChannel 4 = .ok (.iload_n 1, 1) := by decide +kernel
theorem d_S_isChannel_5 : decode b_S_isChannel 5 = .ok (.aload_n 0, 1) := by decide +kernel
theorem d_S_isChannel_6 : decode b_S_isChannel 6 = .ok (.getfield 17, 3) := by decide +kernel
theorem d_S_isChannel_9 : decode b_S_isChannel 9 = .ok (.if_icmp .ge 7, 3) := by decide +kernel
theorem d_S_isChannel_12 : decode b_S_isChannel 12 = .ok (.iconst 1, 1) := by decide +kernel
theorem d_S_isChannel_13 : decode b_S_isChannel 13 = .ok (.goto 4, 3) := by decide +kernel
theorem d_S_isChannel_16 : decode b_S_isChannel 16 = .ok (.iconst 0, 1) := by decide +kernel
theorem d_S_isChannel_17 : decode b_S_isChannel 17 = .ok (.ireturn, 1) := by decide +kernel
theorem d_S_driftClocks_0 : decode b_S_driftClocks 0 = .ok (.iconst 0, 1) := by decide +kernel
theorem d_S_driftClocks_1 : decode b_S_driftClocks 1 = .ok (.istore_n 1, 1) := by decide +kernel
theorem d_S_driftClocks_2 : decode b_S_driftClocks 2 = .ok (.iload_n 1, 1) := by decide +kernel
theorem d_S_driftClocks_3 : decode b_S_driftClocks 3 = .ok (.aload_n 0, 1) := by decide +kernel
theorem d_S_driftClocks_4 : decode b_S_driftClocks 4 = .ok (.getfield 22, 3) := by decide +kernel
theorem d_S_driftClocks_7 : decode b_S_driftClocks 7 = .ok (.arraylength, 1) := by decide +kernel
theorem d_S_driftClocks_8 : decode b_S_driftClocks 8 = .ok (.if_icmp .ge 44, 3) := by decide +kernel
theorem d_S_driftClocks_11 : decode b_S_driftClocks 11 = .ok (.aload_n 0, 1) := by decide +kernel
theorem d_S_driftClocks_12 : decode b_S_driftClocks 12 = .ok (.getfield 22, 3) := by decide +kernel
theorem d_S_driftClocks_15 : decode b_S_driftClocks 15 = .ok (.iload_n 1, 1) := by decide +kernel
theorem d_S_driftClocks_16 : decode b_S_driftClocks 16 = .ok (.aaload, 1) := by decide +kernel
theorem d_S_driftClocks_17 : decode b_S_driftClocks 17 = .ok (.getfield 79, 3) := by decide +kernel
theorem d_S_driftClocks_20 : decode b_S_driftClocks 20 = .ok (.ifCond .eq 26, 3) := by decide +kernel
theorem d_S_driftClocks_23 : decode b_S_driftClocks 23 = .ok (.aload_n 0, 1) := by decide +kernel
theorem d_S_driftClocks_24 : decode b_S_driftClocks 24 = .ok (.getfield 22, 3) := by decide +kernel
theorem d_S_driftClocks_27 : decode b_S_driftClocks 27 = .ok (.iload_n 1, 1) := by decide +kernel
theorem d_S_driftClocks_28 : decode b_S_driftClocks 28 = .ok (.aaload, 1) := by decide +kernel
theorem d_S_driftClocks_29 : decode b_S_driftClocks 29 = .ok (.dup, 1) := by decide +kernel
theorem d_S_driftClocks_30 : decode b_S_driftClocks 30 = .ok (.getfield 159, 3) := by decide +kernel
theorem d_S_driftClocks_33 : decode b_S_driftClocks 33 = .ok (.aload_n 0, 1) := by decide +kernel
theorem d_S_driftClocks_34 : decode b_S_driftClocks 34 = .ok (.getfield 22, 3) := by decide +kernel
theorem d_S_driftClocks_37 : decode b_S_driftClocks 37 = .ok (.iload_n 1, 1) := by decide +kernel
theorem d_S_driftClocks_38 : decode b_S_driftClocks 38 = .ok (.aaload, 1) := by decide +kernel
theorem d_S_driftClocks_39 : decode b_S_driftClocks 39 = .ok (.getfield 96, 3) := by decide +kernel
theorem d_S_driftClocks_42 : decode b_S_driftClocks 42 = .ok (.iadd, 1) := by decide +kernel
theorem d_S_driftClocks_43 : decode b_S_driftClocks 43 = .ok (.putfield 159, 3) := by decide +kernel
theorem d_S_driftClocks_46 : decode b_S_driftClocks 46 = .ok (.iinc 1 1, 3) := by decide +kernel
theorem d_S_driftClocks_49 : decode b_S_driftClocks 49 = .ok (.goto (-47), 3) := by decide +kernel
theorem d_S_driftClocks_52 : decode b_S_driftClocks 52 = .ok (.return_, 1) := by decide +kernel
theorem d_S_playCells_0 : decode b_S_playCells 0 = .ok (.iconst 0, 1) := by decide +kernel
theorem d_S_playCells_1 : decode b_S_playCells 1 = .ok (.istore_n 2, 1) := by decide +kernel
theorem d_S_playCells_2 : decode b_S_playCells 2 = .ok (.iload_n 2, 1) := by decide +kernel
theorem d_S_playCells_3 : decode b_S_playCells 3 = .ok (.aload_n 0, 1) := by decide +kernel
theorem d_S_playCells_4 : decode b_S_playCells 4 = .ok (.getfield 17, 3) := by decide +kernel
theorem d_S_playCells_7 : decode b_S_playCells 7 = .ok (.if_icmp .ge 140, 3) := by decide +kernel
theorem d_S_playCells_10 : decode b_S_playCells 10 = .ok (.aload_n 0, 1) := by decide +kernel
theorem d_S_playCells_11 : decode b_S_playCells 11 = .ok (.getfield 48, 3) := by decide +kernel
theorem d_S_playCells_14 : decode b_S_playCells 14 = .ok (.iload_n 1, 1) := by decide +kernel
theorem d_S_playCells_15 : decode b_S_playCells 15 = .ok (.iload_n 2, 1) := by decide +kernel
theorem d_S_playCells_16 : decode b_S_playCells 16 = .ok (.invokevirtual 156, 3) := by decide +kernel
theorem d_S_playCells_19 : decode b_S_playCells 19 = .ok (.istore_n 3, 1) := by decide +kernel
theorem d_S_playCells_20 : decode b_S_playCells 20 = .ok (.aload_n 0, 1) := by decide +kernel
theorem d_S_playCells_21 : decode b_S_playCells 21 = .ok (.getfield 22, 3) := by decide +kernel
theorem d_S_playCells_24 : decode b_S_playCells 24 = .ok (.iload_n 3, 1) := by decide +kernel
theorem d_S_playCells_25 : decode b_S_playCells 25 = .ok (.invokestatic 190, 3) := by decide +kernel
theorem d_S_playCells_28 : decode b_S_playCells 28 = .ok (.aaload, 1) := by decide +kernel
theorem d_S_playCells_29 : decode b_S_playCells 29 = .ok (.astore 4, 2) := by decide +kernel
theorem d_S_playCells_31 : decode b_S_playCells 31 = .ok (.aload_n 0, 1) := by decide +kernel
theorem d_S_playCells_32 : decode b_S_playCells 32 = .ok (.getfield 22, 3) := by decide +kernel
theorem d_S_playCells_35 : decode b_S_playCells 35 = .ok (.iload_n 3, 1) := by decide +kernel
theorem d_S_playCells_36 : decode b_S_playCells 36 = .ok (.invokestatic 194, 3) := by decide +kernel
theorem d_S_playCells_39 : decode b_S_playCells 39 = .ok (.aaload, 1) := by decide +kernel
theorem d_S_playCells_40 : decode b_S_playCells 40 = .ok (.astore 5, 2) := by decide +kernel
theorem d_S_playCells_42 : decode b_S_playCells 42 = .ok (.aload_n 0, 1) := by decide +kernel
theorem d_S_playCells_43 : decode b_S_playCells 43 = .ok (.getfield 38, 3) := by decide +kernel
theorem d_S_playCells_46 : decode b_S_playCells 46 = .ok (.iload_n 2, 1) := by decide +kernel
theorem d_S_playCells_47 : decode b_S_playCells 47 = .ok (.aload_n 0, 1) := by decide +kernel
theorem d_S_playCells_48 : decode b_S_playCells 48 = .ok (.getfield 55, 3) := by decide +kernel
theorem d_S_playCells_51 : decode b_S_playCells 51 = .ok (.iadd, 1) := by decide +kernel
theorem d_S_playCells_52 : decode b_S_playCells 52 = .ok (.aload_n 0, 1) := by decide +kernel
theorem d_S_playCells_53 : decode b_S_playCells 53 = .ok (.getfield 17, 3) := by decide +kernel
theorem d_S_playCells_56 : decode b_S_playCells 56 = .ok (.invokestatic 136, 3) := by decide +kernel
theorem d_S_playCells_59 : decode b_S_playCells 59 = .ok (.aaload, 1) := by decide +kernel
theorem d_S_playCells_60 : decode b_S_playCells 60 = .ok (.astore 6, 2) := by decide +kernel
theorem d_S_playCells_62 : decode b_S_playCells 62 = .ok (.iload_n 3, 1) := by decide +kernel
theorem d_S_playCells_63 : decode b_S_playCells 63 = .ok (.invokestatic 197, 3) := by decide +kernel
theorem d_S_playCells_66 : decode b_S_playCells 66 = .ok (.lookupswitch 75 #[(100, 34), (200, 49), (300, 62)], 34) := by decide +kernel
theorem d_S_playCells_100 : decode b_S_playCells 100 = .ok (.iload_n 2, 1) := by decide +kernel
theorem d_S_playCells_101 : decode b_S_playCells 101 = .ok (.ifCond .ne 40, 3) := by decide +kernel
theorem d_S_playCells_104 : decode b_S_playCells 104 = .ok (.aload_n 0, 1) := by decide +kernel
theorem d_S_playCells_105 : decode b_S_playCells 105 = .ok (.aload 4, 2) := by decide +kernel
theorem d_S_playCells_107 : decode b_S_playCells 107 = .ok (.aload 6, 2) := by decide +kernel
theorem d_S_playCells_109 : decode b_S_playCells 109 = .ok (.invokevirtual 200, 3) := by decide +kernel
theorem d_S_playCells_112 : decode b_S_playCells 112 = .ok (.goto 29, 3) := by decide +kernel
theorem d_S_playCells_115 : decode b_S_playCells 115 = .ok (.aload_n 0, 1) := by decide +kernel
theorem d_S_playCells_116 : decode b_S_playCells 116 = .ok (.aload 4, 2) := by decide +kernel
theorem d_S_playCells_118 : decode b_S_playCells 118 = .ok (.aload 5, 2) := by decide +kernel
theorem d_S_playCells_120 : decode b_S_playCells 120 = .ok (.aload 6, 2) := by decide +kernel
theorem d_S_playCells_122 : decode b_S_playCells 122 = .ok (.invokevirtual 204, 3) := by decide +kernel
theorem d_S_playCells_125 : decode b_S_playCells 125 = .ok (.goto 16, 3) := by decide +kernel
theorem d_S_playCells_128 : decode b_S_playCells 128 = .ok (.aload_n 0, 1) := by decide +kernel
theorem d_S_playCells_129 : decode b_S_playCells 129 = .ok (.aload 4, 2) := by decide +kernel
theorem d_S_playCells_131 : decode b_S_playCells 131 = .ok (.aload 5, 2) := by decide +kernel
theorem d_S_playCells_133 : decode b_S_playCells 133 = .ok (.aload 6, 2) := by decide +kernel
theorem d_S_playCells_135 : decode b_S_playCells 135 = .ok (.invokevirtual 208, 3) := by decide +kernel
theorem d_S_playCells_138 : decode b_S_playCells 138 = .ok (.goto 3, 3) := by decide +kernel
theorem d_S_playCells_141 : decode b_S_playCells 141 = .ok (.iinc 2 1, 3) := by decide +kernel
theorem d_S_playCells_144 : decode b_S_playCells 144 = .ok (.goto (-142), 3) := by decide +kernel
theorem d_S_playCells_147 : decode b_S_playCells 147 = .ok (.return_, 1) := by decide +kernel
theorem d_S_advertise_0 : decode b_S_advertise 0 = .ok (.aload_n 1, 1) := by decide +kernel
theorem d_S_advertise_1 : decode b_S_advertise 1 = .ok (.getfield 83, 3) := by decide +kernel
theorem d_S_advertise_4 : decode b_S_advertise 4 = .ok (.ifCond .eq 14, 3) := by decide +kernel
theorem d_S_advertise_7 : decode b_S_advertise 7 = .ok (.aload_n 2, 1) := by decide +kernel
theorem d_S_advertise_8 : decode b_S_advertise 8 = .ok (.aload_n 0, 1) := by decide +kernel
theorem d_S_advertise_9 : decode b_S_advertise 9 = .ok (.getfield 55, 3) := by decide +kernel
theorem d_S_advertise_12 : decode b_S_advertise 12 = .ok (.invokevirtual 211, 3) := by decide +kernel
theorem d_S_advertise_15 : decode b_S_advertise 15 = .ok (.ifCond .ne 4, 3) := by decide +kernel
theorem d_S_advertise_18 : decode b_S_advertise 18 = .ok (.return_, 1) := by decide +kernel
theorem d_S_advertise_19 : decode b_S_advertise 19 = .ok (.iconst 0, 1) := by decide +kernel
theorem d_S_advertise_20 : decode b_S_advertise 20 = .ok (.istore_n 3, 1) := by decide +kernel
theorem d_S_advertise_21 : decode b_S_advertise 21 = .ok (.iload_n 3, 1) := by decide +kernel
theorem d_S_advertise_22 : decode b_S_advertise 22 = .ok (.aload_n 0, 1) := by decide +kernel
theorem d_S_advertise_23 : decode b_S_advertise 23 = .ok (.getfield 22, 3) := by decide +kernel
theorem d_S_advertise_26 : decode b_S_advertise 26 = .ok (.arraylength, 1) := by decide +kernel
theorem d_S_advertise_27 : decode b_S_advertise 27 = .ok (.if_icmp .ge 41, 3) := by decide +kernel
theorem d_S_advertise_30 : decode b_S_advertise 30 = .ok (.aload_n 1, 1) := by decide +kernel
theorem d_S_advertise_31 : decode b_S_advertise 31 = .ok (.getfield 65, 3) := by decide +kernel
theorem d_S_advertise_34 : decode b_S_advertise 34 = .ok (.iload_n 3, 1) := by decide +kernel
theorem d_S_advertise_35 : decode b_S_advertise 35 = .ok (.baload, 1) := by decide +kernel
theorem d_S_advertise_36 : decode b_S_advertise 36 = .ok (.ifCond .eq 26, 3) := by decide +kernel
theorem d_S_advertise_39 : decode b_S_advertise 39 = .ok (.aload_n 0, 1) := by decide +kernel
theorem d_S_advertise_40 : decode b_S_advertise 40 = .ok (.getfield 22, 3) := by decide +kernel
theorem d_S_advertise_43 : decode b_S_advertise 43 = .ok (.iload_n 3, 1) := by decide +kernel
theorem d_S_advertise_44 : decode b_S_advertise 44 = .ok (.aaload, 1) := by decide +kernel
theorem d_S_advertise_45 : decode b_S_advertise 45 = .ok (.getfield 79, 3) := by decide +kernel
theorem d_S_advertise_48 : decode b_S_advertise 48 = .ok (.ifCond .eq 14, 3) := by decide +kernel
theorem d_S_advertise_51 : decode b_S_advertise 51 = .ok (.aload_n 0, 1) := by decide +kernel
theorem d_S_advertise_52 : decode b_S_advertise 52 = .ok (.aload_n 0, 1) := by decide +kernel
theorem d_S_advertise_53 : decode b_S_advertise 53 = .ok (.getfield 22, 3) := by decide +kernel
theorem d_S_advertise_56 : decode b_S_advertise 56 = .ok (.iload_n 3, 1) := by decide +kernel
theorem d_S_advertise_57 : decode b_S_advertise 57 = .ok (.aaload, 1) := by decide +kernel
theorem d_S_advertise_58 : decode b_S_advertise 58 = .ok (.aload_n 1, 1) := by decide +kernel
theorem d_S_advertise_59 : decode b_S_advertise 59 = .ok (.invokevirtual 214, 3) := by decide +kernel
theorem d_S_advertise_62 : decode b_S_advertise 62 = .ok (.iinc 3 1, 3) := by decide +kernel
theorem d_S_advertise_65 : decode b_S_advertise 65 = .ok (.goto (-44), 3) := by decide +kernel
theorem d_S_advertise_68 : decode b_S_advertise 68 = .ok (.return_, 1) := by decide +kernel
theorem d_S_answerAdvert_0 : decode b_S_answerAdvert 0 = .ok (.aload_n 1, 1) := by decide +kernel
theorem d_S_answerAdvert_1 : decode b_S_answerAdvert 1 = .ok (.getfield 83, 3) := by decide +kernel
theorem d_S_answerAdvert_4 : decode b_S_answerAdvert 4 = .ok (.ifCond .ne 24, 3) := by decide +kernel
theorem d_S_answerAdvert_7 : decode b_S_answerAdvert 7 = .ok (.aload_n 1, 1) := by decide +kernel
theorem d_S_answerAdvert_8 : decode b_S_answerAdvert 8 = .ok (.iconst 1, 1) := by decide +kernel
theorem d_S_answerAdvert_9 : decode b_S_answerAdvert 9 = .ok (.putfield 83, 3) := by decide +kernel
theorem d_S_answerAdvert_12 : decode b_S_answerAdvert 12 = .ok (.aload_n 1, 1) := by decide +kernel
theorem d_S_answerAdvert_13 : decode b_S_answerAdvert 13 = .ok (.aload_n 2, 1) := by decide +kernel
theorem d_S_answerAdvert_14 : decode b_S_answerAdvert 14 = .ok (.getfield 159, 3) := by decide +kernel
theorem d_S_answerAdvert_17 : decode b_S_answerAdvert 17 = .ok (.putfield 159, 3) := by decide +kernel
theorem d_S_answerAdvert_20 : decode b_S_answerAdvert 20 = .ok (.aload_n 1, 1) := by decide +kernel
theorem d_S_answerAdvert_21 : decode b_S_answerAdvert 21 = .ok (.iconst 0, 1) := by decide +kernel
theorem d_S_answerAdvert_22 : decode b_S_answerAdvert 22 = .ok (.putfield 166, 3) := by decide +kernel
theorem d_S_answerAdvert_25 : decode b_S_answerAdvert 25 = .ok (.goto 38, 3) := by decide +kernel
theorem d_S_answerAdvert_28 : decode b_S_answerAdvert 28 = .ok (.aload_n 0, 1) := by decide +kernel
theorem d_S_answerAdvert_29 : decode b_S_answerAdvert 29 = .ok (.getfield 48, 3) := by decide +kernel
theorem d_S_answerAdvert_32 : decode b_S_answerAdvert 32 = .ok (.getfield 150, 3) := by decide +kernel
theorem d_S_answerAdvert_35 : decode b_S_answerAdvert 35 = .ok (.aload_n 1, 1) := by decide +kernel
theorem d_S_answerAdvert_36 : decode b_S_answerAdvert 36 = .ok (.getfield 218, 3) := by decide +kernel
theorem d_S_answerAdvert_39 : decode b_S_answerAdvert 39 = .ok (.iaload, 1) := by decide +kernel
theorem d_S_answerAdvert_40 : decode b_S_answerAdvert 40 = .ok (.aload_n 2, 1) := by decide +kernel
theorem d_S_answerAdvert_41 : decode b_S_answerAdvert 41 = .ok (.getfield 218, 3) := by decide +kernel
theorem d_S_answerAdvert_44 : decode b_S_answerAdvert 44 = .ok (.if_icmp .ne 19, 3) := by decide +kernel
theorem d_S_answerAdvert_47 : decode b_S_answerAdvert 47 = .ok (.aload_n 1, 1) := by decide +kernel
theorem d_S_answerAdvert_48 : decode b_S_answerAdvert 48 = .ok (.aload_n 2, 1) := by decide +kernel
theorem d_S_answerAdvert_49 : decode b_S_answerAdvert 49 = .ok (.invokevirtual 221, 3) := by decide +kernel
theorem d_S_answerAdvert_52 : decode b_S_answerAdvert 52 = .ok (.ifCond .eq 11, 3) := by decide +kernel
theorem d_S_answerAdvert_55 : decode b_S_answerAdvert 55 = .ok (.aload_n 1, 1) := by decide +kernel
theorem d_S_answerAdvert_56 : decode b_S_answerAdvert 56 = .ok (.aload_n 2, 1) := by decide +kernel
theorem d_S_answerAdvert_57 : decode b_S_answerAdvert 57 = .ok (.getfield 159, 3) := by decide +kernel
theorem d_S_answerAdvert_60 : decode b_S_answerAdvert 60 = .ok (.putfield 159, 3) := by decide +kernel
theorem d_S_answerAdvert_63 : decode b_S_answerAdvert 63 = .ok (.return_, 1) := by decide +kernel
theorem d_S_hears_0 : decode b_S_hears 0 = .ok (.aload_n 1, 1) := by decide +kernel
theorem d_S_hears_1 : decode b_S_hears 1 = .ok (.getfield 83, 3) := by decide +kernel
theorem d_S_hears_4 : decode b_S_hears 4 = .ok (.ifCond .eq 38, 3) := by decide +kernel
theorem d_S_hears_7 : decode b_S_hears 7 = .ok (.aload_n 1, 1) := by decide +kernel
theorem d_S_hears_8 : decode b_S_hears 8 = .ok (.getfield 65, 3) := by decide +kernel
theorem d_S_hears_11 : decode b_S_hears 11 = .ok (.aload_n 2, 1) := by decide +kernel
theorem d_S_hears_12 : decode b_S_hears 12 = .ok (.getfield 218, 3) := by decide +kernel
theorem d_S_hears_15 : decode b_S_hears 15 = .ok (.baload, 1) := by decide +kernel
theorem d_S_hears_16 : decode b_S_hears 16 = .ok (.ifCond .eq 26, 3) := by decide +kernel
theorem d_S_hears_19 : decode b_S_hears 19 = .ok (.aload_n 1, 1) := by decide +kernel
theorem d_S_hears_20 : decode b_S_hears 20 = .ok (.aload_n 2, 1) := by decide +kernel
theorem d_S_hears_21 : decode b_S_hears 21 = .ok (.invokevirtual 221, 3) := by decide +kernel
theorem d_S_hears_24 : decode b_S_hears 24 = .ok (.ifCond .eq 18, 3) := by decide +kernel
theorem d_S_hears_27 : decode b_S_hears 27 = .ok (.aload_n 3, 1) := by decide +kernel
theorem d_S_hears_28 : decode b_S_hears 28 = .ok (.aload_n 0, 1) := by decide +kernel
theorem d_S_hears_29 : decode b_S_hears 29 = .ok (.getfield 55, 3) := by decide +kernel
theorem d_S_hears_32 : decode b_S_hears 32 = .ok (.invokevirtual 211, 3) := by decide +kernel
theorem d_S_hears_35 : decode b_S_hears 35 = .ok (.ifCond .eq 7, 3) := by decide +kernel
theorem d_S_hears_38 : decode b_S_hears 38 = .ok (.iconst 1, 1) := by decide +kernel
theorem d_S_hears_39 : decode b_S_hears 39 = .ok (.goto 4, 3) := by decide +kernel
theorem d_S_hears_42 : decode b_S_hears 42 = .ok (.iconst 0, 1) := by decide +kernel
theorem d_S_hears_43 : decode b_S_hears 43 = .ok (.ireturn, 1) := by decide +kernel
theorem d_S_sendUp_0 : decode b_S_sendUp 0 = .ok (.aload_n 1, 1) := by decide +kernel
theorem d_S_sendUp_1 : decode b_S_sendUp 1 = .ok (.getfield 83, 3) := by decide +kernel
theorem d_S_sendUp_4 : decode b_S_sendUp 4 = .ok (.ifCond .eq 13, 3) := by decide +kernel
theorem d_S_sendUp_7 : decode b_S_sendUp 7 = .ok (.aload_n 1, 1) := by decide +kernel
theorem d_S_sendUp_8 : decode b_S_sendUp 8 = .ok (.getfield 109, 3) := by decide +kernel
theorem d_S_sendUp_11 : decode b_S_sendUp 11 = .ok (.getfield 162, 3) := by decide +kernel
theorem d_S_sendUp_14 : decode b_S_sendUp 14 = .ok (.ifCond .ne 4, 3) := by decide +kernel
theorem d_S_sendUp_17 : decode b_S_sendUp 17 = .ok (.return_, 1) := by decide +kernel
theorem d_S_sendUp_18 : decode b_S_sendUp 18 = .ok (.aload_n 0, 1) := by decide +kernel
theorem d_S_sendUp_19 : decode b_S_sendUp 19 = .ok (.dup, 1) := by decide +kernel
theorem d_S_sendUp_20 : decode b_S_sendUp 20 = .ok (.getfield 58, 3) := by decide +kernel
theorem d_S_sendUp_23 : decode b_S_sendUp 23 = .ok (.iconst 1, 1) := by decide +kernel
theorem d_S_sendUp_24 : decode b_S_sendUp 24 = .ok (.iadd, 1) := by decide +kernel
theorem d_S_sendUp_25 : decode b_S_sendUp 25 = .ok (.putfield 58, 3) := by decide +kernel
theorem d_S_sendUp_28 : decode b_S_sendUp 28 = .ok (.aload_n 0, 1) := by decide +kernel
theorem d_S_sendUp_29 : decode b_S_sendUp 29 = .ok (.aload_n 2, 1) := by decide +kernel
theorem d_S_sendUp_30 : decode b_S_sendUp 30 = .ok (.aload_n 1, 1) := by decide +kernel
theorem d_S_sendUp_31 : decode b_S_sendUp 31 = .ok (.aload_n 3, 1) := by decide +kernel
theorem d_S_sendUp_32 : decode b_S_sendUp 32 = .ok (.invokevirtual 225, 3) := by decide +kernel
theorem d_S_sendUp_35 : decode b_S_sendUp 35 = .ok (.ifCond .eq 19, 3) := by decide +kernel
theorem d_S_sendUp_38 : decode b_S_sendUp 38 = .ok (.aload_n 0, 1) := by decide +kernel
theorem d_S_sendUp_39 : decode b_S_sendUp 39 = .ok (.aload_n 1, 1) := by decide +kernel
theorem d_S_sendUp_40 : decode b_S_sendUp 40 = .ok (.getfield 109, 3) := by decide +kernel
theorem d_S_sendUp_43 : decode b_S_sendUp 43 = .ok (.aload_n 2, 1) := by decide +kernel
theorem d_S_sendUp_44 : decode b_S_sendUp 44 = .ok (.invokevirtual 229, 3) := by decide +kernel
theorem d_S_sendUp_47 : decode b_S_sendUp 47 = .ok (.ifCond .eq 7, 3) := by decide +kernel
theorem d_S_sendUp_50 : decode b_S_sendUp 50 = .ok (.iconst 1, 1) := by decide +kernel
theorem d_S_sendUp_51 : decode b_S_sendUp 51 = .ok (.goto 4, 3) := by decide +kernel
theorem d_S_sendUp_54 : decode b_S_sendUp 54 = .ok (.iconst 0, 1) := by decide +kernel
theorem d_S_sendUp_55 : decode b_S_sendUp 55 = .ok (.istore 4, 2) := by decide +kernel
theorem d_S_sendUp_57 : decode b_S_sendUp 57 = .ok (.iload 4, 2) := by decide +kernel
theorem d_S_sendUp_59 : decode b_S_sendUp 59 = .ok (.ifCond .eq 14, 3) := by decide +kernel
theorem d_S_sendUp_62 : decode b_S_sendUp 62 = .ok (.aload_n 3, 1) := by decide +kernel
theorem d_S_sendUp_63 : decode b_S_sendUp 63 = .ok (.aload_n 0, 1) := by decide +kernel
theorem d_S_sendUp_64 : decode b_S_sendUp 64 = .ok (.getfield 55, 3) := by decide +kernel
theorem d_S_sendUp_67 : decode b_S_sendUp 67 = .ok (.invokevirtual 233, 3) := by decide +kernel
theorem d_S_sendUp_70 : decode b_S_sendUp 70 = .ok (.ifCond .ne 8, 3) := by decide +kernel
theorem d_S_sendUp_73 : decode b_S_sendUp 73 = .ok (.aload_n 1, 1) := by decide +kernel
theorem d_S_sendUp_74 : decode b_S_sendUp 74 = .ok (.invokevirtual 236, 3) := by decide +kernel
theorem d_S_sendUp_77 : decode b_S_sendUp 77 = .ok (.return_, 1) := by decide +kernel
theorem d_S_sendUp_78 : decode b_S_sendUp 78 = .ok (.aload_n 1, 1) := by decide +kernel
theorem d_S_sendUp_79 : decode b_S_sendUp 79 = .ok (.getfield 109, 3) := by decide +kernel
theorem d_S_sendUp_82 : decode b_S_sendUp 82 = .ok (.invokevirtual 239, 3) := by decide +kernel
theorem d_S_sendUp_85 : decode b_S_sendUp 85 = .ok (.aload_n 1, 1) := by decide +kernel
theorem d_S_sendUp_86 : decode b_S_sendUp 86 = .ok (.iconst 0, 1) := by decide +kernel
theorem d_S_sendUp_87 : decode b_S_sendUp 87 = .ok (.putfield 166, 3) := by decide +kernel
theorem d_S_sendUp_90 : decode b_S_sendUp 90 = .ok (.aload_n 0, 1) := by decide +kernel
theorem d_S_sendUp_91 : decode b_S_sendUp 91 = .ok (.getfield 48, 3) := by decide +kernel
theorem d_S_sendUp_94 : decode b_S_sendUp 94 = .ok (.getfield 150, 3) := by decide +kernel
theorem d_S_sendUp_97 : decode b_S_sendUp 97 = .ok (.aload_n 1, 1) := by decide +kernel
theorem d_S_sendUp_98 : decode b_S_sendUp 98 = .ok (.getfield 218, 3) := by decide +kernel
theorem d_S_sendUp_101 : decode b_S_sendUp 101 = .ok (.iaload, 1) := by decide +kernel
theorem d_S_sendUp_102 : decode b_S_sendUp 102 = .ok (.aload_n 2, 1) := by decide +kernel
theorem d_S_sendUp_103 : decode b_S_sendUp 103 = .ok (.getfield 218, 3) := by decide +kernel
theorem d_S_sendUp_106 : decode b_S_sendUp 106 = .ok (.if_icmp .ne 11, 3) := by decide +kernel
theorem d_S_sendUp_109 : decode b_S_sendUp 109 = .ok (.aload_n 1, 1) := by decide +kernel
theorem d_S_sendUp_110 : decode b_S_sendUp 110 = .ok (.aload_n 2, 1) := by decide +kernel
theorem d_S_sendUp_111 : decode b_S_sendUp 111 = .ok (.getfield 159, 3) := by decide +kernel
theorem d_S_sendUp_114 : decode b_S_sendUp 114 = .ok (.putfield 159, 3) := by decide +kernel
theorem d_S_sendUp_117 : decode b_S_sendUp 117 = .ok (.return_, 1) := by decide +kernel
theorem d_S_settleUp_0 : decode b_S_settleUp 0 = .ok (.aload_n 1, 1) := by decide +kernel
theorem d_S_settleUp_1 : decode b_S_settleUp 1 = .ok (.getfield 242, 3) := by decide +kernel
theorem d_S_settleUp_4 : decode b_S_settleUp 4 = .ok (.iconst 0, 1) := by decide +kernel
theorem d_S_settleUp_5 : decode b_S_settleUp 5 = .ok (.iaload, 1) := by decide +kernel
theorem d_S_settleUp_6 : decode b_S_settleUp 6 = .ok (.istore_n 3, 1) := by decide +kernel
theorem d_S_settleUp_7 : decode b_S_settleUp 7 = .ok (.aload_n 1, 1) := by decide +kernel
theorem d_S_settleUp_8 : decode b_S_settleUp 8 = .ok (.getfield 245, 3) := by decide +kernel
theorem d_S_settleUp_11 : decode b_S_settleUp 11 = .ok (.iconst 0, 1) := by decide +kernel
theorem d_S_settleUp_12 : decode b_S_settleUp 12 = .ok (.iaload, 1) := by decide +kernel
theorem d_S_settleUp_13 : decode b_S_settleUp 13 = .ok (.istore 4, 2) := by decide +kernel
theorem d_S_settleUp_15 : decode b_S_settleUp 15 = .ok (.iload 4, 2) := by decide +kernel
theorem d_S_settleUp_17 : decode b_S_settleUp 17 = .ok (.aload_n 2, 1) := by decide +kernel
theorem d_S_settleUp_18 : decode b_S_settleUp 18 = .ok (.getfield 178, 3) := by decide +kernel
theorem d_S_settleUp_21 : decode b_S_settleUp 21 = .ok (.iload_n 3, 1) := by decide +kernel
theorem d_S_settleUp_22 : decode b_S_settleUp 22 = .ok (.iaload, 1) := by decide +kernel
theorem d_S_settleUp_23 : decode b_S_settleUp 23 = .ok (.if_icmp .gt 5, 3) := by decide +kernel
theorem d_S_settleUp_26 : decode b_S_settleUp 26 = .ok (.iconst 1, 1) := by decide +kernel
theorem d_S_settleUp_27 : decode b_S_settleUp 27 = .ok (.ireturn, 1) := by decide +kernel
theorem d_S_settleUp_28 : decode b_S_settleUp 28 = .ok (.aload_n 2, 1) := by decide +kernel
theorem d_S_settleUp_29 : decode b_S_settleUp 29 = .ok (.getfield 218, 3) := by decide +kernel
theorem d_S_settleUp_32 : decode b_S_settleUp 32 = .ok (.ifCond .ne 19, 3) := by decide +kernel
theorem d_S_settleUp_35 : decode b_S_settleUp 35 = .ok (.aload_n 0, 1) := by decide +kernel
theorem d_S_settleUp_36 : decode b_S_settleUp 36 = .ok (.iload_n 3, 1) := by decide +kernel
theorem d_S_settleUp_37 : decode b_S_settleUp 37 = .ok (.iload 4, 2) := by decide +kernel
theorem d_S_settleUp_39 : decode b_S_settleUp 39 = .ok (.aload_n 1, 1) := by decide +kernel
theorem d_S_settleUp_40 : decode b_S_settleUp 40 = .ok (.getfield 248, 3) := by decide +kernel
theorem d_S_settleUp_43 : decode b_S_settleUp 43 = .ok (.iconst 0, 1) := by decide +kernel
theorem d_S_settleUp_44 : decode b_S_settleUp 44 = .ok (.iaload, 1) := by decide +kernel
theorem d_S_settleUp_45 : decode b_S_settleUp 45 = .ok (.invokevirtual 251, 3) := by decide +kernel
theorem d_S_settleUp_48 : decode b_S_settleUp 48 = .ok (.goto 24, 3) := by decide +kernel
theorem d_S_settleUp_51 : decode b_S_settleUp 51 = .ok (.aload_n 2, 1) := by decide +kernel
theorem d_S_settleUp_52 : decode b_S_settleUp 52 = .ok (.getfield 109, 3) := by decide +kernel
theorem d_S_settleUp_55 : decode b_S_settleUp 55 = .ok (.iload_n 3, 1) := by decide +kernel
theorem d_S_settleUp_56 : decode b_S_settleUp 56 = .ok (.iload 4, 2) := by decide +kernel
theorem d_S_settleUp_58 : decode b_S_settleUp 58 = .ok (.aload_n 1, 1) := by decide +kernel
theorem d_S_settleUp_59 : decode b_S_settleUp 59 = .ok (.getfield 248, 3) := by decide +kernel
theorem d_S_settleUp_62 : decode b_S_settleUp 62 = .ok (.iconst 0, 1) := by decide +kernel
theorem d_S_settleUp_63 : decode b_S_settleUp 63 = .ok (.iaload, 1) := by decide +kernel
theorem d_S_settleUp_64 : decode b_S_settleUp 64 = .ok (.invokevirtual 116, 3) := by decide +kernel
theorem d_S_settleUp_67 : decode b_S_settleUp 67 = .ok (.ifCond .ne 5, 3) := by decide +kernel
theorem d_S_settleUp_70 : decode b_S_settleUp 70 = .ok (.iconst 0, 1) := by decide +kernel
theorem d_S_settleUp_71 : decode b_S_settleUp 71 = .ok (.ireturn, 1) := by decide +kernel
theorem d_S_settleUp_72 : decode b_S_settleUp 72 = .ok (.aload_n 2, 1) := by decide +kernel
theorem d_S_settleUp_73 : decode b_S_settleUp 73 = .ok (.getfield 178, 3) := by decide +kernel
theorem d_S_settleUp_76 : decode b_S_settleUp 76 = .ok (.iload_n 3, 1) := by decide +kernel
theorem d_S_settleUp_77 : decode b_S_settleUp 77 = .ok (.iload 4, 2) := by decide +kernel
theorem d_S_settleUp_79 : decode b_S_settleUp 79 = .ok (.iastore, 1) := by decide +kernel
theorem d_S_settleUp_80 : decode b_S_settleUp 80 = .ok (.iconst 1, 1) := by decide +kernel
theorem d_S_settleUp_81 : decode b_S_settleUp 81 = .ok (.ireturn, 1) := by decide +kernel
theorem d_S_cacheSample_0 : decode b_S_cacheSample 0 = .ok (.aload_n 0, 1) := by decide +kernel
theorem d_S_cacheSample_1 : decode b_S_cacheSample 1 = .ok (.getfield 28, 3) := by decide +kernel
theorem d_S_cacheSample_4 : decode b_S_cacheSample 4 = .ok (.iload_n 1, 1) := by decide +kernel
theorem d_S_cacheSample_5 : decode b_S_cacheSample 5 = .ok (.aaload, 1) := by decide +kernel
theorem d_S_cacheSample_6 : decode b_S_cacheSample 6 = .ok (.iload_n 3, 1) := by decide +kernel
theorem d_S_cacheSample_7 : decode b_S_cacheSample 7 = .ok (.invokevirtual 254, 3) := by decide +kernel
theorem d_S_cacheSample_10 : decode b_S_cacheSample 10 = .ok (.aload_n 0, 1) := by decide +kernel
theorem d_S_cacheSample_11 : decode b_S_cacheSample 11 = .ok (.getfield 22, 3) := by decide +kernel
theorem d_S_cacheSample_14 : decode b_S_cacheSample 14 = .ok (.iconst 0, 1) := by decide +kernel
theorem d_S_cacheSample_15 : decode b_S_cacheSample 15 = .ok (.aaload, 1) := by decide +kernel
theorem d_S_cacheSample_16 : decode b_S_cacheSample 16 = .ok (.getfield 163, 3) := by decide +kernel
theorem d_S_cacheSample_19 : decode b_S_cacheSample 19 = .ok (.iload_n 1, 1) := by decide +kernel
theorem d_S_cacheSample_20 : decode b_S_cacheSample 20 = .ok (.iload_n 2, 1) := by decide +kernel
theorem d_S_cacheSample_21 : decode b_S_cacheSample 21 = .ok (.aload_n 0, 1) := by decide +kernel
theorem d_S_cacheSample_22 : decode b_S_cacheSample 22 = .ok (.getfield 28, 3) := by decide +kernel
theorem d_S_cacheSample_25 : decode b_S_cacheSample 25 = .ok (.iload_n 1, 1) := by decide +kernel
theorem d_S_cacheSample_26 : decode b_S_cacheSample 26 = .ok (.aaload, 1) := by decide +kernel
theorem d_S_cacheSample_27 : decode b_S_cacheSample 27 = .ok (.iload_n 3, 1) := by decide +kernel
theorem d_S_cacheSample_28 : decode b_S_cacheSample 28 = .ok (.invokevirtual 257, 3) := by decide +kernel
theorem d_S_cacheSample_31 : decode b_S_cacheSample 31 = .ok (.invokevirtual 116, 3) := by decide +kernel
theorem d_S_cacheSample_34 : decode b_S_cacheSample 34 = .ok (.pop, 1) := by decide +kernel
theorem d_S_cacheSample_35 : decode b_S_cacheSample 35 = .ok (.return_, 1) := by decide +kernel
theorem d_S_sendDown_0 : decode b_S_sendDown 0 = .ok (.aload_n 1, 1) := by decide +kernel
theorem d_S_sendDown_1 : decode b_S_sendDown 1 = .ok (.getfield 83, 3) := by decide +kernel
theorem d_S_sendDown_4 : decode b_S_sendDown 4 = .ok (.ifCond .eq 36, 3) := by decide +kernel
theorem d_S_sendDown_7 : decode b_S_sendDown 7 = .ok (.aload_n 1, 1) := by decide +kernel
theorem d_S_sendDown_8 : decode b_S_sendDown 8 = .ok (.getfield 163, 3) := by decide +kernel
theorem d_S_sendDown_11 : decode b_S_sendDown 11 = .ok (.getfield 162, 3) := by decide +kernel
theorem d_S_sendDown_14 : decode b_S_sendDown 14 = .ok (.ifCond .eq 26, 3) := by decide +kernel
theorem d_S_sendDown_17 : decode b_S_sendDown 17 = .ok (.aload_n 0, 1) := by decide +kernel
theorem d_S_sendDown_18 : decode b_S_sendDown 18 = .ok (.getfield 48, 3) := by decide +kernel
theorem d_S_sendDown_21 : decode b_S_sendDown 21 = .ok (.aload_n 1, 1) := by decide +kernel
theorem d_S_sendDown_22 : decode b_S_sendDown 22 = .ok (.getfield 163, 3) := by decide +kernel
theorem d_S_sendDown_25 : decode b_S_sendDown 25 = .ok (.getfield 242, 3) := by decide +kernel
theorem d_S_sendDown_28 : decode b_S_sendDown 28 = .ok (.iconst 0, 1) := by decide +kernel
theorem d_S_sendDown_29 : decode b_S_sendDown 29 = .ok (.iaload, 1) := by decide +kernel
theorem d_S_sendDown_30 : decode b_S_sendDown 30 = .ok (.aload_n 2, 1) := by decide +kernel
theorem d_S_sendDown_31 : decode b_S_sendDown 31 = .ok (.getfield 218, 3) := by decide +kernel
theorem d_S_sendDown_34 : decode b_S_sendDown 34 = .ok (.invokevirtual 260, 3) := by decide +kernel
theorem d_S_sendDown_37 : decode b_S_sendDown 37 = .ok (.ifCond .ne 4, 3) := by decide +kernel
theorem d_S_sendDown_40 : decode b_S_sendDown 40 = .ok (.return_, 1) := by decide +kernel
theorem d_S_sendDown_41 : decode b_S_sendDown 41 = .ok (.aload_n 0, 1) := by decide +kernel
theorem d_S_sendDown_42 : decode b_S_sendDown 42 = .ok (.dup, 1) := by decide +kernel
theorem d_S_sendDown_43 : decode b_S_sendDown 43 = .ok (.getfield 58, 3) := by decide +kernel
theorem d_S_sendDown_46 : decode b_S_sendDown 46 = .ok (.iconst 1, 1) := by decide +kernel
theorem d_S_sendDown_47 : decode b_S_sendDown 47 = .ok (.iadd, 1) := by decide +kernel
theorem d_S_sendDown_48 : decode b_S_sendDown 48 = .ok (.putfield 58, 3) := by decide +kernel
theorem d_S_sendDown_51 : decode b_S_sendDown 51 = .ok (.aload_n 0, 1) := by decide +kernel
theorem d_S_sendDown_52 : decode b_S_sendDown 52 = .ok (.aload_n 2, 1) := by decide +kernel
theorem d_S_sendDown_53 : decode b_S_sendDown 53 = .ok (.aload_n 1, 1) := by decide +kernel
theorem d_S_sendDown_54 : decode b_S_sendDown 54 = .ok (.aload_n 3, 1) := by decide +kernel
theorem d_S_sendDown_55 : decode b_S_sendDown 55 = .ok (.invokevirtual 225, 3) := by decide +kernel
theorem d_S_sendDown_58 : decode b_S_sendDown 58 = .ok (.istore 4, 2) := by decide +kernel
theorem d_S_sendDown_60 : decode b_S_sendDown 60 = .ok (.iload 4, 2) := by decide +kernel
theorem d_S_sendDown_62 : decode b_S_sendDown 62 = .ok (.ifCond .eq 11, 3) := by decide +kernel
theorem d_S_sendDown_65 : decode b_S_sendDown 65 = .ok (.aload_n 2, 1) := by decide +kernel
theorem d_S_sendDown_66 : decode b_S_sendDown 66 = .ok (.aload_n 1, 1) := by decide +kernel
theorem d_S_sendDown_67 : decode b_S_sendDown 67 = .ok (.getfield 159, 3) := by decide +kernel
theorem d_S_sendDown_70 : decode b_S_sendDown 70 = .ok (.putfield 159, 3) := by decide +kernel
theorem d_S_sendDown_73 : decode b_S_sendDown 73 = .ok (.iload 4, 2) := by decide +kernel
theorem d_S_sendDown_75 : decode b_S_sendDown 75 = .ok (.ifCond .eq 18, 3) := by decide +kernel
theorem d_S_sendDown_78 : decode b_S_sendDown 78 = .ok (.aload_n 1, 1) := by decide +kernel
theorem d_S_sendDown_79 : decode b_S_sendDown 79 = .ok (.getfield 163, 3) := by decide +kernel
theorem d_S_sendDown_82 : decode b_S_sendDown 82 = .ok (.aload_n 2, 1) := by decide +kernel
theorem d_S_sendDown_83 : decode b_S_sendDown 83 = .ok (.invokestatic 264, 3) := by decide +kernel
theorem d_S_sendDown_86 : decode b_S_sendDown 86 = .ok (.ifCond .eq 7, 3) := by decide +kernel
theorem d_S_sendDown_89 : decode b_S_sendDown 89 = .ok (.iconst 1, 1) := by decide +kernel
theorem d_S_sendDown_90 : decode b_S_sendDown 90 = .ok (.goto 4, 3) := by decide +kernel
theorem d_S_sendDown_93 : decode b_S_sendDown 93 = .ok (.iconst 0, 1) := by decide +kernel
theorem d_S_sendDown_94 : decode b_S_sendDown 94 = .ok (.istore 5, 2) := by decide +kernel
theorem d_S_sendDown_96 : decode b_S_sendDown 96 = .ok (.iload 5, 2) := by decide +kernel
theorem d_S_sendDown_98 : decode b_S_sendDown 98 = .ok (.ifCond .eq 29, 3) := by decide +kernel
theorem d_S_sendDown_101 : decode b_S_sendDown 101 = .ok (.aload_n 3, 1) := by decide +kernel
theorem d_S_sendDown_102 : decode b_S_sendDown 102 = .ok (.aload_n 0, 1) := by decide +kernel
theorem d_S_sendDown_103 : decode b_S_sendDown 103 = .ok (.getfield 55, 3) := by decide +kernel
theorem d_S_sendDown_106 : decode b_S_sendDown 106 = .ok (.invokevirtual 233, 3) := by decide +kernel
theorem d_S_sendDown_109 : decode b_S_sendDown 109 = .ok (.ifCond .eq 18, 3) := by decide +kernel
theorem d_S_sendDown_112 : decode b_S_sendDown 112 = .ok (.aload_n 1, 1) := by decide +kernel
theorem d_S_sendDown_113 : decode b_S_sendDown 113 = .ok (.getfield 163, 3) := by decide +kernel
theorem d_S_sendDown_116 : decode b_S_sendDown 116 = .ok (.invokevirtual 239, 3) := by decide +kernel
theorem d_S_sendDown_119 : decode b_S_sendDown 119 = .ok (.aload_n 1, 1) := by decide +kernel
theorem d_S_sendDown_120 : decode b_S_sendDown 120 = .ok (.iconst 0, 1) := by decide +kernel
theorem d_S_sendDown_121 : decode b_S_sendDown 121 = .ok (.putfield 169, 3) := by decide +kernel
theorem d_S_sendDown_124 : decode b_S_sendDown 124 = .ok (.goto 7, 3) := by decide +kernel
theorem d_S_sendDown_127 : decode b_S_sendDown 127 = .ok (.aload_n 1, 1) := by decide +kernel
theorem d_S_sendDown_128 : decode b_S_sendDown 128 = .ok (.invokevirtual 267, 3) := by decide +kernel
theorem d_S_sendDown_131 : decode b_S_sendDown 131 = .ok (.return_, 1) := by decide +kernel
theorem d_S_settleDown_0 : decode b_S_settleDown 0 = .ok (.aload_n 0, 1) := by decide +kernel
theorem d_S_settleDown_1 : decode b_S_settleDown 1 = .ok (.getfield 242, 3) := by decide +kernel
theorem d_S_settleDown_4 : decode b_S_settleDown 4 = .ok (.iconst 0, 1) := by decide +kernel
theorem d_S_settleDown_5 : decode b_S_settleDown 5 = .ok (.iaload, 1) := by decide +kernel
theorem d_S_settleDown_6 : decode b_S_settleDown 6 = .ok (.istore_n 2, 1) := by decide +kernel
theorem d_S_settleDown_7 : decode b_S_settleDown 7 = .ok (.aload_n 0, 1) := by decide +kernel
theorem d_S_settleDown_8 : decode b_S_settleDown 8 = .ok (.getfield 245, 3) := by decide +kernel
theorem d_S_settleDown_11 : decode b_S_settleDown 11 = .ok (.iconst 0, 1) := by decide +kernel
theorem d_S_settleDown_12 : decode b_S_settleDown 12 = .ok (.iaload, 1) := by decide +kernel
theorem d_S_settleDown_13 : decode b_S_settleDown 13 = .ok (.istore_n 3, 1) := by decide +kernel
theorem d_S_settleDown_14 : decode b_S_settleDown 14 = .ok (.iload_n 3, 1) := by decide +kernel
theorem d_S_settleDown_15 : decode b_S_settleDown 15 = .ok (.aload_n 1, 1) := by decide +kernel
theorem d_S_settleDown_16 : decode b_S_settleDown 16 = .ok (.getfield 270, 3) := by decide +kernel
theorem d_S_settleDown_19 : decode b_S_settleDown 19 = .ok (.iload_n 2, 1) := by decide +kernel
theorem d_S_settleDown_20 : decode b_S_settleDown 20 = .ok (.iaload, 1) := by decide +kernel
theorem d_S_settleDown_21 : decode b_S_settleDown 21 = .ok (.if_icmp .gt 5, 3) := by decide +kernel
theorem d_S_settleDown_24 : decode b_S_settleDown 24 = .ok (.iconst 1, 1) := by decide +kernel
theorem d_S_settleDown_25 : decode b_S_settleDown 25 = .ok (.ireturn, 1) := by decide +kernel
theorem d_S_settleDown_26 : decode b_S_settleDown 26 = .ok (.aload_n 1, 1) := by decide +kernel
theorem d_S_settleDown_27 : decode b_S_settleDown 27 = .ok (.getfield 218, 3) := by decide +kernel
theorem d_S_settleDown_30 : decode b_S_settleDown 30 = .ok (.iload_n 2, 1) := by decide +kernel
theorem d_S_settleDown_31 : decode b_S_settleDown 31 = .ok (.if_icmp .ne 16, 3) := by decide +kernel
theorem d_S_settleDown_34 : decode b_S_settleDown 34 = .ok (.aload_n 1, 1) := by decide +kernel
theorem d_S_settleDown_35 : decode b_S_settleDown 35 = .ok (.aload_n 0, 1) := by decide +kernel
theorem d_S_settleDown_36 : decode b_S_settleDown 36 = .ok (.getfield 248, 3) := by decide +kernel
theorem d_S_settleDown_39 : decode b_S_settleDown 39 = .ok (.iconst 0, 1) := by decide +kernel
theorem d_S_settleDown_40 : decode b_S_settleDown 40 = .ok (.iaload, 1) := by decide +kernel
theorem d_S_settleDown_41 : decode b_S_settleDown 41 = .ok (.putfield 181, 3) := by decide +kernel
theorem d_S_settleDown_44 : decode b_S_settleDown 44 = .ok (.goto 23, 3) := by decide +kernel
theorem d_S_settleDown_47 : decode b_S_settleDown 47 = .ok (.aload_n 1, 1) := by decide +kernel
theorem d_S_settleDown_48 : decode b_S_settleDown 48 = .ok (.getfield 163, 3) := by decide +kernel
theorem d_S_settleDown_51 : decode b_S_settleDown 51 = .ok (.iload_n 2, 1) := by decide +kernel
theorem d_S_settleDown_52 : decode b_S_settleDown 52 = .ok (.iload_n 3, 1) := by decide +kernel
theorem d_S_settleDown_53 : decode b_S_settleDown 53 = .ok (.aload_n 0, 1) := by decide +kernel
theorem d_S_settleDown_54 : decode b_S_settleDown 54 = .ok (.getfield 248, 3) := by decide +kernel
theorem d_S_settleDown_57 : decode b_S_settleDown 57 = .ok (.iconst 0, 1) := by decide +kernel
theorem d_S_settleDown_58 : decode b_S_settleDown 58 = .ok (.iaload, 1) := by decide +kernel
theorem d_S_settleDown_59 : decode b_S_settleDown 59 = .ok (.invokevirtual 116, 3) := by decide +kernel
theorem d_S_settleDown_62 : decode b_S_settleDown 62 = .ok (.ifCond .ne 5, 3) := by decide +kernel
theorem d_S_settleDown_65 : decode b_S_settleDown 65 = .ok (.iconst 0, 1) := by decide +kernel
theorem d_S_settleDown_66 : decode b_S_settleDown 66 = .ok (.ireturn, 1) := by decide +kernel
theorem d_S_settleDown_67 : decode b_S_settleDown 67 = .ok (.aload_n 1, 1) := by decide +kernel
theorem d_S_settleDown_68 : decode b_S_settleDown 68 = .ok (.getfield 270, 3) := by decide +kernel
theorem d_S_settleDown_71 : decode b_S_settleDown 71 = .ok (.iload_n 2, 1) := by decide +kernel
theorem d_S_settleDown_72 : decode b_S_settleDown 72 = .ok (.iload_n 3, 1) := by decide +kernel
theorem d_S_settleDown_73 : decode b_S_settleDown 73 = .ok (.iastore, 1) := by decide +kernel
theorem d_S_settleDown_74 : decode b_S_settleDown 74 = .ok (.iconst 1, 1) := by decide +kernel
theorem d_S_settleDown_75 : decode b_S_settleDown 75 = .ok (.ireturn, 1) := by decide +kernel
theorem d_M_init_0 : decode b_M_init 0 = .ok (.aload_n 0, 1) := by decide +kernel
theorem d_M_init_1 : decode b_M_init 1 = .ok (.invokespecial 1, 3) := by decide +kernel
theorem d_M_init_4 : decode b_M_init 4 = .ok (.aload_n 0, 1) := by decide +kernel
theorem d_M_init_5 : decode b_M_init 5 = .ok (.bipush 36, 2) := by decide +kernel
theorem d_M_init_7 : decode b_M_init 7 = .ok (.newarray .boolean, 2) := by decide +kernel
theorem d_M_init_9 : decode b_M_init 9 = .ok (.putfield 7, 3) := by decide +kernel
theorem d_M_init_12 : decode b_M_init 12 = .ok (.aload_n 0, 1) := by decide +kernel
theorem d_M_init_13 : decode b_M_init 13 = .ok (.bipush 6, 2) := by decide +kernel
theorem d_M_init_15 : decode b_M_init 15 = .ok (.newarray .boolean, 2) := by decide +kernel
theorem d_M_init_17 : decode b_M_init 17 = .ok (.putfield 13, 3) := by decide +kernel
theorem d_M_init_20 : decode b_M_init 20 = .ok (.aload_n 0, 1) := by decide +kernel
theorem d_M_init_21 : decode b_M_init 21 = .ok (.bipush 6, 2) := by decide +kernel
theorem d_M_init_23 : decode b_M_init 23 = .ok (.newarray .boolean, 2) := by decide +kernel
theorem d_M_init_25 : decode b_M_init 25 = .ok (.putfield 16, 3) := by decide +kernel
theorem d_M_init_28 : decode b_M_init 28 = .ok (.aload_n 0, 1) := by decide +kernel
theorem d_M_init_29 : decode b_M_init 29 = .ok (.bipush 6, 2) := by decide +kernel
theorem d_M_init_31 : decode b_M_init 31 = .ok (.newarray .int, 2) := by decide +kernel
theorem d_M_init_33 : decode b_M_init 33 = .ok (.putfield 19, 3) := by decide +kernel
theorem d_M_init_36 : decode b_M_init 36 = .ok (.aload_n 0, 1) := by decide +kernel
theorem d_M_init_37 : decode b_M_init 37 = .ok (.bipush 6, 2) := by decide +kernel
theorem d_M_init_39 : decode b_M_init 39 = .ok (.newarray .int, 2) := by decide +kernel
theorem d_M_init_41 : decode b_M_init 41 = .ok (.putfield 23, 3) := by decide +kernel
theorem d_M_init_44 : decode b_M_init 44 = .ok (.aload_n 0, 1) := by decide +kernel
theorem d_M_init_45 : decode b_M_init 45 = .ok (.iconst 4, 1) := by decide +kernel
theorem d_M_init_46 : decode b_M_init 46 = .ok (.newarray .long, 2) := by decide +kernel
theorem d_M_init_48 : decode b_M_init 48 = .ok (.putfield 26, 3) := by decide +kernel
theorem d_M_init_51 : decode b_M_init 51 = .ok (.aload_n 0, 1) := by decide +kernel
theorem d_M_init_52 : decode b_M_init 52 = .ok (.iconst 4, 1) := by decide +kernel
theorem d_M_init_53 : decode b_M_init 53 = .ok (.newarray .long, 2) := by decide +kernel
theorem d_M_init_55 : decode b_M_init 55 = .ok (.putfield 30, 3) := by decide +kernel
theorem d_M_init_58 : decode b_M_init 58 = .ok (.aload_n 0, 1) := by decide +kernel
theorem d_M_init_59 : decode b_M_init 59 = .ok (.bipush 6, 2) := by decide +kernel
theorem d_M_init_61 : decode b_M_init 61 = .ok (.newarray .int, 2) := by decide +kernel
theorem d_M_init_63 : decode b_M_init 63 = .ok (.putfield 33, 3) := by decide +kernel
theorem d_M_init_66 : decode b_M_init 66 = .ok (.aload_n 0, 1) := by decide +kernel
theorem d_M_init_67 : decode b_M_init 67 = .ok (.bipush 12, 2) := by decide +kernel
theorem d_M_init_69 : decode b_M_init 69 = .ok (.newarray .int, 2) := by decide +kernel
theorem d_M_init_71 : decode b_M_init 71 = .ok (.putfield 36, 3) := by decide +kernel
theorem d_M_init_74 : decode b_M_init 74 = .ok (.aload_n 0, 1) := by decide +kernel
theorem d_M_init_75 : decode b_M_init 75 = .ok (.bipush 96, 2) := by decide +kernel
theorem d_M_init_77 : decode b_M_init 77 = .ok (.newarray .int, 2) := by decide +kernel
theorem d_M_init_79 : decode b_M_init 79 = .ok (.putfield 39, 3) := by decide +kernel
theorem d_M_init_82 : decode b_M_init 82 = .ok (.aload_n 0, 1) := by decide +kernel
theorem d_M_init_83 : decode b_M_init 83 = .ok (.bipush 6, 2) := by decide +kernel
theorem d_M_init_85 : decode b_M_init 85 = .ok (.newarray .int, 2) := by decide +kernel
theorem d_M_init_87 : decode b_M_init 87 = .ok (.putfield 42, 3) := by decide +kernel
theorem d_M_init_90 : decode b_M_init 90 = .ok (.aload_n 0, 1) := by decide +kernel
theorem d_M_init_91 : decode b_M_init 91 = .ok (.bipush 12, 2) := by decide +kernel
theorem d_M_init_93 : decode b_M_init 93 = .ok (.newarray .int, 2) := by decide +kernel
theorem d_M_init_95 : decode b_M_init 95 = .ok (.putfield 45, 3) := by decide +kernel
theorem d_M_init_98 : decode b_M_init 98 = .ok (.aload_n 0, 1) := by decide +kernel
theorem d_M_init_99 : decode b_M_init 99 = .ok (.bipush 96, 2) := by decide +kernel
theorem d_M_init_101 : decode b_M_init 101 = .ok (.newarray .int, 2) := by decide +kernel
theorem d_M_init_103 : decode b_M_init 103 = .ok (.putfield 48, 3) := by decide +kernel
theorem d_M_init_106 : decode b_M_init 106 = .ok (.aload_n 0, 1) := by decide +kernel
theorem d_M_init_107 : decode b_M_init 107 = .ok (.bipush 12, 2) := by decide +kernel
theorem d_M_init_109 : decode b_M_init 109 = .ok (.newarray .int, 2) := by decide +kernel
theorem d_M_init_111 : decode b_M_init 111 = .ok (.putfield 51, 3) := by decide +kernel
theorem d_M_init_114 : decode b_M_init 114 = .ok (.aload_n 0, 1) := by decide +kernel
theorem d_M_init_115 : decode b_M_init 115 = .ok (.bipush 48, 2) := by decide +kernel
theorem d_M_init_117 : decode b_M_init 117 = .ok (.newarray .int, 2) := by decide +kernel
theorem d_M_init_119 : decode b_M_init 119 = .ok (.putfield 54, 3) := by decide +kernel
theorem d_M_init_122 : decode b_M_init 122 = .ok (.aload_n 0, 1) := by decide +kernel
theorem d_M_init_123 : decode b_M_init 123 = .ok (.bipush 48, 2) := by decide +kernel
theorem d_M_init_125 : decode b_M_init 125 = .ok (.newarray .int, 2) := by decide +kernel
theorem d_M_init_127 : decode b_M_init 127 = .ok (.putfield 57, 3) := by decide +kernel
theorem d_M_init_130 : decode b_M_init 130 = .ok (.aload_n 0, 1) := by decide +kernel
theorem d_M_init_131 : decode b_M_init 131 = .ok (.bipush 48, 2) := by decide +kernel
theorem d_M_init_133 : decode b_M_init 133 = .ok (.newarray .int, 2) := by decide +kernel
theorem d_M_init_135 : decode b_M_init 135 = .ok (.putfield 60, 3) := by decide +kernel
theorem d_M_init_138 : decode b_M_init 138 = .ok (.aload_n 0, 1) := by decide +kernel
theorem d_M_init_139 : decode b_M_init 139 = .ok (.bipush 6, 2) := by decide +kernel
theorem d_M_init_141 : decode b_M_init 141 = .ok (.newarray .int, 2) := by decide +kernel
theorem d_M_init_143 : decode b_M_init 143 = .ok (.putfield 63, 3) := by decide +kernel
theorem d_M_init_146 : decode b_M_init 146 = .ok (.aload_n 0, 1) := by decide +kernel
theorem d_M_init_147 : decode b_M_init 147 = .ok (.bipush 6, 2) := by decide +kernel
theorem d_M_init_149 : decode b_M_init 149 = .ok (.newarray .int, 2) := by decide +kernel
theorem d_M_init_151 : decode b_M_init 151 = .ok (.putfield 66, 3) := by decide +kernel
theorem d_M_init_154 : decode b_M_init 154 = .ok (.aload_n 0, 1) := by decide +kernel
theorem d_M_init_155 : decode b_M_init 155 = .ok (.bipush 72, 2) := by decide +kernel
theorem d_M_init_157 : decode b_M_init 157 = .ok (.newarray .int, 2) := by decide +kernel
theorem d_M_init_159 : decode b_M_init 159 = .ok (.putfield 69, 3) := by decide +kernel
theorem d_M_init_162 : decode b_M_init 162 = .ok (.aload_n 0, 1) := by decide +kernel
theorem d_M_init_163 : decode b_M_init 163 = .ok (.bipush 6, 2) := by decide +kernel
theorem d_M_init_165 : decode b_M_init 165 = .ok (.newarray .int, 2) := by decide +kernel
theorem d_M_init_167 : decode b_M_init 167 = .ok (.putfield 72, 3) := by decide +kernel
theorem d_M_init_170 : decode b_M_init 170 = .ok (.aload_n 0, 1) := by decide +kernel
theorem d_M_init_171 : decode b_M_init 171 = .ok (.bipush 18, 2) := by decide +kernel
theorem d_M_init_173 : decode b_M_init 173 = .ok (.newarray .int, 2) := by decide +kernel
theorem d_M_init_175 : decode b_M_init 175 = .ok (.putfield 75, 3) := by decide +kernel
theorem d_M_init_178 : decode b_M_init 178 = .ok (.aload_n 0, 1) := by decide +kernel
theorem d_M_init_179 : decode b_M_init 179 = .ok (.bipush 6, 2) := by decide +kernel
theorem d_M_init_181 : decode b_M_init 181 = .ok (.newarray .int, 2) := by decide +kernel
theorem d_M_init_183 : decode b_M_init 183 = .ok (.putfield 78, 3) := by decide +kernel
theorem d_M_init_186 : decode b_M_init 186 = .ok (.aload_n 0, 1) := by decide +kernel
theorem d_M_init_187 : decode b_M_init 187 = .ok (.bipush 6, 2) := by decide +kernel
theorem d_M_init_189 : decode b_M_init 189 = .ok (.newarray .int, 2) := by decide +kernel
theorem d_M_init_191 : decode b_M_init 191 = .ok (.putfield 81, 3) := by decide +kernel
theorem d_M_init_194 : decode b_M_init 194 = .ok (.aload_n 0, 1) := by decide +kernel
theorem d_M_init_195 : decode b_M_init 195 = .ok (.bipush 6, 2) := by decide +kernel
theorem d_M_init_197 : decode b_M_init 197 = .ok (.newarray .int, 2) := by decide +kernel
theorem d_M_init_199 : decode b_M_init 199 = .ok (.putfield 84, 3) := by decide +kernel
theorem d_M_init_202 : decode b_M_init 202 = .ok (.aload_n 0, 1) := by decide +kernel
theorem d_M_init_203 : decode b_M_init 203 = .ok (.bipush 6, 2) := by decide +kernel
theorem d_M_init_205 : decode b_M_init 205 = .ok (.newarray .int, 2) := by decide +kernel
theorem d_M_init_207 : decode b_M_init 207 = .ok (.putfield 87, 3) := by decide +kernel
theorem d_M_init_210 : decode b_M_init 210 = .ok (.aload_n 0, 1) := by decide +kernel
theorem d_M_init_211 : decode b_M_init 211 = .ok (.bipush 6, 2) := by decide +kernel
theorem d_M_init_213 : decode b_M_init 213 = .ok (.newarray .int, 2) := by decide +kernel
theorem d_M_init_215 : decode b_M_init 215 = .ok (.putfield 90, 3) := by decide +kernel
theorem d_M_init_218 : decode b_M_init 218 = .ok (.aload_n 0, 1) := by decide +kernel
theorem d_M_init_219 : decode b_M_init 219 = .ok (.bipush 6, 2) := by decide +kernel
theorem d_M_init_221 : decode b_M_init 221 = .ok (.newarray .int, 2) := by decide +kernel
theorem d_M_init_223 : decode b_M_init 223 = .ok (.putfield 93, 3) := by decide +kernel
theorem d_M_init_226 : decode b_M_init 226 = .ok (.aload_n 0, 1) := by decide +kernel
theorem d_M_init_227 : decode b_M_init 227 = .ok (.iload_n 1, 1) := by decide +kernel
theorem d_M_init_228 : decode b_M_init 228 = .ok (.iconst 2, 1) := by decide +kernel
theorem d_M_init_229 : decode b_M_init 229 = .ok (.if_icmp .ge 7, 3) := by decide +kernel
theorem d_M_init_232 : decode b_M_init 232 = .ok (.iconst 2, 1) := by decide +kernel
theorem d_M_init_233 : decode b_M_init 233 = .ok (.goto 15, 3) := by decide +kernel
theorem d_M_init_236 : decode b_M_init 236 = .ok (.iload_n 1, 1) := by decide +kernel
theorem d_M_init_237 : decode b_M_init 237 = .ok (.bipush 6, 2) := by decide +kernel
theorem d_M_init_239 : decode b_M_init 239 = .ok (.if_icmp .le 8, 3) := by decide +kernel
theorem d_M_init_242 : decode b_M_init 242 = .ok (.bipush 6, 2) := by decide +kernel
theorem d_M_init_244 : decode b_M_init 244 = .ok (.goto 4, 3) := by decide +kernel
theorem d_M_init_247 : decode b_M_init 247 = .ok (.iload_n 1, 1) := by decide +kernel
theorem d_M_init_248 : decode b_M_init 248 = .ok (.putfield 96, 3) := by decide +kernel
theorem d_M_init_251 : decode b_M_init 251 = .ok (.aload_n 0, 1) := by decide +kernel
theorem d_M_init_252 : decode b_M_init 252 = .ok (.iload_n 2, 1) := by decide +kernel
theorem d_M_init_253 : decode b_M_init 253 = .ok (.bipush 8, 2) := by decide +kernel
theorem d_M_init_255 : decode b_M_init 255 = .ok (.if_icmp .ge 8, 3) := by decide +kernel
theorem d_M_init_258 : decode b_M_init 258 = .ok (.bipush 8, 2) := by decide +kernel
theorem d_M_init_260 : decode b_M_init 260 = .ok (.goto 15, 3) := by decide +kernel
theorem d_M_init_263 : decode b_M_init 263 = .ok (.iload_n 2, 1) := by decide +kernel
theorem d_M_init_264 : decode b_M_init 264 = .ok (.bipush 24, 2) := by decide +kernel
theorem d_M_init_266 : decode b_M_init 266 = .ok (.if_icmp .le 8, 3) := by decide +kernel
theorem d_M_init_269 : decode b_M_init 269 = .ok (.bipush 24, 2) := by decide +kernel
theorem d_M_init_271 : decode b_M_init 271 = .ok (.goto 4, 3) := by decide +kernel
theorem d_M_init_274 : decode b_M_init 274 = .ok (.iload_n 2, 1) := by decide +kernel
theorem d_M_init_275 : decode b_M_init 275 = .ok (.putfield 100, 3) := by decide +kernel
theorem d_M_init_278 : decode b_M_init 278 = .ok (.aload_n 0, 1) := by decide +kernel
theorem d_M_init_279 : decode b_M_init 279 = .ok (.iload_n 3, 1) := by decide +kernel
theorem d_M_init_280 : decode b_M_init 280 = .ok (.iconst 1, 1) := by decide +kernel
theorem d_M_init_281 : decode b_M_init 281 = .ok (.if_icmp .ge 7, 3) := by decide +kernel
theorem d_M_init_284 : decode b_M_init 284 = .ok (.iconst 1, 1) := by decide +kernel
theorem d_M_init_285 : decode b_M_init 285 = .ok (.goto 13, 3) := by decide +kernel
theorem d_M_init_288 : decode b_M_init 288 = .ok (.iload_n 3, 1) := by decide +kernel
theorem d_M_init_289 : decode b_M_init 289 = .ok (.iconst 4, 1) := by decide +kernel
theorem d_M_init_290 : decode b_M_init 290 = .ok (.if_icmp .le 7, 3) := by decide +kernel
theorem d_M_init_293 : decode b_M_init 293 = .ok (.iconst 4, 1) := by decide +kernel
theorem d_M_init_294 : decode b_M_init 294 = .ok (.goto 4, 3) := by decide +kernel
theorem d_M_init_297 : decode b_M_init 297 = .ok (.iload_n 3, 1) := by decide +kernel
theorem d_M_init_298 : decode b_M_init 298 = .ok (.putfield 103, 3) := by decide +kernel
theorem d_M_init_301 : decode b_M_init 301 = .ok (.aload_n 0, 1) := by decide +kernel
theorem d_M_init_302 : decode b_M_init 302 = .ok (.getfield 13, 3) := by decide +kernel
theorem d_M_init_305 : decode b_M_init 305 = .ok (.iconst 0, 1) := by decide +kernel
theorem d_M_init_306 : decode b_M_init 306 = .ok (.iconst 1, 1) := by decide +kernel
theorem d_M_init_307 : decode b_M_init 307 = .ok (.bastore, 1) := by decide +kernel
theorem d_M_init_308 : decode b_M_init 308 = .ok (.aload_n 0, 1) := by decide +kernel
theorem d_M_init_309 : decode b_M_init 309 = .ok (.getfield 16, 3) := by decide +kernel
theorem d_M_init_312 : decode b_M_init 312 = .ok (.iconst 0, 1) := by decide +kernel
theorem d_M_init_313 : decode b_M_init 313 = .ok (.iconst 1, 1) := by decide +kernel
theorem d_M_init_314 : decode b_M_init 314 = .ok (.bastore, 1) := by decide +kernel
theorem d_M_init_315 : decode b_M_init 315 = .ok (.iconst 0, 1) := by decide +kernel
theorem d_M_init_316 : decode b_M_init 316 = .ok (.istore 4, 2) := by decide +kernel
theorem d_M_init_318 : decode b_M_init 318 = .ok (.iload 4, 2) := by decide +kernel
theorem d_M_init_320 : decode b_M_init 320 = .ok (.iconst 4, 1) := by decide +kernel
end
section
theorem d_M_init_321 : decode b_M_init 321 = .ok (.if_icmp .ge 29, 3) := by decide +kernel
theorem d_M_init_324 : decode b_M_init 324 = .ok (.aload_n 0, 1) := by decide +kernel
theorem d_M_init_325 : decode b_M_init 325 = .ok (.getfield 26, 3) := by decide +kernel
theorem d_M_init_328 : decode b_M_init 328 = .ok (.iload 4, 2) := by decide +kernel
theorem d_M_init_330 : decode b_M_init 330 = .ok (.ldc2_w 106, 3) := by decide +kernel
theorem d_M_init_333 : decode b_M_init 333 = .ok (.lastore, 1) := by decide +kernel
theorem d_M_init_334 : decode b_M_init 334 = .ok (.aload_n 0, 1) := by decide +kernel
theorem d_M_init_335 : decode b_M_init 335 = .ok (.getfield 30, 3) := by decide +kernel
theorem d_M_init_338 : decode b_M_init 338 = .ok (.iload 4, 2) := by decide +kernel
theorem d_M_init_340 : decode b_M_init 340 = .ok (.ldc2_w 106, 3) := by decide +kernel
theorem d_M_init_343 : decode b_M_init 343 = .ok (.lastore, 1) := by decide +kernel
theorem d_M_init_344 : decode b_M_init 344 = .ok (.iinc 4 1, 3) := by decide +kernel
theorem d_M_init_347 : decode b_M_init 347 = .ok (.goto (-29), 3) := by decide +kernel
theorem d_M_init_350 : decode b_M_init 350 = .ok (.return_, 1) := by decide +kernel
theorem d_M_noNode_0 : decode b_M_noNode 0 = .ok (.iload_n 1, 1) := by decide +kernel
theorem d_M_noNode_1 : decode b_M_noNode 1 = .ok (.ifCond .lt 11, 3) := by decide +kernel
theorem d_M_noNode_4 : decode b_M_noNode 4 = .ok (.iload_n 1, 1) := by decide +kernel
theorem d_M_noNode_5 : decode b_M_noNode 5 = .ok (.aload_n 0, 1) := by decide +kernel
theorem d_M_noNode_6 : decode b_M_noNode 6 = .ok (.getfield 96, 3) := by decide +kernel
theorem d_M_noNode_9 : decode b_M_noNode 9 = .ok (.if_icmp .lt 7, 3) := by decide +kernel
theorem d_M_noNode_12 : decode b_M_noNode 12 = .ok (.iconst 1, 1) := by decide +kernel
theorem d_M_noNode_13 : decode b_M_noNode 13 = .ok (.goto 4, 3) := by decide +kernel
theorem d_M_noNode_16 : decode b_M_noNode 16 = .ok (.iconst 0, 1) := by decide +kernel
theorem d_M_noNode_17 : decode b_M_noNode 17 = .ok (.ireturn, 1) := by decide +kernel
theorem d_M_pair_0 : decode b_M_pair 0 = .ok (.aload_n 0, 1) := by decide +kernel
theorem d_M_pair_1 : decode b_M_pair 1 = .ok (.iload_n 1, 1) := by decide +kernel
theorem d_M_pair_2 : decode b_M_pair 2 = .ok (.invokevirtual 108, 3) := by decide +kernel
theorem d_M_pair_5 : decode b_M_pair 5 = .ok (.ifCond .ne 31, 3) := by decide +kernel
theorem d_M_pair_8 : decode b_M_pair 8 = .ok (.aload_n 0, 1) := by decide +kernel
theorem d_M_pair_9 : decode b_M_pair 9 = .ok (.iload_n 2, 1) := by decide +kernel
theorem d_M_pair_10 : decode b_M_pair 10 = .ok (.invokevirtual 108, 3) := by decide +kernel
theorem d_M_pair_13 : decode b_M_pair 13 = .ok (.ifCond .ne 23, 3) := by decide +kernel
theorem d_M_pair_16 : decode b_M_pair 16 = .ok (.iload_n 1, 1) := by decide +kernel
theorem d_M_pair_17 : decode b_M_pair 17 = .ok (.iload_n 2, 1) := by decide +kernel
theorem d_M_pair_18 : decode b_M_pair 18 = .ok (.if_icmp .eq 18, 3) := by decide +kernel
theorem d_M_pair_21 : decode b_M_pair 21 = .ok (.aload_n 0, 1) := by decide +kernel
theorem d_M_pair_22 : decode b_M_pair 22 = .ok (.getfield 7, 3) := by decide +kernel
theorem d_M_pair_25 : decode b_M_pair 25 = .ok (.bipush 6, 2) := by decide +kernel
theorem d_M_pair_27 : decode b_M_pair 27 = .ok (.iload_n 1, 1) := by decide +kernel
theorem d_M_pair_28 : decode b_M_pair 28 = .ok (.imul, 1) := by decide +kernel
theorem d_M_pair_29 : decode b_M_pair 29 = .ok (.iload_n 2, 1) := by decide +kernel
theorem d_M_pair_30 : decode b_M_pair 30 = .ok (.iadd, 1) := by decide +kernel
theorem d_M_pair_31 : decode b_M_pair 31 = .ok (.baload, 1) := by decide +kernel
theorem d_M_pair_32 : decode b_M_pair 32 = .ok (.iload_n 3, 1) := by decide +kernel
theorem d_M_pair_33 : decode b_M_pair 33 = .ok (.if_icmp .ne 5, 3) := by decide +kernel
theorem d_M_pair_36 : decode b_M_pair 36 = .ok (.iconst 0, 1) := by decide +kernel
theorem d_M_pair_37 : decode b_M_pair 37 = .ok (.ireturn, 1) := by decide +kernel
theorem d_M_pair_38 : decode b_M_pair 38 = .ok (.aload_n 0, 1) := by decide +kernel
theorem d_M_pair_39 : decode b_M_pair 39 = .ok (.getfield 7, 3) := by decide +kernel
theorem d_M_pair_42 : decode b_M_pair 42 = .ok (.bipush 6, 2) := by decide +kernel
theorem d_M_pair_44 : decode b_M_pair 44 = .ok (.iload_n 1, 1) := by decide +kernel
theorem d_M_pair_45 : decode b_M_pair 45 = .ok (.imul, 1) := by decide +kernel
theorem d_M_pair_46 : decode b_M_pair 46 = .ok (.iload_n 2, 1) := by decide +kernel
theorem d_M_pair_47 : decode b_M_pair 47 = .ok (.iadd, 1) := by decide +kernel
theorem d_M_pair_48 : decode b_M_pair 48 = .ok (.iload_n 3, 1) := by decide +kernel
theorem d_M_pair_49 : decode b_M_pair 49 = .ok (.bastore, 1) := by decide +kernel
theorem d_M_pair_50 : decode b_M_pair 50 = .ok (.aload_n 0, 1) := by decide +kernel
theorem d_M_pair_51 : decode b_M_pair 51 = .ok (.getfield 7, 3) := by decide +kernel
theorem d_M_pair_54 : decode b_M_pair 54 = .ok (.bipush 6, 2) := by decide +kernel
theorem d_M_pair_56 : decode b_M_pair 56 = .ok (.iload_n 2, 1) := by decide +kernel
theorem d_M_pair_57 : decode b_M_pair 57 = .ok (.imul, 1) := by decide +kernel
theorem d_M_pair_58 : decode b_M_pair 58 = .ok (.iload_n 1, 1) := by decide +kernel
theorem d_M_pair_59 : decode b_M_pair 59 = .ok (.iadd, 1) := by decide +kernel
theorem d_M_pair_60 : decode b_M_pair 60 = .ok (.iload_n 3, 1) := by decide +kernel
theorem d_M_pair_61 : decode b_M_pair 61 = .ok (.bastore, 1) := by decide +kernel
theorem d_M_pair_62 : decode b_M_pair 62 = .ok (.iconst 1, 1) := by decide +kernel
theorem d_M_pair_63 : decode b_M_pair 63 = .ok (.ireturn, 1) := by decide +kernel
theorem d_M_ranks_0 : decode b_M_ranks 0 = .ok (.iconst 0, 1) := by decide +kernel
theorem d_M_ranks_1 : decode b_M_ranks 1 = .ok (.istore_n 1, 1) := by decide +kernel
theorem d_M_ranks_2 : decode b_M_ranks 2 = .ok (.iload_n 1, 1) := by decide +kernel
theorem d_M_ranks_3 : decode b_M_ranks 3 = .ok (.bipush 6, 2) := by decide +kernel
theorem d_M_ranks_5 : decode b_M_ranks 5 = .ok (.if_icmp .ge 25, 3) := by decide +kernel
theorem d_M_ranks_8 : decode b_M_ranks 8 = .ok (.aload_n 0, 1) := by decide +kernel
theorem d_M_ranks_9 : decode b_M_ranks 9 = .ok (.getfield 42, 3) := by decide +kernel
theorem d_M_ranks_12 : decode b_M_ranks 12 = .ok (.iload_n 1, 1) := by decide +kernel
theorem d_M_ranks_13 : decode b_M_ranks 13 = .ok (.iload_n 1, 1) := by decide +kernel
theorem d_M_ranks_14 : decode b_M_ranks 14 = .ok (.ifCond .ne 7, 3) := by decide +kernel
theorem d_M_ranks_17 : decode b_M_ranks 17 = .ok (.iconst 0, 1) := by decide +kernel
theorem d_M_ranks_18 : decode b_M_ranks 18 = .ok (.goto 5, 3) := by decide +kernel
theorem d_M_ranks_21 : decode b_M_ranks 21 = .ok (.bipush 99, 2) := by decide +kernel
theorem d_M_ranks_23 : decode b_M_ranks 23 = .ok (.iastore, 1) := by decide +kernel
theorem d_M_ranks_24 : decode b_M_ranks 24 = .ok (.iinc 1 1, 3) := by decide +kernel
theorem d_M_ranks_27 : decode b_M_ranks 27 = .ok (.goto (-25), 3) := by decide +kernel
theorem d_M_ranks_30 : decode b_M_ranks 30 = .ok (.iconst 0, 1) := by decide +kernel
theorem d_M_ranks_31 : decode b_M_ranks 31 = .ok (.istore_n 1, 1) := by decide +kernel
theorem d_M_ranks_32 : decode b_M_ranks 32 = .ok (.iload_n 1, 1) := by decide +kernel
theorem d_M_ranks_33 : decode b_M_ranks 33 = .ok (.bipush 6, 2) := by decide +kernel
theorem d_M_ranks_35 : decode b_M_ranks 35 = .ok (.if_icmp .ge 86, 3) := by decide +kernel
theorem d_M_ranks_38 : decode b_M_ranks 38 = .ok (.iconst 0, 1) := by decide +kernel
theorem d_M_ranks_39 : decode b_M_ranks 39 = .ok (.istore_n 2, 1) := by decide +kernel
theorem d_M_ranks_40 : decode b_M_ranks 40 = .ok (.iload_n 2, 1) := by decide +kernel
theorem d_M_ranks_41 : decode b_M_ranks 41 = .ok (.aload_n 0, 1) := by decide +kernel
theorem d_M_ranks_42 : decode b_M_ranks 42 = .ok (.getfield 96, 3) := by decide +kernel
theorem d_M_ranks_45 : decode b_M_ranks 45 = .ok (.if_icmp .ge 70, 3) := by decide +kernel
theorem d_M_ranks_48 : decode b_M_ranks 48 = .ok (.iconst 0, 1) := by decide +kernel
theorem d_M_ranks_49 : decode b_M_ranks 49 = .ok (.istore_n 3, 1) := by decide +kernel
theorem d_M_ranks_50 : decode b_M_ranks 50 = .ok (.iload_n 3, 1) := by decide +kernel
theorem d_M_ranks_51 : decode b_M_ranks 51 = .ok (.aload_n 0, 1) := by decide +kernel
theorem d_M_ranks_52 : decode b_M_ranks 52 = .ok (.getfield 96, 3) := by decide +kernel
theorem d_M_ranks_55 : decode b_M_ranks 55 = .ok (.if_icmp .ge 54, 3) := by decide +kernel
theorem d_M_ranks_58 : decode b_M_ranks 58 = .ok (.aload_n 0, 1) := by decide +kernel
theorem d_M_ranks_59 : decode b_M_ranks 59 = .ok (.getfield 7, 3) := by decide +kernel
theorem d_M_ranks_62 : decode b_M_ranks 62 = .ok (.bipush 6, 2) := by decide +kernel
theorem d_M_ranks_64 : decode b_M_ranks 64 = .ok (.iload_n 2, 1) := by decide +kernel
theorem d_M_ranks_65 : decode b_M_ranks 65 = .ok (.imul, 1) := by decide +kernel
theorem d_M_ranks_66 : decode b_M_ranks 66 = .ok (.iload_n 3, 1) := by decide +kernel
theorem d_M_ranks_67 : decode b_M_ranks 67 = .ok (.iadd, 1) := by decide +kernel
theorem d_M_ranks_68 : decode b_M_ranks 68 = .ok (.baload, 1) := by decide +kernel
theorem d_M_ranks_69 : decode b_M_ranks 69 = .ok (.ifCond .eq 34, 3) := by decide +kernel
theorem d_M_ranks_72 : decode b_M_ranks 72 = .ok (.aload_n 0, 1) := by decide +kernel
theorem d_M_ranks_73 : decode b_M_ranks 73 = .ok (.getfield 42, 3) := by decide +kernel
theorem d_M_ranks_76 : decode b_M_ranks 76 = .ok (.iload_n 2, 1) := by decide +kernel
theorem d_M_ranks_77 : decode b_M_ranks 77 = .ok (.iaload, 1) := by decide +kernel
theorem d_M_ranks_78 : decode b_M_ranks 78 = .ok (.iconst 1, 1) := by decide +kernel
theorem d_M_ranks_79 : decode b_M_ranks 79 = .ok (.iadd, 1) := by decide +kernel
theorem d_M_ranks_80 : decode b_M_ranks 80 = .ok (.aload_n 0, 1) := by decide +kernel
theorem d_M_ranks_81 : decode b_M_ranks 81 = .ok (.getfield 42, 3) := by decide +kernel
theorem d_M_ranks_84 : decode b_M_ranks 84 = .ok (.iload_n 3, 1) := by decide +kernel
theorem d_M_ranks_85 : decode b_M_ranks 85 = .ok (.iaload, 1) := by decide +kernel
theorem d_M_ranks_86 : decode b_M_ranks 86 = .ok (.if_icmp .ge 17, 3) := by decide +kernel
theorem d_M_ranks_89 : decode b_M_ranks 89 = .ok (.aload_n 0, 1) := by decide +kernel
theorem d_M_ranks_90 : decode b_M_ranks 90 = .ok (.getfield 42, 3) := by decide +kernel
theorem d_M_ranks_93 : decode b_M_ranks 93 = .ok (.iload_n 3, 1) := by decide +kernel
theorem d_M_ranks_94 : decode b_M_ranks 94 = .ok (.aload_n 0, 1) := by decide +kernel
theorem d_M_ranks_95 : decode b_M_ranks 95 = .ok (.getfield 42, 3) := by decide +kernel
theorem d_M_ranks_98 : decode b_M_ranks 98 = .ok (.iload_n 2, 1) := by decide +kernel
theorem d_M_ranks_99 : decode b_M_ranks 99 = .ok (.iaload, 1) := by decide +kernel
theorem d_M_ranks_100 : decode b_M_ranks 100 = .ok (.iconst 1, 1) := by decide +kernel
theorem d_M_ranks_101 : decode b_M_ranks 101 = .ok (.iadd, 1) := by decide +kernel
theorem d_M_ranks_102 : decode b_M_ranks 102 = .ok (.iastore, 1) := by decide +kernel
theorem d_M_ranks_103 : decode b_M_ranks 103 = .ok (.iinc 3 1, 3) := by decide +kernel
theorem d_M_ranks_106 : decode b_M_ranks 106 = .ok (.goto (-56), 3) := by decide +kernel
theorem d_M_ranks_109 : decode b_M_ranks 109 = .ok (.iinc 2 1, 3) := by decide +kernel
theorem d_M_ranks_112 : decode b_M_ranks 112 = .ok (.goto (-72), 3) := by decide +kernel
theorem d_M_ranks_115 : decode b_M_ranks 115 = .ok (.iinc 1 1, 3) := by decide +kernel
theorem d_M_ranks_118 : decode b_M_ranks 118 = .ok (.goto (-86), 3) := by decide +kernel
theorem d_M_ranks_121 : decode b_M_ranks 121 = .ok (.iconst 1, 1) := by decide +kernel
theorem d_M_ranks_122 : decode b_M_ranks 122 = .ok (.istore_n 1, 1) := by decide +kernel
theorem d_M_ranks_123 : decode b_M_ranks 123 = .ok (.iconst 0, 1) := by decide +kernel
theorem d_M_ranks_124 : decode b_M_ranks 124 = .ok (.istore_n 2, 1) := by decide +kernel
theorem d_M_ranks_125 : decode b_M_ranks 125 = .ok (.iload_n 2, 1) := by decide +kernel
theorem d_M_ranks_126 : decode b_M_ranks 126 = .ok (.aload_n 0, 1) := by decide +kernel
theorem d_M_ranks_127 : decode b_M_ranks 127 = .ok (.getfield 96, 3) := by decide +kernel
theorem d_M_ranks_130 : decode b_M_ranks 130 = .ok (.if_icmp .ge 30, 3) := by decide +kernel
theorem d_M_ranks_133 : decode b_M_ranks 133 = .ok (.iload_n 1, 1) := by decide +kernel
theorem d_M_ranks_134 : decode b_M_ranks 134 = .ok (.ifCond .eq 18, 3) := by decide +kernel
theorem d_M_ranks_137 : decode b_M_ranks 137 = .ok (.aload_n 0, 1) := by decide +kernel
theorem d_M_ranks_138 : decode b_M_ranks 138 = .ok (.getfield 42, 3) := by decide +kernel
theorem d_M_ranks_141 : decode b_M_ranks 141 = .ok (.iload_n 2, 1) := by decide +kernel
theorem d_M_ranks_142 : decode b_M_ranks 142 = .ok (.iaload, 1) := by decide +kernel
theorem d_M_ranks_143 : decode b_M_ranks 143 = .ok (.bipush 99, 2) := by decide +kernel
theorem d_M_ranks_145 : decode b_M_ranks 145 = .ok (.if_icmp .ge 7, 3) := by decide +kernel
theorem d_M_ranks_148 : decode b_M_ranks 148 = .ok (.iconst 1, 1) := by decide +kernel
theorem d_M_ranks_149 : decode b_M_ranks 149 = .ok (.goto 4, 3) := by decide +kernel
theorem d_M_ranks_152 : decode b_M_ranks 152 = .ok (.iconst 0, 1) := by decide +kernel
theorem d_M_ranks_153 : decode b_M_ranks 153 = .ok (.istore_n 1, 1) := by decide +kernel
theorem d_M_ranks_154 : decode b_M_ranks 154 = .ok (.iinc 2 1, 3) := by decide +kernel
theorem d_M_ranks_157 : decode b_M_ranks 157 = .ok (.goto (-32), 3) := by decide +kernel
theorem d_M_ranks_160 : decode b_M_ranks 160 = .ok (.iload_n 1, 1) := by decide +kernel
theorem d_M_ranks_161 : decode b_M_ranks 161 = .ok (.ireturn, 1) := by decide +kernel
theorem d_M_findParents_0 : decode b_M_findParents 0 = .ok (.iconst 0, 1) := by decide +kernel
theorem d_M_findParents_1 : decode b_M_findParents 1 = .ok (.istore_n 1, 1) := by decide +kernel
theorem d_M_findParents_2 : decode b_M_findParents 2 = .ok (.iload_n 1, 1) := by decide +kernel
theorem d_M_findParents_3 : decode b_M_findParents 3 = .ok (.aload_n 0, 1) := by decide +kernel
theorem d_M_findParents_4 : decode b_M_findParents 4 = .ok (.getfield 96, 3) := by decide +kernel
theorem d_M_findParents_7 : decode b_M_findParents 7 = .ok (.if_icmp .ge 97, 3) := by decide +kernel
theorem d_M_findParents_10 : decode b_M_findParents 10 = .ok (.iconst 0, 1) := by decide +kernel
theorem d_M_findParents_11 : decode b_M_findParents 11 = .ok (.istore_n 2, 1) := by decide +kernel
theorem d_M_findParents_12 : decode b_M_findParents 12 = .ok (.aload_n 0, 1) := by decide +kernel
theorem d_M_findParents_13 : decode b_M_findParents 13 = .ok (.getfield 45, 3) := by decide +kernel
theorem d_M_findParents_16 : decode b_M_findParents 16 = .ok (.iconst 2, 1) := by decide +kernel
theorem d_M_findParents_17 : decode b_M_findParents 17 = .ok (.iload_n 1, 1) := by decide +kernel
theorem d_M_findParents_18 : decode b_M_findParents 18 = .ok (.imul, 1) := by decide +kernel
theorem d_M_findParents_19 : decode b_M_findParents 19 = .ok (.iconst (-1), 1) := by decide +kernel
theorem d_M_findParents_20 : decode b_M_findParents 20 = .ok (.iastore, 1) := by decide +kernel
theorem d_M_findParents_21 : decode b_M_findParents 21 = .ok (.aload_n 0, 1) := by decide +kernel
theorem d_M_findParents_22 : decode b_M_findParents 22 = .ok (.getfield 45, 3) := by decide +kernel
theorem d_M_findParents_25 : decode b_M_findParents 25 = .ok (.iconst 2, 1) := by decide +kernel
theorem d_M_findParents_26 : decode b_M_findParents 26 = .ok (.iload_n 1, 1) := by decide +kernel
theorem d_M_findParents_27 : decode b_M_findParents 27 = .ok (.imul, 1) := by decide +kernel
theorem d_M_findParents_28 : decode b_M_findParents 28 = .ok (.iconst 1, 1) := by decide +kernel
theorem d_M_findParents_29 : decode b_M_findParents 29 = .ok (.iadd, 1) := by decide +kernel
theorem d_M_findParents_30 : decode b_M_findParents 30 = .ok (.iconst (-1), 1) := by decide +kernel
theorem d_M_findParents_31 : decode b_M_findParents 31 = .ok (.iastore, 1) := by decide +kernel
theorem d_M_findParents_32 : decode b_M_findParents 32 = .ok (.iconst 0, 1) := by decide +kernel
theorem d_M_findParents_33 : decode b_M_findParents 33 = .ok (.istore_n 3, 1) := by decide +kernel
theorem d_M_findParents_34 : decode b_M_findParents 34 = .ok (.iload_n 3, 1) := by decide +kernel
theorem d_M_findParents_35 : decode b_M_findParents 35 = .ok (.aload_n 0, 1) := by decide +kernel
theorem d_M_findParents_36 : decode b_M_findParents 36 = .ok (.getfield 96, 3) := by decide +kernel
theorem d_M_findParents_39 : decode b_M_findParents 39 = .ok (.if_icmp .ge 59, 3) := by decide +kernel
theorem d_M_findParents_42 : decode b_M_findParents 42 = .ok (.iload_n 2, 1) := by decide +kernel
theorem d_M_findParents_43 : decode b_M_findParents 43 = .ok (.iconst 2, 1) := by decide +kernel
theorem d_M_findParents_44 : decode b_M_findParents 44 = .ok (.if_icmp .ge 54, 3) := by decide +kernel
theorem d_M_findParents_47 : decode b_M_findParents 47 = .ok (.aload_n 0, 1) := by decide +kernel
theorem d_M_findParents_48 : decode b_M_findParents 48 = .ok (.getfield 7, 3) := by decide +kernel
theorem d_M_findParents_51 : decode b_M_findParents 51 = .ok (.bipush 6, 2) := by decide +kernel
theorem d_M_findParents_53 : decode b_M_findParents 53 = .ok (.iload_n 1, 1) := by decide +kernel
theorem d_M_findParents_54 : decode b_M_findParents 54 = .ok (.imul, 1) := by decide +kernel
theorem d_M_findParents_55 : decode b_M_findParents 55 = .ok (.iload_n 3, 1) := by decide +kernel
theorem d_M_findParents_56 : decode b_M_findParents 56 = .ok (.iadd, 1) := by decide +kernel
theorem d_M_findParents_57 : decode b_M_findParents 57 = .ok (.baload, 1) := by decide +kernel
theorem d_M_findParents_58 : decode b_M_findParents 58 = .ok (.ifCond .eq 34, 3) := by decide +kernel
theorem d_M_findParents_61 : decode b_M_findParents 61 = .ok (.aload_n 0, 1) := by decide +kernel
theorem d_M_findParents_62 : decode b_M_findParents 62 = .ok (.getfield 42, 3) := by decide +kernel
theorem d_M_findParents_65 : decode b_M_findParents 65 = .ok (.iload_n 3, 1) := by decide +kernel
theorem d_M_findParents_66 : decode b_M_findParents 66 = .ok (.iaload, 1) := by decide +kernel
theorem d_M_findParents_67 : decode b_M_findParents 67 = .ok (.aload_n 0, 1) := by decide +kernel
theorem d_M_findParents_68 : decode b_M_findParents 68 = .ok (.getfield 42, 3) := by decide +kernel
theorem d_M_findParents_71 : decode b_M_findParents 71 = .ok (.iload_n 1, 1) := by decide +kernel
theorem d_M_findParents_72 : decode b_M_findParents 72 = .ok (.iaload, 1) := by decide +kernel
theorem d_M_findParents_73 : decode b_M_findParents 73 = .ok (.iconst 1, 1) := by decide +kernel
theorem d_M_findParents_74 : decode b_M_findParents 74 = .ok (.isub, 1) := by decide +kernel
theorem d_M_findParents_75 : decode b_M_findParents 75 = .ok (.if_icmp .ne 17, 3) := by decide +kernel
theorem d_M_findParents_78 : decode b_M_findParents 78 = .ok (.aload_n 0, 1) := by decide +kernel
theorem d_M_findParents_79 : decode b_M_findParents 79 = .ok (.getfield 45, 3) := by decide +kernel
theorem d_M_findParents_82 : decode b_M_findParents 82 = .ok (.iconst 2, 1) := by decide +kernel
theorem d_M_findParents_83 : decode b_M_findParents 83 = .ok (.iload_n 1, 1) := by decide +kernel
theorem d_M_findParents_84 : decode b_M_findParents 84 = .ok (.imul, 1) := by decide +kernel
theorem d_M_findParents_85 : decode b_M_findParents 85 = .ok (.iload_n 2, 1) := by decide +kernel
theorem d_M_findParents_86 : decode b_M_findParents 86 = .ok (.iadd, 1) := by decide +kernel
theorem d_M_findParents_87 : decode b_M_findParents 87 = .ok (.iload_n 3, 1) := by decide +kernel
theorem d_M_findParents_88 : decode b_M_findParents 88 = .ok (.iastore, 1) := by decide +kernel
theorem d_M_findParents_89 : decode b_M_findParents 89 = .ok (.iinc 2 1, 3) := by decide +kernel
theorem d_M_findParents_92 : decode b_M_findParents 92 = .ok (.iinc 3 1, 3) := by decide +kernel
theorem d_M_findParents_95 : decode b_M_findParents 95 = .ok (.goto (-61), 3) := by decide +kernel
theorem d_M_findParents_98 : decode b_M_findParents 98 = .ok (.iinc 1 1, 3) := by decide +kernel
theorem d_M_findParents_101 : decode b_M_findParents 101 = .ok (.goto (-99), 3) := by decide +kernel
theorem d_M_findParents_104 : decode b_M_findParents 104 = .ok (.return_, 1) := by decide +kernel
theorem d_M_first_0 : decode b_M_first 0 = .ok (.iload_n 0, 1) := by decide +kernel
theorem d_M_first_1 : decode b_M_first 1 = .ok (.ifCond .ne 8, 3) := by decide +kernel
theorem d_M_first_4 : decode b_M_first 4 = .ok (.bipush 9, 2) := by decide +kernel
theorem d_M_first_6 : decode b_M_first 6 = .ok (.goto 10, 3) := by decide +kernel
theorem d_M_first_9 : decode b_M_first 9 = .ok (.iload_n 0, 1) := by decide +kernel
theorem d_M_first_10 : decode b_M_first 10 = .ok (.bipush 10, 2) := by decide +kernel
theorem d_M_first_12 : decode b_M_first 12 = .ok (.idiv, 1) := by decide +kernel
theorem d_M_first_13 : decode b_M_first 13 = .ok (.bipush 10, 2) := by decide +kernel
theorem d_M_first_15 : decode b_M_first 15 = .ok (.irem, 1) := by decide +kernel
theorem d_M_first_16 : decode b_M_first 16 = .ok (.ireturn, 1) := by decide +kernel
theorem d_M_second_0 : decode b_M_second 0 = .ok (.iload_n 0, 1) := by decide +kernel
theorem d_M_second_1 : decode b_M_second 1 = .ok (.sipush 200, 3) := by decide +kernel
theorem d_M_second_4 : decode b_M_second 4 = .ok (.if_icmp .ge 8, 3) := by decide +kernel
theorem d_M_second_7 : decode b_M_second 7 = .ok (.bipush 9, 2) := by decide +kernel
theorem d_M_second_9 : decode b_M_second 9 = .ok (.goto 7, 3) := by decide +kernel
theorem d_M_second_12 : decode b_M_second 12 = .ok (.iload_n 0, 1) := by decide +kernel
theorem d_M_second_13 : decode b_M_second 13 = .ok (.bipush 10, 2) := by decide +kernel
theorem d_M_second_15 : decode b_M_second 15 = .ok (.irem, 1) := by decide +kernel
theorem d_M_second_16 : decode b_M_second 16 = .ok (.ireturn, 1) := by decide +kernel
theorem d_M_placeAdvert_0 : decode b_M_placeAdvert 0 = .ok (.iconst 0, 1) := by decide +kernel
theorem d_M_placeAdvert_1 : decode b_M_placeAdvert 1 = .ok (.istore_n 2, 1) := by decide +kernel
theorem d_M_placeAdvert_2 : decode b_M_placeAdvert 2 = .ok (.iload_n 2, 1) := by decide +kernel
theorem d_M_placeAdvert_3 : decode b_M_placeAdvert 3 = .ok (.aload_n 0, 1) := by decide +kernel
theorem d_M_placeAdvert_4 : decode b_M_placeAdvert 4 = .ok (.getfield 100, 3) := by decide +kernel
theorem d_M_placeAdvert_7 : decode b_M_placeAdvert 7 = .ok (.if_icmp .ge 55, 3) := by decide +kernel
theorem d_M_placeAdvert_10 : decode b_M_placeAdvert 10 = .ok (.aload_n 0, 1) := by decide +kernel
theorem d_M_placeAdvert_11 : decode b_M_placeAdvert 11 = .ok (.getfield 48, 3) := by decide +kernel
theorem d_M_placeAdvert_14 : decode b_M_placeAdvert 14 = .ok (.iconst 4, 1) := by decide +kernel
theorem d_M_placeAdvert_15 : decode b_M_placeAdvert 15 = .ok (.iload_n 2, 1) := by decide +kernel
theorem d_M_placeAdvert_16 : decode b_M_placeAdvert 16 = .ok (.imul, 1) := by decide +kernel
theorem d_M_placeAdvert_17 : decode b_M_placeAdvert 17 = .ok (.iaload, 1) := by decide +kernel
theorem d_M_placeAdvert_18 : decode b_M_placeAdvert 18 = .ok (.ifCond .ne 38, 3) := by decide +kernel
theorem d_M_placeAdvert_21 : decode b_M_placeAdvert 21 = .ok (.iconst 0, 1) := by decide +kernel
theorem d_M_placeAdvert_22 : decode b_M_placeAdvert 22 = .ok (.istore_n 3, 1) := by decide +kernel
theorem d_M_placeAdvert_23 : decode b_M_placeAdvert 23 = .ok (.iload_n 3, 1) := by decide +kernel
theorem d_M_placeAdvert_24 : decode b_M_placeAdvert 24 = .ok (.aload_n 0, 1) := by decide +kernel
theorem d_M_placeAdvert_25 : decode b_M_placeAdvert 25 = .ok (.getfield 103, 3) := by decide +kernel
theorem d_M_placeAdvert_28 : decode b_M_placeAdvert 28 = .ok (.if_icmp .ge 26, 3) := by decide +kernel
theorem d_M_placeAdvert_31 : decode b_M_placeAdvert 31 = .ok (.aload_n 0, 1) := by decide +kernel
theorem d_M_placeAdvert_32 : decode b_M_placeAdvert 32 = .ok (.getfield 48, 3) := by decide +kernel
theorem d_M_placeAdvert_35 : decode b_M_placeAdvert 35 = .ok (.iconst 4, 1) := by decide +kernel
theorem d_M_placeAdvert_36 : decode b_M_placeAdvert 36 = .ok (.iload_n 2, 1) := by decide +kernel
theorem d_M_placeAdvert_37 : decode b_M_placeAdvert 37 = .ok (.imul, 1) := by decide +kernel
theorem d_M_placeAdvert_38 : decode b_M_placeAdvert 38 = .ok (.iload_n 3, 1) := by decide +kernel
theorem d_M_placeAdvert_39 : decode b_M_placeAdvert 39 = .ok (.iadd, 1) := by decide +kernel
theorem d_M_placeAdvert_40 : decode b_M_placeAdvert 40 = .ok (.bipush 100, 2) := by decide +kernel
theorem d_M_placeAdvert_42 : decode b_M_placeAdvert 42 = .ok (.bipush 10, 2) := by decide +kernel
theorem d_M_placeAdvert_44 : decode b_M_placeAdvert 44 = .ok (.iload_n 1, 1) := by decide +kernel
theorem d_M_placeAdvert_45 : decode b_M_placeAdvert 45 = .ok (.imul, 1) := by decide +kernel
theorem d_M_placeAdvert_46 : decode b_M_placeAdvert 46 = .ok (.iadd, 1) := by decide +kernel
theorem d_M_placeAdvert_47 : decode b_M_placeAdvert 47 = .ok (.iastore, 1) := by decide +kernel
theorem d_M_placeAdvert_48 : decode b_M_placeAdvert 48 = .ok (.iinc 3 1, 3) := by decide +kernel
theorem d_M_placeAdvert_51 : decode b_M_placeAdvert 51 = .ok (.goto (-28), 3) := by decide +kernel
theorem d_M_placeAdvert_54 : decode b_M_placeAdvert 54 = .ok (.iconst 1, 1) := by decide +kernel
theorem d_M_placeAdvert_55 : decode b_M_placeAdvert 55 = .ok (.ireturn, 1) := by decide +kernel
theorem d_M_placeAdvert_56 : decode b_M_placeAdvert 56 = .ok (.iinc 2 1, 3) := by decide +kernel
theorem d_M_placeAdvert_59 : decode b_M_placeAdvert 59 = .ok (.goto (-57), 3) := by decide +kernel
theorem d_M_placeAdvert_62 : decode b_M_placeAdvert 62 = .ok (.iconst 0, 1) := by decide +kernel
theorem d_M_placeAdvert_63 : decode b_M_placeAdvert 63 = .ok (.ireturn, 1) := by decide +kernel
theorem d_M_place_0 : decode b_M_place 0 = .ok (.iconst 0, 1) := by decide +kernel
theorem d_M_place_1 : decode b_M_place 1 = .ok (.istore_n 2, 1) := by decide +kernel
theorem d_M_place_2 : decode b_M_place 2 = .ok (.iload_n 2, 1) := by decide +kernel
theorem d_M_place_3 : decode b_M_place 3 = .ok (.aload_n 0, 1) := by decide +kernel
theorem d_M_place_4 : decode b_M_place 4 = .ok (.getfield 100, 3) := by decide +kernel
theorem d_M_place_7 : decode b_M_place 7 = .ok (.if_icmp .ge 188, 3) := by decide +kernel
theorem d_M_place_10 : decode b_M_place 10 = .ok (.iconst (-1), 1) := by decide +kernel
theorem d_M_place_11 : decode b_M_place 11 = .ok (.istore_n 3, 1) := by decide +kernel
theorem d_M_place_12 : decode b_M_place 12 = .ok (.aload_n 0, 1) := by decide +kernel
theorem d_M_place_13 : decode b_M_place 13 = .ok (.getfield 48, 3) := by decide +kernel
theorem d_M_place_16 : decode b_M_place 16 = .ok (.iconst 4, 1) := by decide +kernel
theorem d_M_place_17 : decode b_M_place 17 = .ok (.iload_n 2, 1) := by decide +kernel
theorem d_M_place_18 : decode b_M_place 18 = .ok (.imul, 1) := by decide +kernel
theorem d_M_place_19 : decode b_M_place 19 = .ok (.iaload, 1) := by decide +kernel
theorem d_M_place_20 : decode b_M_place 20 = .ok (.bipush 100, 2) := by decide +kernel
theorem d_M_place_22 : decode b_M_place 22 = .ok (.if_icmp .lt 17, 3) := by decide +kernel
theorem d_M_place_25 : decode b_M_place 25 = .ok (.aload_n 0, 1) := by decide +kernel
theorem d_M_place_26 : decode b_M_place 26 = .ok (.getfield 48, 3) := by decide +kernel
theorem d_M_place_29 : decode b_M_place 29 = .ok (.iconst 4, 1) := by decide +kernel
theorem d_M_place_30 : decode b_M_place 30 = .ok (.iload_n 2, 1) := by decide +kernel
theorem d_M_place_31 : decode b_M_place 31 = .ok (.imul, 1) := by decide +kernel
theorem d_M_place_32 : decode b_M_place 32 = .ok (.iaload, 1) := by decide +kernel
theorem d_M_place_33 : decode b_M_place 33 = .ok (.sipush 200, 3) := by decide +kernel
theorem d_M_place_36 : decode b_M_place 36 = .ok (.if_icmp .lt 7, 3) := by decide +kernel
theorem d_M_place_39 : decode b_M_place 39 = .ok (.iconst 1, 1) := by decide +kernel
theorem d_M_place_40 : decode b_M_place 40 = .ok (.goto 4, 3) := by decide +kernel
theorem d_M_place_43 : decode b_M_place 43 = .ok (.iconst 0, 1) := by decide +kernel
theorem d_M_place_44 : decode b_M_place 44 = .ok (.istore 4, 2) := by decide +kernel
theorem d_M_place_46 : decode b_M_place 46 = .ok (.aload_n 0, 1) := by decide +kernel
theorem d_M_place_47 : decode b_M_place 47 = .ok (.getfield 103, 3) := by decide +kernel
theorem d_M_place_50 : decode b_M_place 50 = .ok (.iconst 1, 1) := by decide +kernel
theorem d_M_place_51 : decode b_M_place 51 = .ok (.isub, 1) := by decide +kernel
theorem d_M_place_52 : decode b_M_place 52 = .ok (.istore 5, 2) := by decide +kernel
theorem d_M_place_54 : decode b_M_place 54 = .ok (.iload 5, 2) := by decide +kernel
theorem d_M_place_56 : decode b_M_place 56 = .ok (.ifCond .lt 111, 3) := by decide +kernel
theorem d_M_place_59 : decode b_M_place 59 = .ok (.aload_n 0, 1) := by decide +kernel
theorem d_M_place_60 : decode b_M_place 60 = .ok (.getfield 48, 3) := by decide +kernel
theorem d_M_place_63 : decode b_M_place 63 = .ok (.iconst 4, 1) := by decide +kernel
theorem d_M_place_64 : decode b_M_place 64 = .ok (.iload_n 2, 1) := by decide +kernel
theorem d_M_place_65 : decode b_M_place 65 = .ok (.imul, 1) := by decide +kernel
theorem d_M_place_66 : decode b_M_place 66 = .ok (.iload 5, 2) := by decide +kernel
theorem d_M_place_68 : decode b_M_place 68 = .ok (.iadd, 1) := by decide +kernel
theorem d_M_place_69 : decode b_M_place 69 = .ok (.iaload, 1) := by decide +kernel
theorem d_M_place_70 : decode b_M_place 70 = .ok (.istore 6, 2) := by decide +kernel
theorem d_M_place_72 : decode b_M_place 72 = .ok (.iload 6, 2) := by decide +kernel
theorem d_M_place_74 : decode b_M_place 74 = .ok (.ifCond .ne 8, 3) := by decide +kernel
theorem d_M_place_77 : decode b_M_place 77 = .ok (.iload 5, 2) := by decide +kernel
theorem d_M_place_79 : decode b_M_place 79 = .ok (.goto 4, 3) := by decide +kernel
theorem d_M_place_82 : decode b_M_place 82 = .ok (.iload_n 3, 1) := by decide +kernel
theorem d_M_place_83 : decode b_M_place 83 = .ok (.istore_n 3, 1) := by decide +kernel
theorem d_M_place_84 : decode b_M_place 84 = .ok (.iload 6, 2) := by decide +kernel
theorem d_M_place_86 : decode b_M_place 86 = .ok (.invokestatic 112, 3) := by decide +kernel
theorem d_M_place_89 : decode b_M_place 89 = .ok (.iload_n 1, 1) := by decide +kernel
theorem d_M_place_90 : decode b_M_place 90 = .ok (.invokestatic 112, 3) := by decide +kernel
theorem d_M_place_93 : decode b_M_place 93 = .ok (.if_icmp .eq 39, 3) := by decide +kernel
theorem d_M_place_96 : decode b_M_place 96 = .ok (.iload 6, 2) := by decide +kernel
theorem d_M_place_98 : decode b_M_place 98 = .ok (.invokestatic 112, 3) := by decide +kernel
theorem d_M_place_101 : decode b_M_place 101 = .ok (.iload_n 1, 1) := by decide +kernel
theorem d_M_place_102 : decode b_M_place 102 = .ok (.invokestatic 116, 3) := by decide +kernel
theorem d_M_place_105 : decode b_M_place 105 = .ok (.if_icmp .eq 27, 3) := by decide +kernel
theorem d_M_place_108 : decode b_M_place 108 = .ok (.iload 6, 2) := by decide +kernel
theorem d_M_place_110 : decode b_M_place 110 = .ok (.invokestatic 116, 3) := by decide +kernel
theorem d_M_place_113 : decode b_M_place 113 = .ok (.iload_n 1, 1) := by decide +kernel
theorem d_M_place_114 : decode b_M_place 114 = .ok (.invokestatic 112, 3) := by decide +kernel
theorem d_M_place_117 : decode b_M_place 117 = .ok (.if_icmp .eq 15, 3) := by decide +kernel
theorem d_M_place_120 : decode b_M_place 120 = .ok (.iload 6, 2) := by decide +kernel
theorem d_M_place_122 : decode b_M_place 122 = .ok (.invokestatic 116, 3) := by decide +kernel
theorem d_M_place_125 : decode b_M_place 125 = .ok (.iload_n 1, 1) := by decide +kernel
theorem d_M_place_126 : decode b_M_place 126 = .ok (.invokestatic 116, 3) := by decide +kernel
theorem d_M_place_129 : decode b_M_place 129 = .ok (.if_icmp .ne 7, 3) := by decide +kernel
theorem d_M_place_132 : decode b_M_place 132 = .ok (.iconst 1, 1) := by decide +kernel
theorem d_M_place_133 : decode b_M_place 133 = .ok (.goto 4, 3) := by decide +kernel
theorem d_M_place_136 : decode b_M_place 136 = .ok (.iconst 0, 1) := by decide +kernel
theorem d_M_place_137 : decode b_M_place 137 = .ok (.istore 7, 2) := by decide +kernel
theorem d_M_place_139 : decode b_M_place 139 = .ok (.iload 4, 2) := by decide +kernel
theorem d_M_place_141 : decode b_M_place 141 = .ok (.ifCond .eq 17, 3) := by decide +kernel
theorem d_M_place_144 : decode b_M_place 144 = .ok (.iload 6, 2) := by decide +kernel
theorem d_M_place_146 : decode b_M_place 146 = .ok (.ifCond .eq 8, 3) := by decide +kernel
theorem d_M_place_149 : decode b_M_place 149 = .ok (.iload 7, 2) := by decide +kernel
theorem d_M_place_151 : decode b_M_place 151 = .ok (.ifCond .ne 7, 3) := by decide +kernel
theorem d_M_place_154 : decode b_M_place 154 = .ok (.iconst 1, 1) := by decide +kernel
theorem d_M_place_155 : decode b_M_place 155 = .ok (.goto 4, 3) := by decide +kernel
theorem d_M_place_158 : decode b_M_place 158 = .ok (.iconst 0, 1) := by decide +kernel
theorem d_M_place_159 : decode b_M_place 159 = .ok (.istore 4, 2) := by decide +kernel
theorem d_M_place_161 : decode b_M_place 161 = .ok (.iinc 5 (-1), 3) := by decide +kernel
theorem d_M_place_164 : decode b_M_place 164 = .ok (.goto (-110), 3) := by decide +kernel
theorem d_M_place_167 : decode b_M_place 167 = .ok (.iload 4, 2) := by decide +kernel
theorem d_M_place_169 : decode b_M_place 169 = .ok (.ifCond .eq 20, 3) := by decide +kernel
theorem d_M_place_172 : decode b_M_place 172 = .ok (.iload_n 3, 1) := by decide +kernel
theorem d_M_place_173 : decode b_M_place 173 = .ok (.ifCond .lt 16, 3) := by decide +kernel
theorem d_M_place_176 : decode b_M_place 176 = .ok (.aload_n 0, 1) := by decide +kernel
theorem d_M_place_177 : decode b_M_place 177 = .ok (.getfield 48, 3) := by decide +kernel
theorem d_M_place_180 : decode b_M_place 180 = .ok (.iconst 4, 1) := by decide +kernel
theorem d_M_place_181 : decode b_M_place 181 = .ok (.iload_n 2, 1) := by decide +kernel
theorem d_M_place_182 : decode b_M_place 182 = .ok (.imul, 1) := by decide +kernel
theorem d_M_place_183 : decode b_M_place 183 = .ok (.iload_n 3, 1) := by decide +kernel
theorem d_M_place_184 : decode b_M_place 184 = .ok (.iadd, 1) := by decide +kernel
theorem d_M_place_185 : decode b_M_place 185 = .ok (.iload_n 1, 1) := by decide +kernel
theorem d_M_place_186 : decode b_M_place 186 = .ok (.iastore, 1) := by decide +kernel
theorem d_M_place_187 : decode b_M_place 187 = .ok (.iconst 1, 1) := by decide +kernel
theorem d_M_place_188 : decode b_M_place 188 = .ok (.ireturn, 1) := by decide +kernel
theorem d_M_place_189 : decode b_M_place 189 = .ok (.iinc 2 1, 3) := by decide +kernel
theorem d_M_place_192 : decode b_M_place 192 = .ok (.goto (-190), 3) := by decide +kernel
theorem d_M_place_195 : decode b_M_place 195 = .ok (.iconst 0, 1) := by decide +kernel
theorem d_M_place_196 : decode b_M_place 196 = .ok (.ireturn, 1) := by decide +kernel
theorem d_M_placeAll_0 : decode b_M_placeAll 0 = .ok (.iconst 1, 1) := by decide +kernel
theorem d_M_placeAll_1 : decode b_M_placeAll 1 = .ok (.istore_n 1, 1) := by decide +kernel
theorem d_M_placeAll_2 : decode b_M_placeAll 2 = .ok (.iconst 0, 1) := by decide +kernel
theorem d_M_placeAll_3 : decode b_M_placeAll 3 = .ok (.istore_n 2, 1) := by decide +kernel
theorem d_M_placeAll_4 : decode b_M_placeAll 4 = .ok (.iload_n 2, 1) := by decide +kernel
theorem d_M_placeAll_5 : decode b_M_placeAll 5 = .ok (.bipush 96, 2) := by decide +kernel
theorem d_M_placeAll_7 : decode b_M_placeAll 7 = .ok (.if_icmp .ge 16, 3) := by decide +kernel
theorem d_M_placeAll_10 : decode b_M_placeAll 10 = .ok (.aload_n 0, 1) := by decide +kernel
theorem d_M_placeAll_11 : decode b_M_placeAll 11 = .ok (.getfield 48, 3) := by decide +kernel
theorem d_M_placeAll_14 : decode b_M_placeAll 14 = .ok (.iload_n 2, 1) := by decide +kernel
theorem d_M_placeAll_15 : decode b_M_placeAll 15 = .ok (.iconst 0, 1) := by decide +kernel
theorem d_M_placeAll_16 : decode b_M_placeAll 16 = .ok (.iastore, 1) := by decide +kernel
theorem d_M_placeAll_17 : decode b_M_placeAll 17 = .ok (.iinc 2 1, 3) := by decide +kernel
theorem d_M_placeAll_20 : decode b_M_placeAll 20 = .ok (.goto (-16), 3) := by decide +kernel
theorem d_M_placeAll_23 : decode b_M_placeAll 23 = .ok (.iconst 0, 1) := by decide +kernel
theorem d_M_placeAll_24 : decode b_M_placeAll 24 = .ok (.istore_n 2, 1) := by decide +kernel
theorem d_M_placeAll_25 : decode b_M_placeAll 25 = .ok (.iload_n 2, 1) := by decide +kernel
theorem d_M_placeAll_26 : decode b_M_placeAll 26 = .ok (.bipush 6, 2) := by decide +kernel
theorem d_M_placeAll_28 : decode b_M_placeAll 28 = .ok (.if_icmp .ge 45, 3) := by decide +kernel
theorem d_M_placeAll_31 : decode b_M_placeAll 31 = .ok (.iconst 0, 1) := by decide +kernel
theorem d_M_placeAll_32 : decode b_M_placeAll 32 = .ok (.istore_n 3, 1) := by decide +kernel
theorem d_M_placeAll_33 : decode b_M_placeAll 33 = .ok (.iload_n 3, 1) := by decide +kernel
theorem d_M_placeAll_34 : decode b_M_placeAll 34 = .ok (.aload_n 0, 1) := by decide +kernel
theorem d_M_placeAll_35 : decode b_M_placeAll 35 = .ok (.getfield 96, 3) := by decide +kernel
theorem d_M_placeAll_38 : decode b_M_placeAll 38 = .ok (.if_icmp .ge 29, 3) := by decide +kernel
theorem d_M_placeAll_41 : decode b_M_placeAll 41 = .ok (.iload_n 1, 1) := by decide +kernel
theorem d_M_placeAll_42 : decode b_M_placeAll 42 = .ok (.ifCond .eq 25, 3) := by decide +kernel
theorem d_M_placeAll_45 : decode b_M_placeAll 45 = .ok (.aload_n 0, 1) := by decide +kernel
theorem d_M_placeAll_46 : decode b_M_placeAll 46 = .ok (.getfield 42, 3) := by decide +kernel
theorem d_M_placeAll_49 : decode b_M_placeAll 49 = .ok (.iload_n 3, 1) := by decide +kernel
theorem d_M_placeAll_50 : decode b_M_placeAll 50 = .ok (.iaload, 1) := by decide +kernel
theorem d_M_placeAll_51 : decode b_M_placeAll 51 = .ok (.iload_n 2, 1) := by decide +kernel
theorem d_M_placeAll_52 : decode b_M_placeAll 52 = .ok (.if_icmp .ne 9, 3) := by decide +kernel
theorem d_M_placeAll_55 : decode b_M_placeAll 55 = .ok (.aload_n 0, 1) := by decide +kernel
theorem d_M_placeAll_56 : decode b_M_placeAll 56 = .ok (.iload_n 3, 1) := by decide +kernel
theorem d_M_placeAll_57 : decode b_M_placeAll 57 = .ok (.invokevirtual 119, 3) := by decide +kernel
theorem d_M_placeAll_60 : decode b_M_placeAll 60 = .ok (.istore_n 1, 1) := by decide +kernel
theorem d_M_placeAll_61 : decode b_M_placeAll 61 = .ok (.iinc 3 1, 3) := by decide +kernel
theorem d_M_placeAll_64 : decode b_M_placeAll 64 = .ok (.goto (-31), 3) := by decide +kernel
theorem d_M_placeAll_67 : decode b_M_placeAll 67 = .ok (.iinc 2 1, 3) := by decide +kernel
theorem d_M_placeAll_70 : decode b_M_placeAll 70 = .ok (.goto (-45), 3) := by decide +kernel
theorem d_M_placeAll_73 : decode b_M_placeAll 73 = .ok (.iconst 1, 1) := by decide +kernel
theorem d_M_placeAll_74 : decode b_M_placeAll 74 = .ok (.istore_n 2, 1) := by decide +kernel
theorem d_M_placeAll_75 : decode b_M_placeAll 75 = .ok (.iload_n 2, 1) := by decide +kernel
theorem d_M_placeAll_76 : decode b_M_placeAll 76 = .ok (.bipush 6, 2) := by decide +kernel
theorem d_M_placeAll_78 : decode b_M_placeAll 78 = .ok (.if_icmp .ge 125, 3) := by decide +kernel
theorem d_M_placeAll_81 : decode b_M_placeAll 81 = .ok (.iconst 0, 1) := by decide +kernel
theorem d_M_placeAll_82 : decode b_M_placeAll 82 = .ok (.istore_n 3, 1) := by decide +kernel
theorem d_M_placeAll_83 : decode b_M_placeAll 83 = .ok (.iload_n 3, 1) := by decide +kernel
theorem d_M_placeAll_84 : decode b_M_placeAll 84 = .ok (.aload_n 0, 1) := by decide +kernel
theorem d_M_placeAll_85 : decode b_M_placeAll 85 = .ok (.getfield 96, 3) := by decide +kernel
theorem d_M_placeAll_88 : decode b_M_placeAll 88 = .ok (.if_icmp .ge 109, 3) := by decide +kernel
theorem d_M_placeAll_91 : decode b_M_placeAll 91 = .ok (.iload_n 1, 1) := by decide +kernel
theorem d_M_placeAll_92 : decode b_M_placeAll 92 = .ok (.ifCond .eq 105, 3) := by decide +kernel
theorem d_M_placeAll_95 : decode b_M_placeAll 95 = .ok (.aload_n 0, 1) := by decide +kernel
theorem d_M_placeAll_96 : decode b_M_placeAll 96 = .ok (.getfield 45, 3) := by decide +kernel
theorem d_M_placeAll_99 : decode b_M_placeAll 99 = .ok (.iconst 2, 1) := by decide +kernel
theorem d_M_placeAll_100 : decode b_M_placeAll 100 = .ok (.iload_n 3, 1) := by decide +kernel
theorem d_M_placeAll_101 : decode b_M_placeAll 101 = .ok (.imul, 1) := by decide +kernel
theorem d_M_placeAll_102 : decode b_M_placeAll 102 = .ok (.iaload, 1) := by decide +kernel
theorem d_M_placeAll_103 : decode b_M_placeAll 103 = .ok (.istore 4, 2) := by decide +kernel
theorem d_M_placeAll_105 : decode b_M_placeAll 105 = .ok (.aload_n 0, 1) := by decide +kernel
theorem d_M_placeAll_106 : decode b_M_placeAll 106 = .ok (.getfield 45, 3) := by decide +kernel
theorem d_M_placeAll_109 : decode b_M_placeAll 109 = .ok (.iconst 2, 1) := by decide +kernel
theorem d_M_placeAll_110 : decode b_M_placeAll 110 = .ok (.iload_n 3, 1) := by decide +kernel
theorem d_M_placeAll_111 : decode b_M_placeAll 111 = .ok (.imul, 1) := by decide +kernel
theorem d_M_placeAll_112 : decode b_M_placeAll 112 = .ok (.iconst 1, 1) := by decide +kernel
theorem d_M_placeAll_113 : decode b_M_placeAll 113 = .ok (.iadd, 1) := by decide +kernel
theorem d_M_placeAll_114 : decode b_M_placeAll 114 = .ok (.iaload, 1) := by decide +kernel
theorem d_M_placeAll_115 : decode b_M_placeAll 115 = .ok (.istore 5, 2) := by decide +kernel
theorem d_M_placeAll_117 : decode b_M_placeAll 117 = .ok (.aload_n 0, 1) := by decide +kernel
theorem d_M_placeAll_118 : decode b_M_placeAll 118 = .ok (.getfield 42, 3) := by decide +kernel
theorem d_M_placeAll_121 : decode b_M_placeAll 121 = .ok (.iload_n 3, 1) := by decide +kernel
theorem d_M_placeAll_122 : decode b_M_placeAll 122 = .ok (.iaload, 1) := by decide +kernel
theorem d_M_placeAll_123 : decode b_M_placeAll 123 = .ok (.iload_n 2, 1) := by decide +kernel
theorem d_M_placeAll_124 : decode b_M_placeAll 124 = .ok (.if_icmp .eq 6, 3) := by decide +kernel
theorem d_M_placeAll_127 : decode b_M_placeAll 127 = .ok (.goto 64, 3) := by decide +kernel
theorem d_M_placeAll_130 : decode b_M_placeAll 130 = .ok (.aload_n 0, 1) := by decide +kernel
theorem d_M_placeAll_131 : decode b_M_placeAll 131 = .ok (.sipush 200, 3) := by decide +kernel
theorem d_M_placeAll_134 : decode b_M_placeAll 134 = .ok (.bipush 10, 2) := by decide +kernel
theorem d_M_placeAll_136 : decode b_M_placeAll 136 = .ok (.iload_n 3, 1) := by decide +kernel
theorem d_M_placeAll_137 : decode b_M_placeAll 137 = .ok (.imul, 1) := by decide +kernel
theorem d_M_placeAll_138 : decode b_M_placeAll 138 = .ok (.iadd, 1) := by decide +kernel
theorem d_M_placeAll_139 : decode b_M_placeAll 139 = .ok (.iload 4, 2) := by decide +kernel
theorem d_M_placeAll_141 : decode b_M_placeAll 141 = .ok (.iadd, 1) := by decide +kernel
theorem d_M_placeAll_142 : decode b_M_placeAll 142 = .ok (.invokevirtual 122, 3) := by decide +kernel
theorem d_M_placeAll_145 : decode b_M_placeAll 145 = .ok (.istore_n 1, 1) := by decide +kernel
theorem d_M_placeAll_146 : decode b_M_placeAll 146 = .ok (.iload_n 1, 1) := by decide +kernel
theorem d_M_placeAll_147 : decode b_M_placeAll 147 = .ok (.ifCond .eq 24, 3) := by decide +kernel
theorem d_M_placeAll_150 : decode b_M_placeAll 150 = .ok (.iload 5, 2) := by decide +kernel
theorem d_M_placeAll_152 : decode b_M_placeAll 152 = .ok (.ifCond .lt 19, 3) := by decide +kernel
theorem d_M_placeAll_155 : decode b_M_placeAll 155 = .ok (.aload_n 0, 1) := by decide +kernel
theorem d_M_placeAll_156 : decode b_M_placeAll 156 = .ok (.sipush 200, 3) := by decide +kernel
theorem d_M_placeAll_159 : decode b_M_placeAll 159 = .ok (.bipush 10, 2) := by decide +kernel
theorem d_M_placeAll_161 : decode b_M_placeAll 161 = .ok (.iload_n 3, 1) := by decide +kernel
theorem d_M_placeAll_162 : decode b_M_placeAll 162 = .ok (.imul, 1) := by decide +kernel
theorem d_M_placeAll_163 : decode b_M_placeAll 163 = .ok (.iadd, 1) := by decide +kernel
theorem d_M_placeAll_164 : decode b_M_placeAll 164 = .ok (.iload 5, 2) := by decide +kernel
theorem d_M_placeAll_166 : decode b_M_placeAll 166 = .ok (.iadd, 1) := by decide +kernel
theorem d_M_placeAll_167 : decode b_M_placeAll 167 = .ok (.invokevirtual 122, 3) := by decide +kernel
theorem d_M_placeAll_170 : decode b_M_placeAll 170 = .ok (.istore_n 1, 1) := by decide +kernel
theorem d_M_placeAll_171 : decode b_M_placeAll 171 = .ok (.iload_n 1, 1) := by decide +kernel
theorem d_M_placeAll_172 : decode b_M_placeAll 172 = .ok (.ifCond .eq 19, 3) := by decide +kernel
theorem d_M_placeAll_175 : decode b_M_placeAll 175 = .ok (.aload_n 0, 1) := by decide +kernel
theorem d_M_placeAll_176 : decode b_M_placeAll 176 = .ok (.sipush 300, 3) := by decide +kernel
theorem d_M_placeAll_179 : decode b_M_placeAll 179 = .ok (.bipush 10, 2) := by decide +kernel
theorem d_M_placeAll_181 : decode b_M_placeAll 181 = .ok (.iload 4, 2) := by decide +kernel
theorem d_M_placeAll_183 : decode b_M_placeAll 183 = .ok (.imul, 1) := by decide +kernel
theorem d_M_placeAll_184 : decode b_M_placeAll 184 = .ok (.iadd, 1) := by decide +kernel
theorem d_M_placeAll_185 : decode b_M_placeAll 185 = .ok (.iload_n 3, 1) := by decide +kernel
theorem d_M_placeAll_186 : decode b_M_placeAll 186 = .ok (.iadd, 1) := by decide +kernel
theorem d_M_placeAll_187 : decode b_M_placeAll 187 = .ok (.invokevirtual 122, 3) := by decide +kernel
theorem d_M_placeAll_190 : decode b_M_placeAll 190 = .ok (.istore_n 1, 1) := by decide +kernel
theorem d_M_placeAll_191 : decode b_M_placeAll 191 = .ok (.iinc 3 1, 3) := by decide +kernel
theorem d_M_placeAll_194 : decode b_M_placeAll 194 = .ok (.goto (-111), 3) := by decide +kernel
theorem d_M_placeAll_197 : decode b_M_placeAll 197 = .ok (.iinc 2 1, 3) := by decide +kernel
theorem d_M_placeAll_200 : decode b_M_placeAll 200 = .ok (.goto (-125), 3) := by decide +kernel
theorem d_M_placeAll_203 : decode b_M_placeAll 203 = .ok (.iload_n 1, 1) := by decide +kernel
theorem d_M_placeAll_204 : decode b_M_placeAll 204 = .ok (.ireturn, 1) := by decide +kernel
theorem d_M_plan_0 : decode b_M_plan 0 = .ok (.aload_n 0, 1) := by decide +kernel
theorem d_M_plan_1 : decode b_M_plan 1 = .ok (.invokevirtual 125, 3) := by decide +kernel
theorem d_M_plan_4 : decode b_M_plan 4 = .ok (.ifCond .ne 5, 3) := by decide +kernel
theorem d_M_plan_7 : decode b_M_plan 7 = .ok (.iconst (-1), 1) := by decide +kernel
theorem d_M_plan_8 : decode b_M_plan 8 = .ok (.ireturn, 1) := by decide +kernel
theorem d_M_plan_9 : decode b_M_plan 9 = .ok (.aload_n 0, 1) := by decide +kernel
theorem d_M_plan_10 : decode b_M_plan 10 = .ok (.invokevirtual 129, 3) := by decide +kernel
theorem d_M_plan_13 : decode b_M_plan 13 = .ok (.aload_n 0, 1) := by decide +kernel
theorem d_M_plan_14 : decode b_M_plan 14 = .ok (.invokevirtual 132, 3) := by decide +kernel
theorem d_M_plan_17 : decode b_M_plan 17 = .ok (.ifCond .ne 5, 3) := by decide +kernel
theorem d_M_plan_20 : decode b_M_plan 20 = .ok (.iconst (-1), 1) := by decide +kernel
theorem d_M_plan_21 : decode b_M_plan 21 = .ok (.ireturn, 1) := by decide +kernel
theorem d_M_plan_22 : decode b_M_plan 22 = .ok (.aload_n 0, 1) := by decide +kernel
theorem d_M_plan_23 : decode b_M_plan 23 = .ok (.getfield 96, 3) := by decide +kernel
theorem d_M_plan_26 : decode b_M_plan 26 = .ok (.istore_n 1, 1) := by decide +kernel
theorem d_M_plan_27 : decode b_M_plan 27 = .ok (.aload_n 0, 1) := by decide +kernel
theorem d_M_plan_28 : decode b_M_plan 28 = .ok (.iconst 1, 1) := by decide +kernel
theorem d_M_plan_29 : decode b_M_plan 29 = .ok (.putfield 135, 3) := by decide +kernel
theorem d_M_plan_32 : decode b_M_plan 32 = .ok (.iconst 0, 1) := by decide +kernel
theorem d_M_plan_33 : decode b_M_plan 33 = .ok (.istore_n 2, 1) := by decide +kernel
theorem d_M_plan_34 : decode b_M_plan 34 = .ok (.iload_n 2, 1) := by decide +kernel
theorem d_M_plan_35 : decode b_M_plan 35 = .ok (.bipush 96, 2) := by decide +kernel
theorem d_M_plan_37 : decode b_M_plan 37 = .ok (.if_icmp .ge 41, 3) := by decide +kernel
theorem d_M_plan_40 : decode b_M_plan 40 = .ok (.aload_n 0, 1) := by decide +kernel
theorem d_M_plan_41 : decode b_M_plan 41 = .ok (.getfield 39, 3) := by decide +kernel
theorem d_M_plan_44 : decode b_M_plan 44 = .ok (.iload_n 2, 1) := by decide +kernel
theorem d_M_plan_45 : decode b_M_plan 45 = .ok (.aload_n 0, 1) := by decide +kernel
theorem d_M_plan_46 : decode b_M_plan 46 = .ok (.getfield 48, 3) := by decide +kernel
theorem d_M_plan_49 : decode b_M_plan 49 = .ok (.iload_n 2, 1) := by decide +kernel
theorem d_M_plan_50 : decode b_M_plan 50 = .ok (.iaload, 1) := by decide +kernel
theorem d_M_plan_51 : decode b_M_plan 51 = .ok (.iastore, 1) := by decide +kernel
theorem d_M_plan_52 : decode b_M_plan 52 = .ok (.iload_n 1, 1) := by decide +kernel
theorem d_M_plan_53 : decode b_M_plan 53 = .ok (.aload_n 0, 1) := by decide +kernel
theorem d_M_plan_54 : decode b_M_plan 54 = .ok (.getfield 39, 3) := by decide +kernel
theorem d_M_plan_57 : decode b_M_plan 57 = .ok (.iload_n 2, 1) := by decide +kernel
theorem d_M_plan_58 : decode b_M_plan 58 = .ok (.iaload, 1) := by decide +kernel
theorem d_M_plan_59 : decode b_M_plan 59 = .ok (.sipush 200, 3) := by decide +kernel
theorem d_M_plan_62 : decode b_M_plan 62 = .ok (.if_icmp .lt 7, 3) := by decide +kernel
theorem d_M_plan_65 : decode b_M_plan 65 = .ok (.iconst 1, 1) := by decide +kernel
theorem d_M_plan_66 : decode b_M_plan 66 = .ok (.goto 4, 3) := by decide +kernel
theorem d_M_plan_69 : decode b_M_plan 69 = .ok (.iconst 0, 1) := by decide +kernel
theorem d_M_plan_70 : decode b_M_plan 70 = .ok (.iadd, 1) := by decide +kernel
theorem d_M_plan_71 : decode b_M_plan 71 = .ok (.istore_n 1, 1) := by decide +kernel
theorem d_M_plan_72 : decode b_M_plan 72 = .ok (.iinc 2 1, 3) := by decide +kernel
theorem d_M_plan_75 : decode b_M_plan 75 = .ok (.goto (-41), 3) := by decide +kernel
theorem d_M_plan_78 : decode b_M_plan 78 = .ok (.iconst 0, 1) := by decide +kernel
theorem d_M_plan_79 : decode b_M_plan 79 = .ok (.istore_n 2, 1) := by decide +kernel
theorem d_M_plan_80 : decode b_M_plan 80 = .ok (.iload_n 2, 1) := by decide +kernel
theorem d_M_plan_81 : decode b_M_plan 81 = .ok (.bipush 12, 2) := by decide +kernel
theorem d_M_plan_83 : decode b_M_plan 83 = .ok (.if_icmp .ge 21, 3) := by decide +kernel
theorem d_M_plan_86 : decode b_M_plan 86 = .ok (.aload_n 0, 1) := by decide +kernel
theorem d_M_plan_87 : decode b_M_plan 87 = .ok (.getfield 36, 3) := by decide +kernel
theorem d_M_plan_90 : decode b_M_plan 90 = .ok (.iload_n 2, 1) := by decide +kernel
theorem d_M_plan_91 : decode b_M_plan 91 = .ok (.aload_n 0, 1) := by decide +kernel
theorem d_M_plan_92 : decode b_M_plan 92 = .ok (.getfield 45, 3) := by decide +kernel
theorem d_M_plan_95 : decode b_M_plan 95 = .ok (.iload_n 2, 1) := by decide +kernel
theorem d_M_plan_96 : decode b_M_plan 96 = .ok (.iaload, 1) := by decide +kernel
theorem d_M_plan_97 : decode b_M_plan 97 = .ok (.iastore, 1) := by decide +kernel
theorem d_M_plan_98 : decode b_M_plan 98 = .ok (.iinc 2 1, 3) := by decide +kernel
theorem d_M_plan_101 : decode b_M_plan 101 = .ok (.goto (-21), 3) := by decide +kernel
theorem d_M_plan_104 : decode b_M_plan 104 = .ok (.iconst 0, 1) := by decide +kernel
theorem d_M_plan_105 : decode b_M_plan 105 = .ok (.istore_n 2, 1) := by decide +kernel
theorem d_M_plan_106 : decode b_M_plan 106 = .ok (.iload_n 2, 1) := by decide +kernel
theorem d_M_plan_107 : decode b_M_plan 107 = .ok (.bipush 6, 2) := by decide +kernel
theorem d_M_plan_109 : decode b_M_plan 109 = .ok (.if_icmp .ge 60, 3) := by decide +kernel
theorem d_M_plan_112 : decode b_M_plan 112 = .ok (.aload_n 0, 1) := by decide +kernel
theorem d_M_plan_113 : decode b_M_plan 113 = .ok (.getfield 33, 3) := by decide +kernel
theorem d_M_plan_116 : decode b_M_plan 116 = .ok (.iload_n 2, 1) := by decide +kernel
theorem d_M_plan_117 : decode b_M_plan 117 = .ok (.aload_n 0, 1) := by decide +kernel
theorem d_M_plan_118 : decode b_M_plan 118 = .ok (.getfield 42, 3) := by decide +kernel
theorem d_M_plan_121 : decode b_M_plan 121 = .ok (.iload_n 2, 1) := by decide +kernel
theorem d_M_plan_122 : decode b_M_plan 122 = .ok (.iaload, 1) := by decide +kernel
theorem d_M_plan_123 : decode b_M_plan 123 = .ok (.iastore, 1) := by decide +kernel
theorem d_M_plan_124 : decode b_M_plan 124 = .ok (.aload_n 0, 1) := by decide +kernel
theorem d_M_plan_125 : decode b_M_plan 125 = .ok (.getfield 16, 3) := by decide +kernel
theorem d_M_plan_128 : decode b_M_plan 128 = .ok (.iload_n 2, 1) := by decide +kernel
theorem d_M_plan_129 : decode b_M_plan 129 = .ok (.iload_n 2, 1) := by decide +kernel
theorem d_M_plan_130 : decode b_M_plan 130 = .ok (.ifCond .ne 7, 3) := by decide +kernel
theorem d_M_plan_133 : decode b_M_plan 133 = .ok (.iconst 1, 1) := by decide +kernel
theorem d_M_plan_134 : decode b_M_plan 134 = .ok (.goto 4, 3) := by decide +kernel
theorem d_M_plan_137 : decode b_M_plan 137 = .ok (.iconst 0, 1) := by decide +kernel
theorem d_M_plan_138 : decode b_M_plan 138 = .ok (.bastore, 1) := by decide +kernel
theorem d_M_plan_139 : decode b_M_plan 139 = .ok (.aload_n 0, 1) := by decide +kernel
theorem d_M_plan_140 : decode b_M_plan 140 = .ok (.getfield 63, 3) := by decide +kernel
theorem d_M_plan_143 : decode b_M_plan 143 = .ok (.iload_n 2, 1) := by decide +kernel
theorem d_M_plan_144 : decode b_M_plan 144 = .ok (.iconst 0, 1) := by decide +kernel
theorem d_M_plan_145 : decode b_M_plan 145 = .ok (.iastore, 1) := by decide +kernel
theorem d_M_plan_146 : decode b_M_plan 146 = .ok (.aload_n 0, 1) := by decide +kernel
theorem d_M_plan_147 : decode b_M_plan 147 = .ok (.getfield 66, 3) := by decide +kernel
theorem d_M_plan_150 : decode b_M_plan 150 = .ok (.iload_n 2, 1) := by decide +kernel
theorem d_M_plan_151 : decode b_M_plan 151 = .ok (.iconst 0, 1) := by decide +kernel
theorem d_M_plan_152 : decode b_M_plan 152 = .ok (.iastore, 1) := by decide +kernel
theorem d_M_plan_153 : decode b_M_plan 153 = .ok (.aload_n 0, 1) := by decide +kernel
theorem d_M_plan_154 : decode b_M_plan 154 = .ok (.getfield 51, 3) := by decide +kernel
theorem d_M_plan_157 : decode b_M_plan 157 = .ok (.bipush 6, 2) := by decide +kernel
theorem d_M_plan_159 : decode b_M_plan 159 = .ok (.iload_n 2, 1) := by decide +kernel
theorem d_M_plan_160 : decode b_M_plan 160 = .ok (.iadd, 1) := by decide +kernel
theorem d_M_plan_161 : decode b_M_plan 161 = .ok (.iconst 0, 1) := by decide +kernel
theorem d_M_plan_162 : decode b_M_plan 162 = .ok (.iastore, 1) := by decide +kernel
theorem d_M_plan_163 : decode b_M_plan 163 = .ok (.iinc 2 1, 3) := by decide +kernel
theorem d_M_plan_166 : decode b_M_plan 166 = .ok (.goto (-60), 3) := by decide +kernel
theorem d_M_plan_169 : decode b_M_plan 169 = .ok (.iload_n 1, 1) := by decide +kernel
theorem d_M_plan_170 : decode b_M_plan 170 = .ok (.ireturn, 1) := by decide +kernel
theorem d_M_start_0 : decode b_M_start 0 = .ok (.aload_n 0, 1) := by decide +kernel
theorem d_M_start_1 : decode b_M_start 1 = .ok (.iload_n 1, 1) := by decide +kernel
theorem d_M_start_2 : decode b_M_start 2 = .ok (.invokevirtual 108, 3) := by decide +kernel
theorem d_M_start_5 : decode b_M_start 5 = .ok (.ifCond .ne 12, 3) := by decide +kernel
theorem d_M_start_8 : decode b_M_start 8 = .ok (.aload_n 0, 1) := by decide +kernel
theorem d_M_start_9 : decode b_M_start 9 = .ok (.getfield 13, 3) := by decide +kernel
theorem d_M_start_12 : decode b_M_start 12 = .ok (.iload_n 1, 1) := by decide +kernel
theorem d_M_start_13 : decode b_M_start 13 = .ok (.baload, 1) := by decide +kernel
theorem d_M_start_14 : decode b_M_start 14 = .ok (.ifCond .eq 5, 3) := by decide +kernel
theorem d_M_start_17 : decode b_M_start 17 = .ok (.iconst 0, 1) := by decide +kernel
theorem d_M_start_18 : decode b_M_start 18 = .ok (.ireturn, 1) := by decide +kernel
theorem d_M_start_19 : decode b_M_start 19 = .ok (.aload_n 0, 1) := by decide +kernel
theorem d_M_start_20 : decode b_M_start 20 = .ok (.getfield 13, 3) := by decide +kernel
theorem d_M_start_23 : decode b_M_start 23 = .ok (.iload_n 1, 1) := by decide +kernel
theorem d_M_start_24 : decode b_M_start 24 = .ok (.iconst 1, 1) := by decide +kernel
theorem d_M_start_25 : decode b_M_start 25 = .ok (.bastore, 1) := by decide +kernel
theorem d_M_start_26 : decode b_M_start 26 = .ok (.iconst 1, 1) := by decide +kernel
theorem d_M_start_27 : decode b_M_start 27 = .ok (.ireturn, 1) := by decide +kernel
theorem d_M_stop_0 : decode b_M_stop 0 = .ok (.aload_n 0, 1) := by decide +kernel
theorem d_M_stop_1 : decode b_M_stop 1 = .ok (.iload_n 1, 1) := by decide +kernel
theorem d_M_stop_2 : decode b_M_stop 2 = .ok (.invokevirtual 108, 3) := by decide +kernel
theorem d_M_stop_5 : decode b_M_stop 5 = .ok (.ifCond .ne 16, 3) := by decide +kernel
theorem d_M_stop_8 : decode b_M_stop 8 = .ok (.iload_n 1, 1) := by decide +kernel
theorem d_M_stop_9 : decode b_M_stop 9 = .ok (.ifCond .eq 12, 3) := by decide +kernel
theorem d_M_stop_12 : decode b_M_stop 12 = .ok (.aload_n 0, 1) := by decide +kernel
theorem d_M_stop_13 : decode b_M_stop 13 = .ok (.getfield 13, 3) := by decide +kernel
theorem d_M_stop_16 : decode b_M_stop 16 = .ok (.iload_n 1, 1) := by decide +kernel
theorem d_M_stop_17 : decode b_M_stop 17 = .ok (.baload, 1) := by decide +kernel
theorem d_M_stop_18 : decode b_M_stop 18 = .ok (.ifCond .ne 5, 3) := by decide +kernel
theorem d_M_stop_21 : decode b_M_stop 21 = .ok (.iconst 0, 1) := by decide +kernel
theorem d_M_stop_22 : decode b_M_stop 22 = .ok (.ireturn, 1) := by decide +kernel
theorem d_M_stop_23 : decode b_M_stop 23 = .ok (.aload_n 0, 1) := by decide +kernel
theorem d_M_stop_24 : decode b_M_stop 24 = .ok (.getfield 13, 3) := by decide +kernel
theorem d_M_stop_27 : decode b_M_stop 27 = .ok (.iload_n 1, 1) := by decide +kernel
theorem d_M_stop_28 : decode b_M_stop 28 = .ok (.iconst 0, 1) := by decide +kernel
theorem d_M_stop_29 : decode b_M_stop 29 = .ok (.bastore, 1) := by decide +kernel
theorem d_M_stop_30 : decode b_M_stop 30 = .ok (.aload_n 0, 1) := by decide +kernel
theorem d_M_stop_31 : decode b_M_stop 31 = .ok (.getfield 16, 3) := by decide +kernel
theorem d_M_stop_34 : decode b_M_stop 34 = .ok (.iload_n 1, 1) := by decide +kernel
theorem d_M_stop_35 : decode b_M_stop 35 = .ok (.iconst 0, 1) := by decide +kernel
theorem d_M_stop_36 : decode b_M_stop 36 = .ok (.bastore, 1) := by decide +kernel
theorem d_M_stop_37 : decode b_M_stop 37 = .ok (.aload_n 0, 1) := by decide +kernel
theorem d_M_stop_38 : decode b_M_stop 38 = .ok (.getfield 19, 3) := by decide +kernel
theorem d_M_stop_41 : decode b_M_stop 41 = .ok (.iload_n 1, 1) := by decide +kernel
theorem d_M_stop_42 : decode b_M_stop 42 = .ok (.iconst 0, 1) := by decide +kernel
theorem d_M_stop_43 : decode b_M_stop 43 = .ok (.iastore, 1) := by decide +kernel
theorem d_M_stop_44 : decode b_M_stop 44 = .ok (.aload_n 0, 1) := by decide +kernel
theorem d_M_stop_45 : decode b_M_stop 45 = .ok (.getfield 63, 3) := by decide +kernel
theorem d_M_stop_48 : decode b_M_stop 48 = .ok (.iload_n 1, 1) := by decide +kernel
theorem d_M_stop_49 : decode b_M_stop 49 = .ok (.iconst 0, 1) := by decide +kernel
theorem d_M_stop_50 : decode b_M_stop 50 = .ok (.iastore, 1) := by decide +kernel
theorem d_M_stop_51 : decode b_M_stop 51 = .ok (.aload_n 0, 1) := by decide +kernel
theorem d_M_stop_52 : decode b_M_stop 52 = .ok (.getfield 66, 3) := by decide +kernel
theorem d_M_stop_55 : decode b_M_stop 55 = .ok (.iload_n 1, 1) := by decide +kernel
theorem d_M_stop_56 : decode b_M_stop 56 = .ok (.iconst 0, 1) := by decide +kernel
theorem d_M_stop_57 : decode b_M_stop 57 = .ok (.iastore, 1) := by decide +kernel
theorem d_M_stop_58 : decode b_M_stop 58 = .ok (.aload_n 0, 1) := by decide +kernel
theorem d_M_stop_59 : decode b_M_stop 59 = .ok (.getfield 51, 3) := by decide +kernel
theorem d_M_stop_62 : decode b_M_stop 62 = .ok (.iload_n 1, 1) := by decide +kernel
theorem d_M_stop_63 : decode b_M_stop 63 = .ok (.iconst 0, 1) := by decide +kernel
theorem d_M_stop_64 : decode b_M_stop 64 = .ok (.iastore, 1) := by decide +kernel
theorem d_M_stop_65 : decode b_M_stop 65 = .ok (.aload_n 0, 1) := by decide +kernel
theorem d_M_stop_66 : decode b_M_stop 66 = .ok (.getfield 51, 3) := by decide +kernel
theorem d_M_stop_69 : decode b_M_stop 69 = .ok (.bipush 6, 2) := by decide +kernel
theorem d_M_stop_71 : decode b_M_stop 71 = .ok (.iload_n 1, 1) := by decide +kernel
theorem d_M_stop_72 : decode b_M_stop 72 = .ok (.iadd, 1) := by decide +kernel
theorem d_M_stop_73 : decode b_M_stop 73 = .ok (.iconst 0, 1) := by decide +kernel
theorem d_M_stop_74 : decode b_M_stop 74 = .ok (.iastore, 1) := by decide +kernel
theorem d_M_stop_75 : decode b_M_stop 75 = .ok (.iconst 0, 1) := by decide +kernel
theorem d_M_stop_76 : decode b_M_stop 76 = .ok (.istore_n 2, 1) := by decide +kernel
theorem d_M_stop_77 : decode b_M_stop 77 = .ok (.iload_n 2, 1) := by decide +kernel
theorem d_M_stop_78 : decode b_M_stop 78 = .ok (.bipush 6, 2) := by decide +kernel
theorem d_M_stop_80 : decode b_M_stop 80 = .ok (.if_icmp .ge 58, 3) := by decide +kernel
theorem d_M_stop_83 : decode b_M_stop 83 = .ok (.aload_n 0, 1) := by decide +kernel
theorem d_M_stop_84 : decode b_M_stop 84 = .ok (.getfield 69, 3) := by decide +kernel
theorem d_M_stop_87 : decode b_M_stop 87 = .ok (.bipush 6, 2) := by decide +kernel
theorem d_M_stop_89 : decode b_M_stop 89 = .ok (.iload_n 1, 1) := by decide +kernel
theorem d_M_stop_90 : decode b_M_stop 90 = .ok (.imul, 1) := by decide +kernel
theorem d_M_stop_91 : decode b_M_stop 91 = .ok (.iload_n 2, 1) := by decide +kernel
theorem d_M_stop_92 : decode b_M_stop 92 = .ok (.iadd, 1) := by decide +kernel
theorem d_M_stop_93 : decode b_M_stop 93 = .ok (.iconst 0, 1) := by decide +kernel
theorem d_M_stop_94 : decode b_M_stop 94 = .ok (.iastore, 1) := by decide +kernel
theorem d_M_stop_95 : decode b_M_stop 95 = .ok (.aload_n 0, 1) := by decide +kernel
theorem d_M_stop_96 : decode b_M_stop 96 = .ok (.getfield 69, 3) := by decide +kernel
theorem d_M_stop_99 : decode b_M_stop 99 = .ok (.bipush 36, 2) := by decide +kernel
theorem d_M_stop_101 : decode b_M_stop 101 = .ok (.bipush 6, 2) := by decide +kernel
theorem d_M_stop_103 : decode b_M_stop 103 = .ok (.iload_n 1, 1) := by decide +kernel
theorem d_M_stop_104 : decode b_M_stop 104 = .ok (.imul, 1) := by decide +kernel
theorem d_M_stop_105 : decode b_M_stop 105 = .ok (.iadd, 1) := by decide +kernel
theorem d_M_stop_106 : decode b_M_stop 106 = .ok (.iload_n 2, 1) := by decide +kernel
theorem d_M_stop_107 : decode b_M_stop 107 = .ok (.iadd, 1) := by decide +kernel
theorem d_M_stop_108 : decode b_M_stop 108 = .ok (.iload_n 2, 1) := by decide +kernel
theorem d_M_stop_109 : decode b_M_stop 109 = .ok (.iload_n 1, 1) := by decide +kernel
theorem d_M_stop_110 : decode b_M_stop 110 = .ok (.if_icmp .ne 20, 3) := by decide +kernel
theorem d_M_stop_113 : decode b_M_stop 113 = .ok (.aload_n 0, 1) := by decide +kernel
theorem d_M_stop_114 : decode b_M_stop 114 = .ok (.getfield 69, 3) := by decide +kernel
theorem d_M_stop_117 : decode b_M_stop 117 = .ok (.bipush 36, 2) := by decide +kernel
theorem d_M_stop_119 : decode b_M_stop 119 = .ok (.bipush 6, 2) := by decide +kernel
theorem d_M_stop_121 : decode b_M_stop 121 = .ok (.iload_n 1, 1) := by decide +kernel
theorem d_M_stop_122 : decode b_M_stop 122 = .ok (.imul, 1) := by decide +kernel
theorem d_M_stop_123 : decode b_M_stop 123 = .ok (.iadd, 1) := by decide +kernel
theorem d_M_stop_124 : decode b_M_stop 124 = .ok (.iload_n 2, 1) := by decide +kernel
theorem d_M_stop_125 : decode b_M_stop 125 = .ok (.iadd, 1) := by decide +kernel
theorem d_M_stop_126 : decode b_M_stop 126 = .ok (.iaload, 1) := by decide +kernel
theorem d_M_stop_127 : decode b_M_stop 127 = .ok (.goto 4, 3) := by decide +kernel
theorem d_M_stop_130 : decode b_M_stop 130 = .ok (.iconst 0, 1) := by decide +kernel
theorem d_M_stop_131 : decode b_M_stop 131 = .ok (.iastore, 1) := by decide +kernel
theorem d_M_stop_132 : decode b_M_stop 132 = .ok (.iinc 2 1, 3) := by decide +kernel
theorem d_M_stop_135 : decode b_M_stop 135 = .ok (.goto (-58), 3) := by decide +kernel
theorem d_M_stop_138 : decode b_M_stop 138 = .ok (.iconst 1, 1) := by decide +kernel
theorem d_M_stop_139 : decode b_M_stop 139 = .ok (.ireturn, 1) := by decide +kernel
theorem d_M_drift_0 : decode b_M_drift 0 = .ok (.aload_n 0, 1) := by decide +kernel
theorem d_M_drift_1 : decode b_M_drift 1 = .ok (.iload_n 1, 1) := by decide +kernel
theorem d_M_drift_2 : decode b_M_drift 2 = .ok (.invokevirtual 108, 3) := by decide +kernel
theorem d_M_drift_5 : decode b_M_drift 5 = .ok (.ifCond .ne 18, 3) := by decide +kernel
theorem d_M_drift_8 : decode b_M_drift 8 = .ok (.iload_n 1, 1) := by decide +kernel
theorem d_M_drift_9 : decode b_M_drift 9 = .ok (.ifCond .eq 14, 3) := by decide +kernel
theorem d_M_drift_12 : decode b_M_drift 12 = .ok (.iload_n 2, 1) := by decide +kernel
theorem d_M_drift_13 : decode b_M_drift 13 = .ok (.bipush (-3), 2) := by decide +kernel
theorem d_M_drift_15 : decode b_M_drift 15 = .ok (.if_icmp .lt 8, 3) := by decide +kernel
theorem d_M_drift_18 : decode b_M_drift 18 = .ok (.iload_n 2, 1) := by decide +kernel
theorem d_M_drift_19 : decode b_M_drift 19 = .ok (.iconst 3, 1) := by decide +kernel
theorem d_M_drift_20 : decode b_M_drift 20 = .ok (.if_icmp .le 5, 3) := by decide +kernel
theorem d_M_drift_23 : decode b_M_drift 23 = .ok (.iconst 0, 1) := by decide +kernel
theorem d_M_drift_24 : decode b_M_drift 24 = .ok (.ireturn, 1) := by decide +kernel
theorem d_M_drift_25 : decode b_M_drift 25 = .ok (.aload_n 0, 1) := by decide +kernel
theorem d_M_drift_26 : decode b_M_drift 26 = .ok (.getfield 23, 3) := by decide +kernel
theorem d_M_drift_29 : decode b_M_drift 29 = .ok (.iload_n 1, 1) := by decide +kernel
theorem d_M_drift_30 : decode b_M_drift 30 = .ok (.iload_n 2, 1) := by decide +kernel
theorem d_M_drift_31 : decode b_M_drift 31 = .ok (.iastore, 1) := by decide +kernel
theorem d_M_drift_32 : decode b_M_drift 32 = .ok (.iconst 1, 1) := by decide +kernel
theorem d_M_drift_33 : decode b_M_drift 33 = .ok (.ireturn, 1) := by decide +kernel
theorem d_M_radio_0 : decode b_M_radio 0 = .ok (.iload_n 1, 1) := by decide +kernel
theorem d_M_radio_1 : decode b_M_radio 1 = .ok (.ifCond .lt 11, 3) := by decide +kernel
theorem d_M_radio_4 : decode b_M_radio 4 = .ok (.iload_n 1, 1) := by decide +kernel
theorem d_M_radio_5 : decode b_M_radio 5 = .ok (.aload_n 0, 1) := by decide +kernel
theorem d_M_radio_6 : decode b_M_radio 6 = .ok (.getfield 103, 3) := by decide +kernel
theorem d_M_radio_9 : decode b_M_radio 9 = .ok (.if_icmp .lt 5, 3) := by decide +kernel
theorem d_M_radio_12 : decode b_M_radio 12 = .ok (.iconst 0, 1) := by decide +kernel
theorem d_M_radio_13 : decode b_M_radio 13 = .ok (.ireturn, 1) := by decide +kernel
theorem d_M_radio_14 : decode b_M_radio 14 = .ok (.aload_n 0, 1) := by decide +kernel
theorem d_M_radio_15 : decode b_M_radio 15 = .ok (.getfield 26, 3) := by decide +kernel
theorem d_M_radio_18 : decode b_M_radio 18 = .ok (.iload_n 1, 1) := by decide +kernel
theorem d_M_radio_19 : decode b_M_radio 19 = .ok (.lload_n 2, 1) := by decide +kernel
theorem d_M_radio_20 : decode b_M_radio 20 = .ok (.lastore, 1) := by decide +kernel
theorem d_M_radio_21 : decode b_M_radio 21 = .ok (.aload_n 0, 1) := by decide +kernel
theorem d_M_radio_22 : decode b_M_radio 22 = .ok (.getfield 30, 3) := by decide +kernel
theorem d_M_radio_25 : decode b_M_radio 25 = .ok (.iload_n 1, 1) := by decide +kernel
theorem d_M_radio_26 : decode b_M_radio 26 = .ok (.lload 4, 2) := by decide +kernel
theorem d_M_radio_28 : decode b_M_radio 28 = .ok (.lastore, 1) := by decide +kernel
theorem d_M_radio_29 : decode b_M_radio 29 = .ok (.iconst 1, 1) := by decide +kernel
theorem d_M_radio_30 : decode b_M_radio 30 = .ok (.ireturn, 1) := by decide +kernel
theorem d_M_add_0 : decode b_M_add 0 = .ok (.iconst 4, 1) := by decide +kernel
theorem d_M_add_1 : decode b_M_add 1 = .ok (.iload_n 1, 1) := by decide +kernel
theorem d_M_add_2 : decode b_M_add 2 = .ok (.imul, 1) := by decide +kernel
theorem d_M_add_3 : decode b_M_add 3 = .ok (.aload_n 0, 1) := by decide +kernel
theorem d_M_add_4 : decode b_M_add 4 = .ok (.getfield 51, 3) := by decide +kernel
theorem d_M_add_7 : decode b_M_add 7 = .ok (.iload_n 1, 1) := by decide +kernel
theorem d_M_add_8 : decode b_M_add 8 = .ok (.iaload, 1) := by decide +kernel
theorem d_M_add_9 : decode b_M_add 9 = .ok (.iadd, 1) := by decide +kernel
theorem d_M_add_10 : decode b_M_add 10 = .ok (.istore 5, 2) := by decide +kernel
theorem d_M_add_12 : decode b_M_add 12 = .ok (.aload_n 0, 1) := by decide +kernel
theorem d_M_add_13 : decode b_M_add 13 = .ok (.getfield 54, 3) := by decide +kernel
theorem d_M_add_16 : decode b_M_add 16 = .ok (.iload 5, 2) := by decide +kernel
theorem d_M_add_18 : decode b_M_add 18 = .ok (.iload_n 2, 1) := by decide +kernel
theorem d_M_add_19 : decode b_M_add 19 = .ok (.iastore, 1) := by decide +kernel
theorem d_M_add_20 : decode b_M_add 20 = .ok (.aload_n 0, 1) := by decide +kernel
theorem d_M_add_21 : decode b_M_add 21 = .ok (.getfield 57, 3) := by decide +kernel
theorem d_M_add_24 : decode b_M_add 24 = .ok (.iload 5, 2) := by decide +kernel
theorem d_M_add_26 : decode b_M_add 26 = .ok (.iload_n 3, 1) := by decide +kernel
theorem d_M_add_27 : decode b_M_add 27 = .ok (.iastore, 1) := by decide +kernel
theorem d_M_add_28 : decode b_M_add 28 = .ok (.aload_n 0, 1) := by decide +kernel
theorem d_M_add_29 : decode b_M_add 29 = .ok (.getfield 60, 3) := by decide +kernel
theorem d_M_add_32 : decode b_M_add 32 = .ok (.iload 5, 2) := by decide +kernel
theorem d_M_add_34 : decode b_M_add 34 = .ok (.iload 4, 2) := by decide +kernel
theorem d_M_add_36 : decode b_M_add 36 = .ok (.iastore, 1) := by decide +kernel
theorem d_M_add_37 : decode b_M_add 37 = .ok (.aload_n 0, 1) := by decide +kernel
theorem d_M_add_38 : decode b_M_add 38 = .ok (.getfield 51, 3) := by decide +kernel
theorem d_M_add_41 : decode b_M_add 41 = .ok (.iload_n 1, 1) := by decide +kernel
theorem d_M_add_42 : decode b_M_add 42 = .ok (.dup2, 1) := by decide +kernel
theorem d_M_add_43 : decode b_M_add 43 = .ok (.iaload, 1) := by decide +kernel
theorem d_M_add_44 : decode b_M_add 44 = .ok (.iconst 1, 1) := by decide +kernel
theorem d_M_add_45 : decode b_M_add 45 = .ok (.iadd, 1) := by decide +kernel
theorem d_M_add_46 : decode b_M_add 46 = .ok (.iastore, 1) := by decide +kernel
theorem d_M_add_47 : decode b_M_add 47 = .ok (.return_, 1) := by decide +kernel
theorem d_M_leave_0 : decode b_M_leave 0 = .ok (.aload_n 0, 1) := by decide +kernel
theorem d_M_leave_1 : decode b_M_leave 1 = .ok (.getfield 51, 3) := by decide +kernel
theorem d_M_leave_4 : decode b_M_leave 4 = .ok (.iload_n 1, 1) := by decide +kernel
theorem d_M_leave_5 : decode b_M_leave 5 = .ok (.dup2, 1) := by decide +kernel
theorem d_M_leave_6 : decode b_M_leave 6 = .ok (.iaload, 1) := by decide +kernel
theorem d_M_leave_7 : decode b_M_leave 7 = .ok (.iconst 1, 1) := by decide +kernel
theorem d_M_leave_8 : decode b_M_leave 8 = .ok (.isub, 1) := by decide +kernel
theorem d_M_leave_9 : decode b_M_leave 9 = .ok (.iastore, 1) := by decide +kernel
theorem d_M_leave_10 : decode b_M_leave 10 = .ok (.iconst 4, 1) := by decide +kernel
theorem d_M_leave_11 : decode b_M_leave 11 = .ok (.iload_n 1, 1) := by decide +kernel
theorem d_M_leave_12 : decode b_M_leave 12 = .ok (.imul, 1) := by decide +kernel
theorem d_M_leave_13 : decode b_M_leave 13 = .ok (.istore_n 2, 1) := by decide +kernel
theorem d_M_leave_14 : decode b_M_leave 14 = .ok (.iload_n 2, 1) := by decide +kernel
theorem d_M_leave_15 : decode b_M_leave 15 = .ok (.iconst 4, 1) := by decide +kernel
theorem d_M_leave_16 : decode b_M_leave 16 = .ok (.iload_n 1, 1) := by decide +kernel
theorem d_M_leave_17 : decode b_M_leave 17 = .ok (.imul, 1) := by decide +kernel
theorem d_M_leave_18 : decode b_M_leave 18 = .ok (.aload_n 0, 1) := by decide +kernel
theorem d_M_leave_19 : decode b_M_leave 19 = .ok (.getfield 51, 3) := by decide +kernel
theorem d_M_leave_22 : decode b_M_leave 22 = .ok (.iload_n 1, 1) := by decide +kernel
theorem d_M_leave_23 : decode b_M_leave 23 = .ok (.iaload, 1) := by decide +kernel
theorem d_M_leave_24 : decode b_M_leave 24 = .ok (.iadd, 1) := by decide +kernel
theorem d_M_leave_25 : decode b_M_leave 25 = .ok (.if_icmp .ge 51, 3) := by decide +kernel
theorem d_M_leave_28 : decode b_M_leave 28 = .ok (.aload_n 0, 1) := by decide +kernel
theorem d_M_leave_29 : decode b_M_leave 29 = .ok (.getfield 54, 3) := by decide +kernel
theorem d_M_leave_32 : decode b_M_leave 32 = .ok (.iload_n 2, 1) := by decide +kernel
theorem d_M_leave_33 : decode b_M_leave 33 = .ok (.aload_n 0, 1) := by decide +kernel
theorem d_M_leave_34 : decode b_M_leave 34 = .ok (.getfield 54, 3) := by decide +kernel
theorem d_M_leave_37 : decode b_M_leave 37 = .ok (.iload_n 2, 1) := by decide +kernel
theorem d_M_leave_38 : decode b_M_leave 38 = .ok (.iconst 1, 1) := by decide +kernel
theorem d_M_leave_39 : decode b_M_leave 39 = .ok (.iadd, 1) := by decide +kernel
theorem d_M_leave_40 : decode b_M_leave 40 = .ok (.iaload, 1) := by decide +kernel
theorem d_M_leave_41 : decode b_M_leave 41 = .ok (.iastore, 1) := by decide +kernel
theorem d_M_leave_42 : decode b_M_leave 42 = .ok (.aload_n 0, 1) := by decide +kernel
theorem d_M_leave_43 : decode b_M_leave 43 = .ok (.getfield 57, 3) := by decide +kernel
theorem d_M_leave_46 : decode b_M_leave 46 = .ok (.iload_n 2, 1) := by decide +kernel
theorem d_M_leave_47 : decode b_M_leave 47 = .ok (.aload_n 0, 1) := by decide +kernel
theorem d_M_leave_48 : decode b_M_leave 48 = .ok (.getfield 57, 3) := by decide +kernel
theorem d_M_leave_51 : decode b_M_leave 51 = .ok (.iload_n 2, 1) := by decide +kernel
theorem d_M_leave_52 : decode b_M_leave 52 = .ok (.iconst 1, 1) := by decide +kernel
theorem d_M_leave_53 : decode b_M_leave 53 = .ok (.iadd, 1) := by decide +kernel
theorem d_M_leave_54 : decode b_M_leave 54 = .ok (.iaload, 1) := by decide +kernel
theorem d_M_leave_55 : decode b_M_leave 55 = .ok (.iastore, 1) := by decide +kernel
theorem d_M_leave_56 : decode b_M_leave 56 = .ok (.aload_n 0, 1) := by decide +kernel
theorem d_M_leave_57 : decode b_M_leave 57 = .ok (.getfield 60, 3) := by decide +kernel
theorem d_M_leave_60 : decode b_M_leave 60 = .ok (.iload_n 2, 1) := by decide +kernel
theorem d_M_leave_61 : decode b_M_leave 61 = .ok (.aload_n 0, 1) := by decide +kernel
theorem d_M_leave_62 : decode b_M_leave 62 = .ok (.getfield 60, 3) := by decide +kernel
theorem d_M_leave_65 : decode b_M_leave 65 = .ok (.iload_n 2, 1) := by decide +kernel
theorem d_M_leave_66 : decode b_M_leave 66 = .ok (.iconst 1, 1) := by decide +kernel
theorem d_M_leave_67 : decode b_M_leave 67 = .ok (.iadd, 1) := by decide +kernel
theorem d_M_leave_68 : decode b_M_leave 68 = .ok (.iaload, 1) := by decide +kernel
theorem d_M_leave_69 : decode b_M_leave 69 = .ok (.iastore, 1) := by decide +kernel
theorem d_M_leave_70 : decode b_M_leave 70 = .ok (.iinc 2 1, 3) := by decide +kernel
theorem d_M_leave_73 : decode b_M_leave 73 = .ok (.goto (-59), 3) := by decide +kernel
theorem d_M_leave_76 : decode b_M_leave 76 = .ok (.return_, 1) := by decide +kernel
theorem d_M_sample_0 : decode b_M_sample 0 = .ok (.aload_n 0, 1) := by decide +kernel
theorem d_M_sample_1 : decode b_M_sample 1 = .ok (.iload_n 1, 1) := by decide +kernel
theorem d_M_sample_2 : decode b_M_sample 2 = .ok (.invokevirtual 108, 3) := by decide +kernel
theorem d_M_sample_5 : decode b_M_sample 5 = .ok (.ifCond .ne 40, 3) := by decide +kernel
theorem d_M_sample_8 : decode b_M_sample 8 = .ok (.iload_n 1, 1) := by decide +kernel
theorem d_M_sample_9 : decode b_M_sample 9 = .ok (.ifCond .eq 36, 3) := by decide +kernel
theorem d_M_sample_12 : decode b_M_sample 12 = .ok (.aload_n 0, 1) := by decide +kernel
theorem d_M_sample_13 : decode b_M_sample 13 = .ok (.getfield 13, 3) := by decide +kernel
theorem d_M_sample_16 : decode b_M_sample 16 = .ok (.iload_n 1, 1) := by decide +kernel
theorem d_M_sample_17 : decode b_M_sample 17 = .ok (.baload, 1) := by decide +kernel
theorem d_M_sample_18 : decode b_M_sample 18 = .ok (.ifCond .eq 27, 3) := by decide +kernel
theorem d_M_sample_21 : decode b_M_sample 21 = .ok (.iload_n 2, 1) := by decide +kernel
theorem d_M_sample_22 : decode b_M_sample 22 = .ok (.sipush (-1000), 3) := by decide +kernel
theorem d_M_sample_25 : decode b_M_sample 25 = .ok (.if_icmp .lt 20, 3) := by decide +kernel
theorem d_M_sample_28 : decode b_M_sample 28 = .ok (.iload_n 2, 1) := by decide +kernel
theorem d_M_sample_29 : decode b_M_sample 29 = .ok (.sipush 1000, 3) := by decide +kernel
theorem d_M_sample_32 : decode b_M_sample 32 = .ok (.if_icmp .gt 13, 3) := by decide +kernel
theorem d_M_sample_35 : decode b_M_sample 35 = .ok (.aload_n 0, 1) := by decide +kernel
theorem d_M_sample_36 : decode b_M_sample 36 = .ok (.getfield 51, 3) := by decide +kernel
theorem d_M_sample_39 : decode b_M_sample 39 = .ok (.iload_n 1, 1) := by decide +kernel
theorem d_M_sample_40 : decode b_M_sample 40 = .ok (.iaload, 1) := by decide +kernel
theorem d_M_sample_41 : decode b_M_sample 41 = .ok (.iconst 4, 1) := by decide +kernel
theorem d_M_sample_42 : decode b_M_sample 42 = .ok (.if_icmp .ne 5, 3) := by decide +kernel
theorem d_M_sample_45 : decode b_M_sample 45 = .ok (.iconst (-1), 1) := by decide +kernel
theorem d_M_sample_46 : decode b_M_sample 46 = .ok (.ireturn, 1) := by decide +kernel
theorem d_M_sample_47 : decode b_M_sample 47 = .ok (.aload_n 0, 1) := by decide +kernel
theorem d_M_sample_48 : decode b_M_sample 48 = .ok (.getfield 72, 3) := by decide +kernel
theorem d_M_sample_51 : decode b_M_sample 51 = .ok (.iload_n 1, 1) := by decide +kernel
theorem d_M_sample_52 : decode b_M_sample 52 = .ok (.dup2, 1) := by decide +kernel
theorem d_M_sample_53 : decode b_M_sample 53 = .ok (.iaload, 1) := by decide +kernel
theorem d_M_sample_54 : decode b_M_sample 54 = .ok (.iconst 1, 1) := by decide +kernel
theorem d_M_sample_55 : decode b_M_sample 55 = .ok (.iadd, 1) := by decide +kernel
theorem d_M_sample_56 : decode b_M_sample 56 = .ok (.iastore, 1) := by decide +kernel
theorem d_M_sample_57 : decode b_M_sample 57 = .ok (.aload_n 0, 1) := by decide +kernel
theorem d_M_sample_58 : decode b_M_sample 58 = .ok (.iload_n 1, 1) := by decide +kernel
theorem d_M_sample_59 : decode b_M_sample 59 = .ok (.iload_n 1, 1) := by decide +kernel
theorem d_M_sample_60 : decode b_M_sample 60 = .ok (.aload_n 0, 1) := by decide +kernel
theorem d_M_sample_61 : decode b_M_sample 61 = .ok (.getfield 72, 3) := by decide +kernel
theorem d_M_sample_64 : decode b_M_sample 64 = .ok (.iload_n 1, 1) := by decide +kernel
theorem d_M_sample_65 : decode b_M_sample 65 = .ok (.iaload, 1) := by decide +kernel
theorem d_M_sample_66 : decode b_M_sample 66 = .ok (.iload_n 2, 1) := by decide +kernel
theorem d_M_sample_67 : decode b_M_sample 67 = .ok (.invokevirtual 139, 3) := by decide +kernel
theorem d_M_sample_70 : decode b_M_sample 70 = .ok (.aload_n 0, 1) := by decide +kernel
theorem d_M_sample_71 : decode b_M_sample 71 = .ok (.getfield 72, 3) := by decide +kernel
theorem d_M_sample_74 : decode b_M_sample 74 = .ok (.iload_n 1, 1) := by decide +kernel
theorem d_M_sample_75 : decode b_M_sample 75 = .ok (.iaload, 1) := by decide +kernel
theorem d_M_sample_76 : decode b_M_sample 76 = .ok (.ireturn, 1) := by decide +kernel
theorem d_M_control_0 : decode b_M_control 0 = .ok (.aload_n 0, 1) := by decide +kernel
theorem d_M_control_1 : decode b_M_control 1 = .ok (.iload_n 1, 1) := by decide +kernel
theorem d_M_control_2 : decode b_M_control 2 = .ok (.invokevirtual 108, 3) := by decide +kernel
theorem d_M_control_5 : decode b_M_control 5 = .ok (.ifCond .ne 43, 3) := by decide +kernel
theorem d_M_control_8 : decode b_M_control 8 = .ok (.iload_n 1, 1) := by decide +kernel
theorem d_M_control_9 : decode b_M_control 9 = .ok (.ifCond .eq 39, 3) := by decide +kernel
theorem d_M_control_12 : decode b_M_control 12 = .ok (.iload_n 2, 1) := by decide +kernel
theorem d_M_control_13 : decode b_M_control 13 = .ok (.sipush (-1000), 3) := by decide +kernel
theorem d_M_control_16 : decode b_M_control 16 = .ok (.if_icmp .lt 32, 3) := by decide +kernel
theorem d_M_control_19 : decode b_M_control 19 = .ok (.iload_n 2, 1) := by decide +kernel
theorem d_M_control_20 : decode b_M_control 20 = .ok (.sipush 1000, 3) := by decide +kernel
theorem d_M_control_23 : decode b_M_control 23 = .ok (.if_icmp .gt 25, 3) := by decide +kernel
theorem d_M_control_26 : decode b_M_control 26 = .ok (.iload_n 3, 1) := by decide +kernel
theorem d_M_control_27 : decode b_M_control 27 = .ok (.ifCond .lt 21, 3) := by decide +kernel
theorem d_M_control_30 : decode b_M_control 30 = .ok (.iload_n 3, 1) := by decide +kernel
theorem d_M_control_31 : decode b_M_control 31 = .ok (.bipush 16, 2) := by decide +kernel
theorem d_M_control_33 : decode b_M_control 33 = .ok (.if_icmp .gt 15, 3) := by decide +kernel
theorem d_M_control_36 : decode b_M_control 36 = .ok (.iload 4, 2) := by decide +kernel
theorem d_M_control_38 : decode b_M_control 38 = .ok (.ifCond .lt 10, 3) := by decide +kernel
theorem d_M_control_41 : decode b_M_control 41 = .ok (.iload 4, 2) := by decide +kernel
theorem d_M_control_43 : decode b_M_control 43 = .ok (.bipush 16, 2) := by decide +kernel
theorem d_M_control_45 : decode b_M_control 45 = .ok (.if_icmp .le 5, 3) := by decide +kernel
theorem d_M_control_48 : decode b_M_control 48 = .ok (.iconst 0, 1) := by decide +kernel
theorem d_M_control_49 : decode b_M_control 49 = .ok (.ireturn, 1) := by decide +kernel
theorem d_M_control_50 : decode b_M_control 50 = .ok (.aload_n 0, 1) := by decide +kernel
theorem d_M_control_51 : decode b_M_control 51 = .ok (.getfield 81, 3) := by decide +kernel
theorem d_M_control_54 : decode b_M_control 54 = .ok (.iload_n 1, 1) := by decide +kernel
theorem d_M_control_55 : decode b_M_control 55 = .ok (.iload_n 2, 1) := by decide +kernel
theorem d_M_control_56 : decode b_M_control 56 = .ok (.iastore, 1) := by decide +kernel
theorem d_M_control_57 : decode b_M_control 57 = .ok (.aload_n 0, 1) := by decide +kernel
theorem d_M_control_58 : decode b_M_control 58 = .ok (.getfield 84, 3) := by decide +kernel
theorem d_M_control_61 : decode b_M_control 61 = .ok (.iload_n 1, 1) := by decide +kernel
theorem d_M_control_62 : decode b_M_control 62 = .ok (.iload_n 3, 1) := by decide +kernel
theorem d_M_control_63 : decode b_M_control 63 = .ok (.iastore, 1) := by decide +kernel
theorem d_M_control_64 : decode b_M_control 64 = .ok (.aload_n 0, 1) := by decide +kernel
theorem d_M_control_65 : decode b_M_control 65 = .ok (.getfield 87, 3) := by decide +kernel
theorem d_M_control_68 : decode b_M_control 68 = .ok (.iload_n 1, 1) := by decide +kernel
theorem d_M_control_69 : decode b_M_control 69 = .ok (.iload 4, 2) := by decide +kernel
theorem d_M_control_71 : decode b_M_control 71 = .ok (.iastore, 1) := by decide +kernel
theorem d_M_control_72 : decode b_M_control 72 = .ok (.iconst 1, 1) := by decide +kernel
theorem d_M_control_73 : decode b_M_control 73 = .ok (.ireturn, 1) := by decide +kernel
theorem d_M_within_0 : decode b_M_within 0 = .ok (.iload_n 0, 1) := by decide +kernel
theorem d_M_within_1 : decode b_M_within 1 = .ok (.iload_n 1, 1) := by decide +kernel
theorem d_M_within_2 : decode b_M_within 2 = .ok (.ineg, 1) := by decide +kernel
theorem d_M_within_3 : decode b_M_within 3 = .ok (.if_icmp .ge 8, 3) := by decide +kernel
theorem d_M_within_6 : decode b_M_within 6 = .ok (.iload_n 1, 1) := by decide +kernel
theorem d_M_within_7 : decode b_M_within 7 = .ok (.ineg, 1) := by decide +kernel
theorem d_M_within_8 : decode b_M_within 8 = .ok (.goto 13, 3) := by decide +kernel
theorem d_M_within_11 : decode b_M_within 11 = .ok (.iload_n 0, 1) := by decide +kernel
theorem d_M_within_12 : decode b_M_within 12 = .ok (.iload_n 1, 1) := by decide +kernel
theorem d_M_within_13 : decode b_M_within 13 = .ok (.if_icmp .le 7, 3) := by decide +kernel
theorem d_M_within_16 : decode b_M_within 16 = .ok (.iload_n 1, 1) := by decide +kernel
theorem d_M_within_17 : decode b_M_within 17 = .ok (.goto 4, 3) := by decide +kernel
theorem d_M_within_20 : decode b_M_within 20 = .ok (.iload_n 0, 1) := by decide +kernel
theorem d_M_within_21 : decode b_M_within 21 = .ok (.ireturn, 1) := by decide +kernel
theorem d_M_cache_0 : decode b_M_cache 0 = .ok (.aload_n 0, 1) := by decide +kernel
theorem d_M_cache_1 : decode b_M_cache 1 = .ok (.getfield 75, 3) := by decide +kernel
theorem d_M_cache_4 : decode b_M_cache 4 = .ok (.iconst 3, 1) := by decide +kernel
theorem d_M_cache_5 : decode b_M_cache 5 = .ok (.iload_n 1, 1) := by decide +kernel
theorem d_M_cache_6 : decode b_M_cache 6 = .ok (.imul, 1) := by decide +kernel
theorem d_M_cache_7 : decode b_M_cache 7 = .ok (.iconst 2, 1) := by decide +kernel
theorem d_M_cache_8 : decode b_M_cache 8 = .ok (.iadd, 1) := by decide +kernel
theorem d_M_cache_9 : decode b_M_cache 9 = .ok (.aload_n 0, 1) := by decide +kernel
theorem d_M_cache_10 : decode b_M_cache 10 = .ok (.getfield 75, 3) := by decide +kernel
theorem d_M_cache_13 : decode b_M_cache 13 = .ok (.iconst 3, 1) := by decide +kernel
theorem d_M_cache_14 : decode b_M_cache 14 = .ok (.iload_n 1, 1) := by decide +kernel
theorem d_M_cache_15 : decode b_M_cache 15 = .ok (.imul, 1) := by decide +kernel
theorem d_M_cache_16 : decode b_M_cache 16 = .ok (.iconst 1, 1) := by decide +kernel
theorem d_M_cache_17 : decode b_M_cache 17 = .ok (.iadd, 1) := by decide +kernel
theorem d_M_cache_18 : decode b_M_cache 18 = .ok (.iaload, 1) := by decide +kernel
theorem d_M_cache_19 : decode b_M_cache 19 = .ok (.iastore, 1) := by decide +kernel
theorem d_M_cache_20 : decode b_M_cache 20 = .ok (.aload_n 0, 1) := by decide +kernel
theorem d_M_cache_21 : decode b_M_cache 21 = .ok (.getfield 75, 3) := by decide +kernel
theorem d_M_cache_24 : decode b_M_cache 24 = .ok (.iconst 3, 1) := by decide +kernel
theorem d_M_cache_25 : decode b_M_cache 25 = .ok (.iload_n 1, 1) := by decide +kernel
theorem d_M_cache_26 : decode b_M_cache 26 = .ok (.imul, 1) := by decide +kernel
theorem d_M_cache_27 : decode b_M_cache 27 = .ok (.iconst 1, 1) := by decide +kernel
theorem d_M_cache_28 : decode b_M_cache 28 = .ok (.iadd, 1) := by decide +kernel
theorem d_M_cache_29 : decode b_M_cache 29 = .ok (.aload_n 0, 1) := by decide +kernel
theorem d_M_cache_30 : decode b_M_cache 30 = .ok (.getfield 75, 3) := by decide +kernel
theorem d_M_cache_33 : decode b_M_cache 33 = .ok (.iconst 3, 1) := by decide +kernel
theorem d_M_cache_34 : decode b_M_cache 34 = .ok (.iload_n 1, 1) := by decide +kernel
theorem d_M_cache_35 : decode b_M_cache 35 = .ok (.imul, 1) := by decide +kernel
theorem d_M_cache_36 : decode b_M_cache 36 = .ok (.iaload, 1) := by decide +kernel
theorem d_M_cache_37 : decode b_M_cache 37 = .ok (.iastore, 1) := by decide +kernel
theorem d_M_cache_38 : decode b_M_cache 38 = .ok (.aload_n 0, 1) := by decide +kernel
theorem d_M_cache_39 : decode b_M_cache 39 = .ok (.getfield 75, 3) := by decide +kernel
theorem d_M_cache_42 : decode b_M_cache 42 = .ok (.iconst 3, 1) := by decide +kernel
theorem d_M_cache_43 : decode b_M_cache 43 = .ok (.iload_n 1, 1) := by decide +kernel
theorem d_M_cache_44 : decode b_M_cache 44 = .ok (.imul, 1) := by decide +kernel
theorem d_M_cache_45 : decode b_M_cache 45 = .ok (.iload_n 3, 1) := by decide +kernel
theorem d_M_cache_46 : decode b_M_cache 46 = .ok (.iastore, 1) := by decide +kernel
theorem d_M_cache_47 : decode b_M_cache 47 = .ok (.aload_n 0, 1) := by decide +kernel
theorem d_M_cache_48 : decode b_M_cache 48 = .ok (.getfield 78, 3) := by decide +kernel
theorem d_M_cache_51 : decode b_M_cache 51 = .ok (.iload_n 1, 1) := by decide +kernel
theorem d_M_cache_52 : decode b_M_cache 52 = .ok (.aload_n 0, 1) := by decide +kernel
theorem d_M_cache_53 : decode b_M_cache 53 = .ok (.getfield 78, 3) := by decide +kernel
theorem d_M_cache_56 : decode b_M_cache 56 = .ok (.iload_n 1, 1) := by decide +kernel
theorem d_M_cache_57 : decode b_M_cache 57 = .ok (.iaload, 1) := by decide +kernel
theorem d_M_cache_58 : decode b_M_cache 58 = .ok (.iconst 3, 1) := by decide +kernel
theorem d_M_cache_59 : decode b_M_cache 59 = .ok (.if_icmp .ge 14, 3) := by decide +kernel
theorem d_M_cache_62 : decode b_M_cache 62 = .ok (.aload_n 0, 1) := by decide +kernel
theorem d_M_cache_63 : decode b_M_cache 63 = .ok (.getfield 78, 3) := by decide +kernel
theorem d_M_cache_66 : decode b_M_cache 66 = .ok (.iload_n 1, 1) := by decide +kernel
theorem d_M_cache_67 : decode b_M_cache 67 = .ok (.iaload, 1) := by decide +kernel
theorem d_M_cache_68 : decode b_M_cache 68 = .ok (.iconst 1, 1) := by decide +kernel
theorem d_M_cache_69 : decode b_M_cache 69 = .ok (.iadd, 1) := by decide +kernel
theorem d_M_cache_70 : decode b_M_cache 70 = .ok (.goto 4, 3) := by decide +kernel
theorem d_M_cache_73 : decode b_M_cache 73 = .ok (.iconst 3, 1) := by decide +kernel
theorem d_M_cache_74 : decode b_M_cache 74 = .ok (.iastore, 1) := by decide +kernel
theorem d_M_cache_75 : decode b_M_cache 75 = .ok (.aload_n 0, 1) := by decide +kernel
theorem d_M_cache_76 : decode b_M_cache 76 = .ok (.getfield 81, 3) := by decide +kernel
theorem d_M_cache_79 : decode b_M_cache 79 = .ok (.iload_n 1, 1) := by decide +kernel
theorem d_M_cache_80 : decode b_M_cache 80 = .ok (.iaload, 1) := by decide +kernel
theorem d_M_cache_81 : decode b_M_cache 81 = .ok (.iload_n 3, 1) := by decide +kernel
theorem d_M_cache_82 : decode b_M_cache 82 = .ok (.isub, 1) := by decide +kernel
theorem d_M_cache_83 : decode b_M_cache 83 = .ok (.istore 4, 2) := by decide +kernel
theorem d_M_cache_85 : decode b_M_cache 85 = .ok (.aload_n 0, 1) := by decide +kernel
theorem d_M_cache_86 : decode b_M_cache 86 = .ok (.getfield 90, 3) := by decide +kernel
theorem d_M_cache_89 : decode b_M_cache 89 = .ok (.iload_n 1, 1) := by decide +kernel
theorem d_M_cache_90 : decode b_M_cache 90 = .ok (.aload_n 0, 1) := by decide +kernel
theorem d_M_cache_91 : decode b_M_cache 91 = .ok (.getfield 90, 3) := by decide +kernel
theorem d_M_cache_94 : decode b_M_cache 94 = .ok (.iload_n 1, 1) := by decide +kernel
theorem d_M_cache_95 : decode b_M_cache 95 = .ok (.iaload, 1) := by decide +kernel
theorem d_M_cache_96 : decode b_M_cache 96 = .ok (.iload 4, 2) := by decide +kernel
theorem d_M_cache_98 : decode b_M_cache 98 = .ok (.iadd, 1) := by decide +kernel
theorem d_M_cache_99 : decode b_M_cache 99 = .ok (.sipush 2000, 3) := by decide +kernel
theorem d_M_cache_102 : decode b_M_cache 102 = .ok (.invokestatic 143, 3) := by decide +kernel
theorem d_M_cache_105 : decode b_M_cache 105 = .ok (.iastore, 1) := by decide +kernel
theorem d_M_cache_106 : decode b_M_cache 106 = .ok (.aload_n 0, 1) := by decide +kernel
theorem d_M_cache_107 : decode b_M_cache 107 = .ok (.getfield 84, 3) := by decide +kernel
theorem d_M_cache_110 : decode b_M_cache 110 = .ok (.iload_n 1, 1) := by decide +kernel
theorem d_M_cache_111 : decode b_M_cache 111 = .ok (.iaload, 1) := by decide +kernel
theorem d_M_cache_112 : decode b_M_cache 112 = .ok (.iload 4, 2) := by decide +kernel
theorem d_M_cache_114 : decode b_M_cache 114 = .ok (.imul, 1) := by decide +kernel
theorem d_M_cache_115 : decode b_M_cache 115 = .ok (.aload_n 0, 1) := by decide +kernel
theorem d_M_cache_116 : decode b_M_cache 116 = .ok (.getfield 87, 3) := by decide +kernel
theorem d_M_cache_119 : decode b_M_cache 119 = .ok (.iload_n 1, 1) := by decide +kernel
theorem d_M_cache_120 : decode b_M_cache 120 = .ok (.iaload, 1) := by decide +kernel
theorem d_M_cache_121 : decode b_M_cache 121 = .ok (.aload_n 0, 1) := by decide +kernel
theorem d_M_cache_122 : decode b_M_cache 122 = .ok (.getfield 90, 3) := by decide +kernel
theorem d_M_cache_125 : decode b_M_cache 125 = .ok (.iload_n 1, 1) := by decide +kernel
theorem d_M_cache_126 : decode b_M_cache 126 = .ok (.iaload, 1) := by decide +kernel
theorem d_M_cache_127 : decode b_M_cache 127 = .ok (.imul, 1) := by decide +kernel
theorem d_M_cache_128 : decode b_M_cache 128 = .ok (.iadd, 1) := by decide +kernel
theorem d_M_cache_129 : decode b_M_cache 129 = .ok (.istore 5, 2) := by decide +kernel
theorem d_M_cache_131 : decode b_M_cache 131 = .ok (.iload 5, 2) := by decide +kernel
theorem d_M_cache_133 : decode b_M_cache 133 = .ok (.iconst 4, 1) := by decide +kernel
theorem d_M_cache_134 : decode b_M_cache 134 = .ok (.ishr, 1) := by decide +kernel
theorem d_M_cache_135 : decode b_M_cache 135 = .ok (.sipush 500, 3) := by decide +kernel
theorem d_M_cache_138 : decode b_M_cache 138 = .ok (.invokestatic 143, 3) := by decide +kernel
theorem d_M_cache_141 : decode b_M_cache 141 = .ok (.istore 6, 2) := by decide +kernel
theorem d_M_cache_143 : decode b_M_cache 143 = .ok (.aload_n 0, 1) := by decide +kernel
theorem d_M_cache_144 : decode b_M_cache 144 = .ok (.getfield 51, 3) := by decide +kernel
theorem d_M_cache_147 : decode b_M_cache 147 = .ok (.bipush 6, 2) := by decide +kernel
theorem d_M_cache_149 : decode b_M_cache 149 = .ok (.iaload, 1) := by decide +kernel
theorem d_M_cache_150 : decode b_M_cache 150 = .ok (.iconst 4, 1) := by decide +kernel
theorem d_M_cache_151 : decode b_M_cache 151 = .ok (.if_icmp .ge 13, 3) := by decide +kernel
theorem d_M_cache_154 : decode b_M_cache 154 = .ok (.aload_n 0, 1) := by decide +kernel
theorem d_M_cache_155 : decode b_M_cache 155 = .ok (.bipush 6, 2) := by decide +kernel
theorem d_M_cache_157 : decode b_M_cache 157 = .ok (.iload_n 1, 1) := by decide +kernel
theorem d_M_cache_158 : decode b_M_cache 158 = .ok (.iload_n 2, 1) := by decide +kernel
theorem d_M_cache_159 : decode b_M_cache 159 = .ok (.iload 6, 2) := by decide +kernel
theorem d_M_cache_161 : decode b_M_cache 161 = .ok (.invokevirtual 139, 3) := by decide +kernel
theorem d_M_cache_164 : decode b_M_cache 164 = .ok (.return_, 1) := by decide +kernel
theorem d_M_bit_0 : decode b_M_bit 0 = .ok (.lload_n 0, 1) := by decide +kernel
theorem d_M_bit_1 : decode b_M_bit 1 = .ok (.iload_n 2, 1) := by decide +kernel
theorem d_M_bit_2 : decode b_M_bit 2 = .ok (.bipush 64, 2) := by decide +kernel
theorem d_M_bit_4 : decode b_M_bit 4 = .ok (.irem, 1) := by decide +kernel
theorem d_M_bit_5 : decode b_M_bit 5 = .ok (.lshr, 1) := by decide +kernel
theorem d_M_bit_6 : decode b_M_bit 6 = .ok (.lconst 1, 1) := by decide +kernel
theorem d_M_bit_7 : decode b_M_bit 7 = .ok (.land, 1) := by decide +kernel
theorem d_M_bit_8 : decode b_M_bit 8 = .ok (.lconst 1, 1) := by decide +kernel
theorem d_M_bit_9 : decode b_M_bit 9 = .ok (.lcmp, 1) := by decide +kernel
theorem d_M_bit_10 : decode b_M_bit 10 = .ok (.ifCond .ne 7, 3) := by decide +kernel
theorem d_M_bit_13 : decode b_M_bit 13 = .ok (.iconst 1, 1) := by decide +kernel
theorem d_M_bit_14 : decode b_M_bit 14 = .ok (.goto 4, 3) := by decide +kernel
theorem d_M_bit_17 : decode b_M_bit 17 = .ok (.iconst 0, 1) := by decide +kernel
theorem d_M_bit_18 : decode b_M_bit 18 = .ok (.ireturn, 1) := by decide +kernel
theorem d_M_close_0 : decode b_M_close 0 = .ok (.aload_n 0, 1) := by decide +kernel
theorem d_M_close_1 : decode b_M_close 1 = .ok (.getfield 19, 3) := by decide +kernel
theorem d_M_close_4 : decode b_M_close 4 = .ok (.iload_n 1, 1) := by decide +kernel
theorem d_M_close_5 : decode b_M_close 5 = .ok (.iaload, 1) := by decide +kernel
theorem d_M_close_6 : decode b_M_close 6 = .ok (.aload_n 0, 1) := by decide +kernel
theorem d_M_close_7 : decode b_M_close 7 = .ok (.getfield 19, 3) := by decide +kernel
theorem d_M_close_10 : decode b_M_close 10 = .ok (.iload_n 2, 1) := by decide +kernel
theorem d_M_close_11 : decode b_M_close 11 = .ok (.iaload, 1) := by decide +kernel
theorem d_M_close_12 : decode b_M_close 12 = .ok (.isub, 1) := by decide +kernel
theorem d_M_close_13 : decode b_M_close 13 = .ok (.istore_n 3, 1) := by decide +kernel
theorem d_M_close_14 : decode b_M_close 14 = .ok (.iload_n 3, 1) := by decide +kernel
theorem d_M_close_15 : decode b_M_close 15 = .ok (.bipush (-10), 2) := by decide +kernel
theorem d_M_close_17 : decode b_M_close 17 = .ok (.if_icmp .lt 13, 3) := by decide +kernel
theorem d_M_close_20 : decode b_M_close 20 = .ok (.iload_n 3, 1) := by decide +kernel
theorem d_M_close_21 : decode b_M_close 21 = .ok (.bipush 10, 2) := by decide +kernel
theorem d_M_close_23 : decode b_M_close 23 = .ok (.if_icmp .gt 7, 3) := by decide +kernel
theorem d_M_close_26 : decode b_M_close 26 = .ok (.iconst 1, 1) := by decide +kernel
theorem d_M_close_27 : decode b_M_close 27 = .ok (.goto 4, 3) := by decide +kernel
theorem d_M_close_30 : decode b_M_close 30 = .ok (.iconst 0, 1) := by decide +kernel
theorem d_M_close_31 : decode b_M_close 31 = .ok (.ireturn, 1) := by decide +kernel
theorem d_M_advert_0 : decode b_M_advert 0 = .ok (.aload_n 0, 1) := by decide +kernel
theorem d_M_advert_1 : decode b_M_advert 1 = .ok (.getfield 16, 3) := by decide +kernel
theorem d_M_advert_4 : decode b_M_advert 4 = .ok (.iload_n 1, 1) := by decide +kernel
theorem d_M_advert_5 : decode b_M_advert 5 = .ok (.baload, 1) := by decide +kernel
theorem d_M_advert_6 : decode b_M_advert 6 = .ok (.ifCond .eq 27, 3) := by decide +kernel
theorem d_M_advert_9 : decode b_M_advert 9 = .ok (.aload_n 0, 1) := by decide +kernel
theorem d_M_advert_10 : decode b_M_advert 10 = .ok (.getfield 26, 3) := by decide +kernel
theorem d_M_advert_13 : decode b_M_advert 13 = .ok (.aload_n 0, 1) := by decide +kernel
theorem d_M_advert_14 : decode b_M_advert 14 = .ok (.getfield 147, 3) := by decide +kernel
theorem d_M_advert_17 : decode b_M_advert 17 = .ok (.aload_n 0, 1) := by decide +kernel
theorem d_M_advert_18 : decode b_M_advert 18 = .ok (.getfield 103, 3) := by decide +kernel
theorem d_M_advert_21 : decode b_M_advert 21 = .ok (.irem, 1) := by decide +kernel
theorem d_M_advert_22 : decode b_M_advert 22 = .ok (.laload, 1) := by decide +kernel
theorem d_M_advert_23 : decode b_M_advert 23 = .ok (.aload_n 0, 1) := by decide +kernel
theorem d_M_advert_24 : decode b_M_advert 24 = .ok (.getfield 147, 3) := by decide +kernel
theorem d_M_advert_27 : decode b_M_advert 27 = .ok (.invokestatic 150, 3) := by decide +kernel
theorem d_M_advert_30 : decode b_M_advert 30 = .ok (.ifCond .ne 4, 3) := by decide +kernel
theorem d_M_advert_33 : decode b_M_advert 33 = .ok (.return_, 1) := by decide +kernel
theorem d_M_advert_34 : decode b_M_advert 34 = .ok (.iconst 1, 1) := by decide +kernel
theorem d_M_advert_35 : decode b_M_advert 35 = .ok (.istore_n 2, 1) := by decide +kernel
theorem d_M_advert_36 : decode b_M_advert 36 = .ok (.iload_n 2, 1) := by decide +kernel
theorem d_M_advert_37 : decode b_M_advert 37 = .ok (.aload_n 0, 1) := by decide +kernel
theorem d_M_advert_38 : decode b_M_advert 38 = .ok (.getfield 96, 3) := by decide +kernel
theorem d_M_advert_41 : decode b_M_advert 41 = .ok (.if_icmp .ge 106, 3) := by decide +kernel
theorem d_M_advert_44 : decode b_M_advert 44 = .ok (.aload_n 0, 1) := by decide +kernel
theorem d_M_advert_45 : decode b_M_advert 45 = .ok (.getfield 7, 3) := by decide +kernel
theorem d_M_advert_48 : decode b_M_advert 48 = .ok (.bipush 6, 2) := by decide +kernel
theorem d_M_advert_50 : decode b_M_advert 50 = .ok (.iload_n 1, 1) := by decide +kernel
theorem d_M_advert_51 : decode b_M_advert 51 = .ok (.imul, 1) := by decide +kernel
theorem d_M_advert_52 : decode b_M_advert 52 = .ok (.iload_n 2, 1) := by decide +kernel
theorem d_M_advert_53 : decode b_M_advert 53 = .ok (.iadd, 1) := by decide +kernel
theorem d_M_advert_54 : decode b_M_advert 54 = .ok (.baload, 1) := by decide +kernel
theorem d_M_advert_55 : decode b_M_advert 55 = .ok (.ifCond .eq 86, 3) := by decide +kernel
theorem d_M_advert_58 : decode b_M_advert 58 = .ok (.aload_n 0, 1) := by decide +kernel
theorem d_M_advert_59 : decode b_M_advert 59 = .ok (.getfield 13, 3) := by decide +kernel
theorem d_M_advert_62 : decode b_M_advert 62 = .ok (.iload_n 2, 1) := by decide +kernel
theorem d_M_advert_63 : decode b_M_advert 63 = .ok (.baload, 1) := by decide +kernel
theorem d_M_advert_64 : decode b_M_advert 64 = .ok (.ifCond .ne 6, 3) := by decide +kernel
theorem d_M_advert_67 : decode b_M_advert 67 = .ok (.goto 74, 3) := by decide +kernel
theorem d_M_advert_70 : decode b_M_advert 70 = .ok (.aload_n 0, 1) := by decide +kernel
theorem d_M_advert_71 : decode b_M_advert 71 = .ok (.getfield 16, 3) := by decide +kernel
theorem d_M_advert_74 : decode b_M_advert 74 = .ok (.iload_n 2, 1) := by decide +kernel
theorem d_M_advert_75 : decode b_M_advert 75 = .ok (.baload, 1) := by decide +kernel
theorem d_M_advert_76 : decode b_M_advert 76 = .ok (.ifCond .ne 32, 3) := by decide +kernel
theorem d_M_advert_79 : decode b_M_advert 79 = .ok (.aload_n 0, 1) := by decide +kernel
theorem d_M_advert_80 : decode b_M_advert 80 = .ok (.getfield 16, 3) := by decide +kernel
theorem d_M_advert_83 : decode b_M_advert 83 = .ok (.iload_n 2, 1) := by decide +kernel
theorem d_M_advert_84 : decode b_M_advert 84 = .ok (.iconst 1, 1) := by decide +kernel
theorem d_M_advert_85 : decode b_M_advert 85 = .ok (.bastore, 1) := by decide +kernel
theorem d_M_advert_86 : decode b_M_advert 86 = .ok (.aload_n 0, 1) := by decide +kernel
theorem d_M_advert_87 : decode b_M_advert 87 = .ok (.getfield 19, 3) := by decide +kernel
theorem d_M_advert_90 : decode b_M_advert 90 = .ok (.iload_n 2, 1) := by decide +kernel
theorem d_M_advert_91 : decode b_M_advert 91 = .ok (.aload_n 0, 1) := by decide +kernel
theorem d_M_advert_92 : decode b_M_advert 92 = .ok (.getfield 19, 3) := by decide +kernel
theorem d_M_advert_95 : decode b_M_advert 95 = .ok (.iload_n 1, 1) := by decide +kernel
theorem d_M_advert_96 : decode b_M_advert 96 = .ok (.iaload, 1) := by decide +kernel
theorem d_M_advert_97 : decode b_M_advert 97 = .ok (.iastore, 1) := by decide +kernel
theorem d_M_advert_98 : decode b_M_advert 98 = .ok (.aload_n 0, 1) := by decide +kernel
theorem d_M_advert_99 : decode b_M_advert 99 = .ok (.getfield 63, 3) := by decide +kernel
theorem d_M_advert_102 : decode b_M_advert 102 = .ok (.iload_n 2, 1) := by decide +kernel
theorem d_M_advert_103 : decode b_M_advert 103 = .ok (.iconst 0, 1) := by decide +kernel
theorem d_M_advert_104 : decode b_M_advert 104 = .ok (.iastore, 1) := by decide +kernel
theorem d_M_advert_105 : decode b_M_advert 105 = .ok (.goto 36, 3) := by decide +kernel
theorem d_M_advert_108 : decode b_M_advert 108 = .ok (.aload_n 0, 1) := by decide +kernel
theorem d_M_advert_109 : decode b_M_advert 109 = .ok (.getfield 36, 3) := by decide +kernel
theorem d_M_advert_112 : decode b_M_advert 112 = .ok (.iconst 2, 1) := by decide +kernel
theorem d_M_advert_113 : decode b_M_advert 113 = .ok (.iload_n 2, 1) := by decide +kernel
theorem d_M_advert_114 : decode b_M_advert 114 = .ok (.imul, 1) := by decide +kernel
theorem d_M_advert_115 : decode b_M_advert 115 = .ok (.iaload, 1) := by decide +kernel
theorem d_M_advert_116 : decode b_M_advert 116 = .ok (.iload_n 1, 1) := by decide +kernel
theorem d_M_advert_117 : decode b_M_advert 117 = .ok (.if_icmp .ne 24, 3) := by decide +kernel
theorem d_M_advert_120 : decode b_M_advert 120 = .ok (.aload_n 0, 1) := by decide +kernel
theorem d_M_advert_121 : decode b_M_advert 121 = .ok (.iload_n 1, 1) := by decide +kernel
theorem d_M_advert_122 : decode b_M_advert 122 = .ok (.iload_n 2, 1) := by decide +kernel
theorem d_M_advert_123 : decode b_M_advert 123 = .ok (.invokevirtual 154, 3) := by decide +kernel
theorem d_M_advert_126 : decode b_M_advert 126 = .ok (.ifCond .eq 15, 3) := by decide +kernel
theorem d_M_advert_129 : decode b_M_advert 129 = .ok (.aload_n 0, 1) := by decide +kernel
theorem d_M_advert_130 : decode b_M_advert 130 = .ok (.getfield 19, 3) := by decide +kernel
theorem d_M_advert_133 : decode b_M_advert 133 = .ok (.iload_n 2, 1) := by decide +kernel
theorem d_M_advert_134 : decode b_M_advert 134 = .ok (.aload_n 0, 1) := by decide +kernel
theorem d_M_advert_135 : decode b_M_advert 135 = .ok (.getfield 19, 3) := by decide +kernel
theorem d_M_advert_138 : decode b_M_advert 138 = .ok (.iload_n 1, 1) := by decide +kernel
theorem d_M_advert_139 : decode b_M_advert 139 = .ok (.iaload, 1) := by decide +kernel
theorem d_M_advert_140 : decode b_M_advert 140 = .ok (.iastore, 1) := by decide +kernel
theorem d_M_advert_141 : decode b_M_advert 141 = .ok (.iinc 2 1, 3) := by decide +kernel
theorem d_M_advert_144 : decode b_M_advert 144 = .ok (.goto (-108), 3) := by decide +kernel
theorem d_M_advert_147 : decode b_M_advert 147 = .ok (.return_, 1) := by decide +kernel
theorem d_M_hears_0 : decode b_M_hears 0 = .ok (.aload_n 0, 1) := by decide +kernel
theorem d_M_hears_1 : decode b_M_hears 1 = .ok (.getfield 16, 3) := by decide +kernel
theorem d_M_hears_4 : decode b_M_hears 4 = .ok (.iload_n 2, 1) := by decide +kernel
theorem d_M_hears_5 : decode b_M_hears 5 = .ok (.baload, 1) := by decide +kernel
theorem d_M_hears_6 : decode b_M_hears 6 = .ok (.ifCond .eq 46, 3) := by decide +kernel
theorem d_M_hears_9 : decode b_M_hears 9 = .ok (.aload_n 0, 1) := by decide +kernel
theorem d_M_hears_10 : decode b_M_hears 10 = .ok (.getfield 7, 3) := by decide +kernel
theorem d_M_hears_13 : decode b_M_hears 13 = .ok (.bipush 6, 2) := by decide +kernel
theorem d_M_hears_15 : decode b_M_hears 15 = .ok (.iload_n 1, 1) := by decide +kernel
theorem d_M_hears_16 : decode b_M_hears 16 = .ok (.imul, 1) := by decide +kernel
theorem d_M_hears_17 : decode b_M_hears 17 = .ok (.iload_n 2, 1) := by decide +kernel
theorem d_M_hears_18 : decode b_M_hears 18 = .ok (.iadd, 1) := by decide +kernel
theorem d_M_hears_19 : decode b_M_hears 19 = .ok (.baload, 1) := by decide +kernel
end
section
theorem d_M_hears_20 : decode b_M_hears 20 = .ok (.ifCond .eq 32, 3) := by decide +kernel
theorem d_M_hears_23 : decode b_M_hears 23 = .ok (.aload_n 0, 1) := by decide +kernel
theorem d_M_hears_24 : decode b_M_hears 24 = .ok (.iload_n 1, 1) := by decide +kernel
theorem d_M_hears_25 : decode b_M_hears 25 = .ok (.iload_n 2, 1) := by decide +kernel
theorem d_M_hears_26 : decode b_M_hears 26 = .ok (.invokevirtual 154, 3) := by decide +kernel
theorem d_M_hears_29 : decode b_M_hears 29 = .ok (.ifCond .eq 23, 3) := by decide +kernel
theorem d_M_hears_32 : decode b_M_hears 32 = .ok (.aload_n 0, 1) := by decide +kernel
theorem d_M_hears_33 : decode b_M_hears 33 = .ok (.getfield 26, 3) := by decide +kernel
theorem d_M_hears_36 : decode b_M_hears 36 = .ok (.iload_n 3, 1) := by decide +kernel
theorem d_M_hears_37 : decode b_M_hears 37 = .ok (.laload, 1) := by decide +kernel
theorem d_M_hears_38 : decode b_M_hears 38 = .ok (.aload_n 0, 1) := by decide +kernel
theorem d_M_hears_39 : decode b_M_hears 39 = .ok (.getfield 147, 3) := by decide +kernel
theorem d_M_hears_42 : decode b_M_hears 42 = .ok (.invokestatic 150, 3) := by decide +kernel
theorem d_M_hears_45 : decode b_M_hears 45 = .ok (.ifCond .eq 7, 3) := by decide +kernel
theorem d_M_hears_48 : decode b_M_hears 48 = .ok (.iconst 1, 1) := by decide +kernel
theorem d_M_hears_49 : decode b_M_hears 49 = .ok (.goto 4, 3) := by decide +kernel
theorem d_M_hears_52 : decode b_M_hears 52 = .ok (.iconst 0, 1) := by decide +kernel
theorem d_M_hears_53 : decode b_M_hears 53 = .ok (.ireturn, 1) := by decide +kernel
theorem d_M_up_0 : decode b_M_up 0 = .ok (.aload_n 0, 1) := by decide +kernel
theorem d_M_up_1 : decode b_M_up 1 = .ok (.getfield 16, 3) := by decide +kernel
theorem d_M_up_4 : decode b_M_up 4 = .ok (.iload_n 1, 1) := by decide +kernel
theorem d_M_up_5 : decode b_M_up 5 = .ok (.baload, 1) := by decide +kernel
theorem d_M_up_6 : decode b_M_up 6 = .ok (.ifCond .eq 12, 3) := by decide +kernel
theorem d_M_up_9 : decode b_M_up 9 = .ok (.aload_n 0, 1) := by decide +kernel
theorem d_M_up_10 : decode b_M_up 10 = .ok (.getfield 51, 3) := by decide +kernel
theorem d_M_up_13 : decode b_M_up 13 = .ok (.iload_n 1, 1) := by decide +kernel
theorem d_M_up_14 : decode b_M_up 14 = .ok (.iaload, 1) := by decide +kernel
theorem d_M_up_15 : decode b_M_up 15 = .ok (.ifCond .ne 4, 3) := by decide +kernel
theorem d_M_up_18 : decode b_M_up 18 = .ok (.return_, 1) := by decide +kernel
theorem d_M_up_19 : decode b_M_up 19 = .ok (.iconst 4, 1) := by decide +kernel
theorem d_M_up_20 : decode b_M_up 20 = .ok (.iload_n 1, 1) := by decide +kernel
theorem d_M_up_21 : decode b_M_up 21 = .ok (.imul, 1) := by decide +kernel
theorem d_M_up_22 : decode b_M_up 22 = .ok (.istore 4, 2) := by decide +kernel
theorem d_M_up_24 : decode b_M_up 24 = .ok (.aload_n 0, 1) := by decide +kernel
theorem d_M_up_25 : decode b_M_up 25 = .ok (.dup, 1) := by decide +kernel
theorem d_M_up_26 : decode b_M_up 26 = .ok (.getfield 158, 3) := by decide +kernel
theorem d_M_up_29 : decode b_M_up 29 = .ok (.iconst 1, 1) := by decide +kernel
theorem d_M_up_30 : decode b_M_up 30 = .ok (.iadd, 1) := by decide +kernel
theorem d_M_up_31 : decode b_M_up 31 = .ok (.putfield 158, 3) := by decide +kernel
theorem d_M_up_34 : decode b_M_up 34 = .ok (.iconst 0, 1) := by decide +kernel
theorem d_M_up_35 : decode b_M_up 35 = .ok (.istore 5, 2) := by decide +kernel
theorem d_M_up_37 : decode b_M_up 37 = .ok (.aload_n 0, 1) := by decide +kernel
theorem d_M_up_38 : decode b_M_up 38 = .ok (.iload_n 1, 1) := by decide +kernel
theorem d_M_up_39 : decode b_M_up 39 = .ok (.iload_n 2, 1) := by decide +kernel
theorem d_M_up_40 : decode b_M_up 40 = .ok (.iload_n 3, 1) := by decide +kernel
theorem d_M_up_41 : decode b_M_up 41 = .ok (.invokevirtual 161, 3) := by decide +kernel
theorem d_M_up_44 : decode b_M_up 44 = .ok (.ifCond .eq 135, 3) := by decide +kernel
theorem d_M_up_47 : decode b_M_up 47 = .ok (.bipush 6, 2) := by decide +kernel
theorem d_M_up_49 : decode b_M_up 49 = .ok (.iload_n 2, 1) := by decide +kernel
theorem d_M_up_50 : decode b_M_up 50 = .ok (.imul, 1) := by decide +kernel
theorem d_M_up_51 : decode b_M_up 51 = .ok (.aload_n 0, 1) := by decide +kernel
theorem d_M_up_52 : decode b_M_up 52 = .ok (.getfield 54, 3) := by decide +kernel
theorem d_M_up_55 : decode b_M_up 55 = .ok (.iload 4, 2) := by decide +kernel
theorem d_M_up_57 : decode b_M_up 57 = .ok (.iaload, 1) := by decide +kernel
theorem d_M_up_58 : decode b_M_up 58 = .ok (.iadd, 1) := by decide +kernel
theorem d_M_up_59 : decode b_M_up 59 = .ok (.istore 6, 2) := by decide +kernel
theorem d_M_up_61 : decode b_M_up 61 = .ok (.aload_n 0, 1) := by decide +kernel
theorem d_M_up_62 : decode b_M_up 62 = .ok (.getfield 57, 3) := by decide +kernel
theorem d_M_up_65 : decode b_M_up 65 = .ok (.iload 4, 2) := by decide +kernel
theorem d_M_up_67 : decode b_M_up 67 = .ok (.iaload, 1) := by decide +kernel
theorem d_M_up_68 : decode b_M_up 68 = .ok (.aload_n 0, 1) := by decide +kernel
theorem d_M_up_69 : decode b_M_up 69 = .ok (.getfield 69, 3) := by decide +kernel
theorem d_M_up_72 : decode b_M_up 72 = .ok (.iload 6, 2) := by decide +kernel
theorem d_M_up_74 : decode b_M_up 74 = .ok (.iaload, 1) := by decide +kernel
theorem d_M_up_75 : decode b_M_up 75 = .ok (.if_icmp .gt 7, 3) := by decide +kernel
theorem d_M_up_78 : decode b_M_up 78 = .ok (.iconst 1, 1) := by decide +kernel
theorem d_M_up_79 : decode b_M_up 79 = .ok (.goto 4, 3) := by decide +kernel
theorem d_M_up_82 : decode b_M_up 82 = .ok (.iconst 0, 1) := by decide +kernel
theorem d_M_up_83 : decode b_M_up 83 = .ok (.istore 5, 2) := by decide +kernel
theorem d_M_up_85 : decode b_M_up 85 = .ok (.iload 5, 2) := by decide +kernel
theorem d_M_up_87 : decode b_M_up 87 = .ok (.ifCond .ne 92, 3) := by decide +kernel
theorem d_M_up_90 : decode b_M_up 90 = .ok (.iload_n 2, 1) := by decide +kernel
theorem d_M_up_91 : decode b_M_up 91 = .ok (.ifCond .eq 13, 3) := by decide +kernel
theorem d_M_up_94 : decode b_M_up 94 = .ok (.aload_n 0, 1) := by decide +kernel
theorem d_M_up_95 : decode b_M_up 95 = .ok (.getfield 51, 3) := by decide +kernel
theorem d_M_up_98 : decode b_M_up 98 = .ok (.iload_n 2, 1) := by decide +kernel
theorem d_M_up_99 : decode b_M_up 99 = .ok (.iaload, 1) := by decide +kernel
theorem d_M_up_100 : decode b_M_up 100 = .ok (.iconst 4, 1) := by decide +kernel
theorem d_M_up_101 : decode b_M_up 101 = .ok (.if_icmp .ge 78, 3) := by decide +kernel
theorem d_M_up_104 : decode b_M_up 104 = .ok (.iconst 1, 1) := by decide +kernel
theorem d_M_up_105 : decode b_M_up 105 = .ok (.istore 5, 2) := by decide +kernel
theorem d_M_up_107 : decode b_M_up 107 = .ok (.aload_n 0, 1) := by decide +kernel
theorem d_M_up_108 : decode b_M_up 108 = .ok (.getfield 69, 3) := by decide +kernel
theorem d_M_up_111 : decode b_M_up 111 = .ok (.iload 6, 2) := by decide +kernel
theorem d_M_up_113 : decode b_M_up 113 = .ok (.aload_n 0, 1) := by decide +kernel
theorem d_M_up_114 : decode b_M_up 114 = .ok (.getfield 57, 3) := by decide +kernel
theorem d_M_up_117 : decode b_M_up 117 = .ok (.iload 4, 2) := by decide +kernel
theorem d_M_up_119 : decode b_M_up 119 = .ok (.iaload, 1) := by decide +kernel
theorem d_M_up_120 : decode b_M_up 120 = .ok (.iastore, 1) := by decide +kernel
theorem d_M_up_121 : decode b_M_up 121 = .ok (.iload_n 2, 1) := by decide +kernel
theorem d_M_up_122 : decode b_M_up 122 = .ok (.ifCond .ne 31, 3) := by decide +kernel
theorem d_M_up_125 : decode b_M_up 125 = .ok (.aload_n 0, 1) := by decide +kernel
theorem d_M_up_126 : decode b_M_up 126 = .ok (.aload_n 0, 1) := by decide +kernel
theorem d_M_up_127 : decode b_M_up 127 = .ok (.getfield 54, 3) := by decide +kernel
theorem d_M_up_130 : decode b_M_up 130 = .ok (.iload 4, 2) := by decide +kernel
theorem d_M_up_132 : decode b_M_up 132 = .ok (.iaload, 1) := by decide +kernel
theorem d_M_up_133 : decode b_M_up 133 = .ok (.aload_n 0, 1) := by decide +kernel
theorem d_M_up_134 : decode b_M_up 134 = .ok (.getfield 57, 3) := by decide +kernel
theorem d_M_up_137 : decode b_M_up 137 = .ok (.iload 4, 2) := by decide +kernel
theorem d_M_up_139 : decode b_M_up 139 = .ok (.iaload, 1) := by decide +kernel
theorem d_M_up_140 : decode b_M_up 140 = .ok (.aload_n 0, 1) := by decide +kernel
theorem d_M_up_141 : decode b_M_up 141 = .ok (.getfield 60, 3) := by decide +kernel
theorem d_M_up_144 : decode b_M_up 144 = .ok (.iload 4, 2) := by decide +kernel
theorem d_M_up_146 : decode b_M_up 146 = .ok (.iaload, 1) := by decide +kernel
theorem d_M_up_147 : decode b_M_up 147 = .ok (.invokevirtual 165, 3) := by decide +kernel
theorem d_M_up_150 : decode b_M_up 150 = .ok (.goto 29, 3) := by decide +kernel
theorem d_M_up_153 : decode b_M_up 153 = .ok (.aload_n 0, 1) := by decide +kernel
theorem d_M_up_154 : decode b_M_up 154 = .ok (.iload_n 2, 1) := by decide +kernel
theorem d_M_up_155 : decode b_M_up 155 = .ok (.aload_n 0, 1) := by decide +kernel
theorem d_M_up_156 : decode b_M_up 156 = .ok (.getfield 54, 3) := by decide +kernel
theorem d_M_up_159 : decode b_M_up 159 = .ok (.iload 4, 2) := by decide +kernel
theorem d_M_up_161 : decode b_M_up 161 = .ok (.iaload, 1) := by decide +kernel
theorem d_M_up_162 : decode b_M_up 162 = .ok (.aload_n 0, 1) := by decide +kernel
theorem d_M_up_163 : decode b_M_up 163 = .ok (.getfield 57, 3) := by decide +kernel
theorem d_M_up_166 : decode b_M_up 166 = .ok (.iload 4, 2) := by decide +kernel
theorem d_M_up_168 : decode b_M_up 168 = .ok (.iaload, 1) := by decide +kernel
theorem d_M_up_169 : decode b_M_up 169 = .ok (.aload_n 0, 1) := by decide +kernel
theorem d_M_up_170 : decode b_M_up 170 = .ok (.getfield 60, 3) := by decide +kernel
theorem d_M_up_173 : decode b_M_up 173 = .ok (.iload 4, 2) := by decide +kernel
theorem d_M_up_175 : decode b_M_up 175 = .ok (.iaload, 1) := by decide +kernel
theorem d_M_up_176 : decode b_M_up 176 = .ok (.invokevirtual 139, 3) := by decide +kernel
theorem d_M_up_179 : decode b_M_up 179 = .ok (.iload 5, 2) := by decide +kernel
theorem d_M_up_181 : decode b_M_up 181 = .ok (.ifCond .eq 65, 3) := by decide +kernel
theorem d_M_up_184 : decode b_M_up 184 = .ok (.aload_n 0, 1) := by decide +kernel
theorem d_M_up_185 : decode b_M_up 185 = .ok (.getfield 30, 3) := by decide +kernel
theorem d_M_up_188 : decode b_M_up 188 = .ok (.iload_n 3, 1) := by decide +kernel
theorem d_M_up_189 : decode b_M_up 189 = .ok (.laload, 1) := by decide +kernel
theorem d_M_up_190 : decode b_M_up 190 = .ok (.aload_n 0, 1) := by decide +kernel
theorem d_M_up_191 : decode b_M_up 191 = .ok (.getfield 147, 3) := by decide +kernel
theorem d_M_up_194 : decode b_M_up 194 = .ok (.invokestatic 150, 3) := by decide +kernel
theorem d_M_up_197 : decode b_M_up 197 = .ok (.ifCond .eq 49, 3) := by decide +kernel
theorem d_M_up_200 : decode b_M_up 200 = .ok (.aload_n 0, 1) := by decide +kernel
theorem d_M_up_201 : decode b_M_up 201 = .ok (.iload_n 1, 1) := by decide +kernel
theorem d_M_up_202 : decode b_M_up 202 = .ok (.invokevirtual 169, 3) := by decide +kernel
theorem d_M_up_205 : decode b_M_up 205 = .ok (.aload_n 0, 1) := by decide +kernel
theorem d_M_up_206 : decode b_M_up 206 = .ok (.getfield 63, 3) := by decide +kernel
theorem d_M_up_209 : decode b_M_up 209 = .ok (.iload_n 1, 1) := by decide +kernel
theorem d_M_up_210 : decode b_M_up 210 = .ok (.iconst 0, 1) := by decide +kernel
theorem d_M_up_211 : decode b_M_up 211 = .ok (.iastore, 1) := by decide +kernel
theorem d_M_up_212 : decode b_M_up 212 = .ok (.aload_n 0, 1) := by decide +kernel
theorem d_M_up_213 : decode b_M_up 213 = .ok (.getfield 19, 3) := by decide +kernel
theorem d_M_up_216 : decode b_M_up 216 = .ok (.iload_n 1, 1) := by decide +kernel
theorem d_M_up_217 : decode b_M_up 217 = .ok (.aload_n 0, 1) := by decide +kernel
theorem d_M_up_218 : decode b_M_up 218 = .ok (.getfield 36, 3) := by decide +kernel
theorem d_M_up_221 : decode b_M_up 221 = .ok (.iconst 2, 1) := by decide +kernel
theorem d_M_up_222 : decode b_M_up 222 = .ok (.iload_n 1, 1) := by decide +kernel
theorem d_M_up_223 : decode b_M_up 223 = .ok (.imul, 1) := by decide +kernel
theorem d_M_up_224 : decode b_M_up 224 = .ok (.iaload, 1) := by decide +kernel
theorem d_M_up_225 : decode b_M_up 225 = .ok (.iload_n 2, 1) := by decide +kernel
theorem d_M_up_226 : decode b_M_up 226 = .ok (.if_icmp .ne 12, 3) := by decide +kernel
theorem d_M_up_229 : decode b_M_up 229 = .ok (.aload_n 0, 1) := by decide +kernel
theorem d_M_up_230 : decode b_M_up 230 = .ok (.getfield 19, 3) := by decide +kernel
theorem d_M_up_233 : decode b_M_up 233 = .ok (.iload_n 2, 1) := by decide +kernel
theorem d_M_up_234 : decode b_M_up 234 = .ok (.iaload, 1) := by decide +kernel
theorem d_M_up_235 : decode b_M_up 235 = .ok (.goto 9, 3) := by decide +kernel
theorem d_M_up_238 : decode b_M_up 238 = .ok (.aload_n 0, 1) := by decide +kernel
theorem d_M_up_239 : decode b_M_up 239 = .ok (.getfield 19, 3) := by decide +kernel
theorem d_M_up_242 : decode b_M_up 242 = .ok (.iload_n 1, 1) := by decide +kernel
theorem d_M_up_243 : decode b_M_up 243 = .ok (.iaload, 1) := by decide +kernel
theorem d_M_up_244 : decode b_M_up 244 = .ok (.iastore, 1) := by decide +kernel
theorem d_M_up_245 : decode b_M_up 245 = .ok (.return_, 1) := by decide +kernel
theorem d_M_up_246 : decode b_M_up 246 = .ok (.aload_n 0, 1) := by decide +kernel
theorem d_M_up_247 : decode b_M_up 247 = .ok (.getfield 63, 3) := by decide +kernel
theorem d_M_up_250 : decode b_M_up 250 = .ok (.iload_n 1, 1) := by decide +kernel
theorem d_M_up_251 : decode b_M_up 251 = .ok (.dup2, 1) := by decide +kernel
theorem d_M_up_252 : decode b_M_up 252 = .ok (.iaload, 1) := by decide +kernel
theorem d_M_up_253 : decode b_M_up 253 = .ok (.iconst 1, 1) := by decide +kernel
theorem d_M_up_254 : decode b_M_up 254 = .ok (.iadd, 1) := by decide +kernel
theorem d_M_up_255 : decode b_M_up 255 = .ok (.iastore, 1) := by decide +kernel
theorem d_M_up_256 : decode b_M_up 256 = .ok (.aload_n 0, 1) := by decide +kernel
theorem d_M_up_257 : decode b_M_up 257 = .ok (.getfield 63, 3) := by decide +kernel
theorem d_M_up_260 : decode b_M_up 260 = .ok (.iload_n 1, 1) := by decide +kernel
theorem d_M_up_261 : decode b_M_up 261 = .ok (.iaload, 1) := by decide +kernel
theorem d_M_up_262 : decode b_M_up 262 = .ok (.iconst 4, 1) := by decide +kernel
theorem d_M_up_263 : decode b_M_up 263 = .ok (.if_icmp .ne 17, 3) := by decide +kernel
theorem d_M_up_266 : decode b_M_up 266 = .ok (.aload_n 0, 1) := by decide +kernel
theorem d_M_up_267 : decode b_M_up 267 = .ok (.getfield 63, 3) := by decide +kernel
theorem d_M_up_270 : decode b_M_up 270 = .ok (.iload_n 1, 1) := by decide +kernel
theorem d_M_up_271 : decode b_M_up 271 = .ok (.iconst 0, 1) := by decide +kernel
theorem d_M_up_272 : decode b_M_up 272 = .ok (.iastore, 1) := by decide +kernel
theorem d_M_up_273 : decode b_M_up 273 = .ok (.aload_n 0, 1) := by decide +kernel
theorem d_M_up_274 : decode b_M_up 274 = .ok (.getfield 16, 3) := by decide +kernel
theorem d_M_up_277 : decode b_M_up 277 = .ok (.iload_n 1, 1) := by decide +kernel
theorem d_M_up_278 : decode b_M_up 278 = .ok (.iconst 0, 1) := by decide +kernel
theorem d_M_up_279 : decode b_M_up 279 = .ok (.bastore, 1) := by decide +kernel
theorem d_M_up_280 : decode b_M_up 280 = .ok (.return_, 1) := by decide +kernel
theorem d_M_below_0 : decode b_M_below 0 = .ok (.iload_n 1, 1) := by decide +kernel
theorem d_M_below_1 : decode b_M_below 1 = .ok (.istore_n 3, 1) := by decide +kernel
theorem d_M_below_2 : decode b_M_below 2 = .ok (.iconst 0, 1) := by decide +kernel
theorem d_M_below_3 : decode b_M_below 3 = .ok (.istore 4, 2) := by decide +kernel
theorem d_M_below_5 : decode b_M_below 5 = .ok (.iload 4, 2) := by decide +kernel
theorem d_M_below_7 : decode b_M_below 7 = .ok (.bipush 6, 2) := by decide +kernel
theorem d_M_below_9 : decode b_M_below 9 = .ok (.if_icmp .ge 27, 3) := by decide +kernel
theorem d_M_below_12 : decode b_M_below 12 = .ok (.iload_n 3, 1) := by decide +kernel
theorem d_M_below_13 : decode b_M_below 13 = .ok (.ifCond .le 23, 3) := by decide +kernel
theorem d_M_below_16 : decode b_M_below 16 = .ok (.iload_n 3, 1) := by decide +kernel
theorem d_M_below_17 : decode b_M_below 17 = .ok (.iload_n 2, 1) := by decide +kernel
theorem d_M_below_18 : decode b_M_below 18 = .ok (.if_icmp .eq 18, 3) := by decide +kernel
theorem d_M_below_21 : decode b_M_below 21 = .ok (.aload_n 0, 1) := by decide +kernel
theorem d_M_below_22 : decode b_M_below 22 = .ok (.getfield 36, 3) := by decide +kernel
theorem d_M_below_25 : decode b_M_below 25 = .ok (.iconst 2, 1) := by decide +kernel
theorem d_M_below_26 : decode b_M_below 26 = .ok (.iload_n 3, 1) := by decide +kernel
theorem d_M_below_27 : decode b_M_below 27 = .ok (.imul, 1) := by decide +kernel
theorem d_M_below_28 : decode b_M_below 28 = .ok (.iaload, 1) := by decide +kernel
theorem d_M_below_29 : decode b_M_below 29 = .ok (.istore_n 3, 1) := by decide +kernel
theorem d_M_below_30 : decode b_M_below 30 = .ok (.iinc 4 1, 3) := by decide +kernel
theorem d_M_below_33 : decode b_M_below 33 = .ok (.goto (-28), 3) := by decide +kernel
theorem d_M_below_36 : decode b_M_below 36 = .ok (.iload_n 3, 1) := by decide +kernel
theorem d_M_below_37 : decode b_M_below 37 = .ok (.iload_n 2, 1) := by decide +kernel
theorem d_M_below_38 : decode b_M_below 38 = .ok (.if_icmp .ne 7, 3) := by decide +kernel
theorem d_M_below_41 : decode b_M_below 41 = .ok (.iconst 1, 1) := by decide +kernel
theorem d_M_below_42 : decode b_M_below 42 = .ok (.goto 4, 3) := by decide +kernel
theorem d_M_below_45 : decode b_M_below 45 = .ok (.iconst 0, 1) := by decide +kernel
theorem d_M_below_46 : decode b_M_below 46 = .ok (.ireturn, 1) := by decide +kernel
theorem d_M_down_0 : decode b_M_down 0 = .ok (.bipush 6, 2) := by decide +kernel
theorem d_M_down_2 : decode b_M_down 2 = .ok (.iload_n 1, 1) := by decide +kernel
theorem d_M_down_3 : decode b_M_down 3 = .ok (.iadd, 1) := by decide +kernel
theorem d_M_down_4 : decode b_M_down 4 = .ok (.istore 4, 2) := by decide +kernel
theorem d_M_down_6 : decode b_M_down 6 = .ok (.iconst 4, 1) := by decide +kernel
theorem d_M_down_7 : decode b_M_down 7 = .ok (.iload 4, 2) := by decide +kernel
theorem d_M_down_9 : decode b_M_down 9 = .ok (.imul, 1) := by decide +kernel
theorem d_M_down_10 : decode b_M_down 10 = .ok (.istore 5, 2) := by decide +kernel
theorem d_M_down_12 : decode b_M_down 12 = .ok (.aload_n 0, 1) := by decide +kernel
theorem d_M_down_13 : decode b_M_down 13 = .ok (.getfield 16, 3) := by decide +kernel
theorem d_M_down_16 : decode b_M_down 16 = .ok (.iload_n 1, 1) := by decide +kernel
theorem d_M_down_17 : decode b_M_down 17 = .ok (.baload, 1) := by decide +kernel
theorem d_M_down_18 : decode b_M_down 18 = .ok (.ifCond .eq 28, 3) := by decide +kernel
theorem d_M_down_21 : decode b_M_down 21 = .ok (.aload_n 0, 1) := by decide +kernel
theorem d_M_down_22 : decode b_M_down 22 = .ok (.getfield 51, 3) := by decide +kernel
theorem d_M_down_25 : decode b_M_down 25 = .ok (.iload 4, 2) := by decide +kernel
theorem d_M_down_27 : decode b_M_down 27 = .ok (.iaload, 1) := by decide +kernel
theorem d_M_down_28 : decode b_M_down 28 = .ok (.ifCond .eq 18, 3) := by decide +kernel
theorem d_M_down_31 : decode b_M_down 31 = .ok (.aload_n 0, 1) := by decide +kernel
theorem d_M_down_32 : decode b_M_down 32 = .ok (.aload_n 0, 1) := by decide +kernel
theorem d_M_down_33 : decode b_M_down 33 = .ok (.getfield 54, 3) := by decide +kernel
theorem d_M_down_36 : decode b_M_down 36 = .ok (.iload 5, 2) := by decide +kernel
theorem d_M_down_38 : decode b_M_down 38 = .ok (.iaload, 1) := by decide +kernel
theorem d_M_down_39 : decode b_M_down 39 = .ok (.iload_n 2, 1) := by decide +kernel
theorem d_M_down_40 : decode b_M_down 40 = .ok (.invokevirtual 173, 3) := by decide +kernel
theorem d_M_down_43 : decode b_M_down 43 = .ok (.ifCond .ne 4, 3) := by decide +kernel
theorem d_M_down_46 : decode b_M_down 46 = .ok (.return_, 1) := by decide +kernel
theorem d_M_down_47 : decode b_M_down 47 = .ok (.aload_n 0, 1) := by decide +kernel
theorem d_M_down_48 : decode b_M_down 48 = .ok (.dup, 1) := by decide +kernel
theorem d_M_down_49 : decode b_M_down 49 = .ok (.getfield 158, 3) := by decide +kernel
theorem d_M_down_52 : decode b_M_down 52 = .ok (.iconst 1, 1) := by decide +kernel
theorem d_M_down_53 : decode b_M_down 53 = .ok (.iadd, 1) := by decide +kernel
theorem d_M_down_54 : decode b_M_down 54 = .ok (.putfield 158, 3) := by decide +kernel
theorem d_M_down_57 : decode b_M_down 57 = .ok (.iconst 0, 1) := by decide +kernel
theorem d_M_down_58 : decode b_M_down 58 = .ok (.istore 6, 2) := by decide +kernel
theorem d_M_down_60 : decode b_M_down 60 = .ok (.aload_n 0, 1) := by decide +kernel
theorem d_M_down_61 : decode b_M_down 61 = .ok (.iload_n 1, 1) := by decide +kernel
theorem d_M_down_62 : decode b_M_down 62 = .ok (.iload_n 2, 1) := by decide +kernel
theorem d_M_down_63 : decode b_M_down 63 = .ok (.iload_n 3, 1) := by decide +kernel
theorem d_M_down_64 : decode b_M_down 64 = .ok (.invokevirtual 161, 3) := by decide +kernel
theorem d_M_down_67 : decode b_M_down 67 = .ok (.ifCond .eq 158, 3) := by decide +kernel
theorem d_M_down_70 : decode b_M_down 70 = .ok (.bipush 36, 2) := by decide +kernel
theorem d_M_down_72 : decode b_M_down 72 = .ok (.bipush 6, 2) := by decide +kernel
theorem d_M_down_74 : decode b_M_down 74 = .ok (.iload_n 2, 1) := by decide +kernel
theorem d_M_down_75 : decode b_M_down 75 = .ok (.imul, 1) := by decide +kernel
theorem d_M_down_76 : decode b_M_down 76 = .ok (.iadd, 1) := by decide +kernel
theorem d_M_down_77 : decode b_M_down 77 = .ok (.aload_n 0, 1) := by decide +kernel
theorem d_M_down_78 : decode b_M_down 78 = .ok (.getfield 54, 3) := by decide +kernel
theorem d_M_down_81 : decode b_M_down 81 = .ok (.iload 5, 2) := by decide +kernel
theorem d_M_down_83 : decode b_M_down 83 = .ok (.iaload, 1) := by decide +kernel
theorem d_M_down_84 : decode b_M_down 84 = .ok (.iadd, 1) := by decide +kernel
theorem d_M_down_85 : decode b_M_down 85 = .ok (.istore 7, 2) := by decide +kernel
theorem d_M_down_87 : decode b_M_down 87 = .ok (.aload_n 0, 1) := by decide +kernel
theorem d_M_down_88 : decode b_M_down 88 = .ok (.getfield 19, 3) := by decide +kernel
theorem d_M_down_91 : decode b_M_down 91 = .ok (.iload_n 2, 1) := by decide +kernel
theorem d_M_down_92 : decode b_M_down 92 = .ok (.aload_n 0, 1) := by decide +kernel
theorem d_M_down_93 : decode b_M_down 93 = .ok (.getfield 19, 3) := by decide +kernel
theorem d_M_down_96 : decode b_M_down 96 = .ok (.iload_n 1, 1) := by decide +kernel
theorem d_M_down_97 : decode b_M_down 97 = .ok (.iaload, 1) := by decide +kernel
theorem d_M_down_98 : decode b_M_down 98 = .ok (.iastore, 1) := by decide +kernel
theorem d_M_down_99 : decode b_M_down 99 = .ok (.aload_n 0, 1) := by decide +kernel
theorem d_M_down_100 : decode b_M_down 100 = .ok (.getfield 57, 3) := by decide +kernel
theorem d_M_down_103 : decode b_M_down 103 = .ok (.iload 5, 2) := by decide +kernel
theorem d_M_down_105 : decode b_M_down 105 = .ok (.iaload, 1) := by decide +kernel
theorem d_M_down_106 : decode b_M_down 106 = .ok (.aload_n 0, 1) := by decide +kernel
theorem d_M_down_107 : decode b_M_down 107 = .ok (.getfield 69, 3) := by decide +kernel
theorem d_M_down_110 : decode b_M_down 110 = .ok (.iload 7, 2) := by decide +kernel
theorem d_M_down_112 : decode b_M_down 112 = .ok (.iaload, 1) := by decide +kernel
theorem d_M_down_113 : decode b_M_down 113 = .ok (.if_icmp .gt 7, 3) := by decide +kernel
theorem d_M_down_116 : decode b_M_down 116 = .ok (.iconst 1, 1) := by decide +kernel
theorem d_M_down_117 : decode b_M_down 117 = .ok (.goto 4, 3) := by decide +kernel
theorem d_M_down_120 : decode b_M_down 120 = .ok (.iconst 0, 1) := by decide +kernel
theorem d_M_down_121 : decode b_M_down 121 = .ok (.istore 6, 2) := by decide +kernel
theorem d_M_down_123 : decode b_M_down 123 = .ok (.iload 6, 2) := by decide +kernel
theorem d_M_down_125 : decode b_M_down 125 = .ok (.ifCond .ne 100, 3) := by decide +kernel
theorem d_M_down_128 : decode b_M_down 128 = .ok (.aload_n 0, 1) := by decide +kernel
theorem d_M_down_129 : decode b_M_down 129 = .ok (.getfield 54, 3) := by decide +kernel
theorem d_M_down_132 : decode b_M_down 132 = .ok (.iload 5, 2) := by decide +kernel
theorem d_M_down_134 : decode b_M_down 134 = .ok (.iaload, 1) := by decide +kernel
theorem d_M_down_135 : decode b_M_down 135 = .ok (.iload_n 2, 1) := by decide +kernel
theorem d_M_down_136 : decode b_M_down 136 = .ok (.if_icmp .eq 16, 3) := by decide +kernel
theorem d_M_down_139 : decode b_M_down 139 = .ok (.aload_n 0, 1) := by decide +kernel
theorem d_M_down_140 : decode b_M_down 140 = .ok (.getfield 51, 3) := by decide +kernel
theorem d_M_down_143 : decode b_M_down 143 = .ok (.bipush 6, 2) := by decide +kernel
theorem d_M_down_145 : decode b_M_down 145 = .ok (.iload_n 2, 1) := by decide +kernel
theorem d_M_down_146 : decode b_M_down 146 = .ok (.iadd, 1) := by decide +kernel
theorem d_M_down_147 : decode b_M_down 147 = .ok (.iaload, 1) := by decide +kernel
theorem d_M_down_148 : decode b_M_down 148 = .ok (.iconst 4, 1) := by decide +kernel
theorem d_M_down_149 : decode b_M_down 149 = .ok (.if_icmp .ge 76, 3) := by decide +kernel
theorem d_M_down_152 : decode b_M_down 152 = .ok (.iconst 1, 1) := by decide +kernel
theorem d_M_down_153 : decode b_M_down 153 = .ok (.istore 6, 2) := by decide +kernel
theorem d_M_down_155 : decode b_M_down 155 = .ok (.aload_n 0, 1) := by decide +kernel
theorem d_M_down_156 : decode b_M_down 156 = .ok (.getfield 69, 3) := by decide +kernel
theorem d_M_down_159 : decode b_M_down 159 = .ok (.iload 7, 2) := by decide +kernel
theorem d_M_down_161 : decode b_M_down 161 = .ok (.aload_n 0, 1) := by decide +kernel
theorem d_M_down_162 : decode b_M_down 162 = .ok (.getfield 57, 3) := by decide +kernel
theorem d_M_down_165 : decode b_M_down 165 = .ok (.iload 5, 2) := by decide +kernel
theorem d_M_down_167 : decode b_M_down 167 = .ok (.iaload, 1) := by decide +kernel
theorem d_M_down_168 : decode b_M_down 168 = .ok (.iastore, 1) := by decide +kernel
theorem d_M_down_169 : decode b_M_down 169 = .ok (.aload_n 0, 1) := by decide +kernel
theorem d_M_down_170 : decode b_M_down 170 = .ok (.getfield 54, 3) := by decide +kernel
theorem d_M_down_173 : decode b_M_down 173 = .ok (.iload 5, 2) := by decide +kernel
theorem d_M_down_175 : decode b_M_down 175 = .ok (.iaload, 1) := by decide +kernel
theorem d_M_down_176 : decode b_M_down 176 = .ok (.iload_n 2, 1) := by decide +kernel
theorem d_M_down_177 : decode b_M_down 177 = .ok (.if_icmp .ne 19, 3) := by decide +kernel
theorem d_M_down_180 : decode b_M_down 180 = .ok (.aload_n 0, 1) := by decide +kernel
theorem d_M_down_181 : decode b_M_down 181 = .ok (.getfield 93, 3) := by decide +kernel
theorem d_M_down_184 : decode b_M_down 184 = .ok (.iload_n 2, 1) := by decide +kernel
theorem d_M_down_185 : decode b_M_down 185 = .ok (.aload_n 0, 1) := by decide +kernel
theorem d_M_down_186 : decode b_M_down 186 = .ok (.getfield 60, 3) := by decide +kernel
theorem d_M_down_189 : decode b_M_down 189 = .ok (.iload 5, 2) := by decide +kernel
theorem d_M_down_191 : decode b_M_down 191 = .ok (.iaload, 1) := by decide +kernel
theorem d_M_down_192 : decode b_M_down 192 = .ok (.iastore, 1) := by decide +kernel
theorem d_M_down_193 : decode b_M_down 193 = .ok (.goto 32, 3) := by decide +kernel
theorem d_M_down_196 : decode b_M_down 196 = .ok (.aload_n 0, 1) := by decide +kernel
theorem d_M_down_197 : decode b_M_down 197 = .ok (.bipush 6, 2) := by decide +kernel
theorem d_M_down_199 : decode b_M_down 199 = .ok (.iload_n 2, 1) := by decide +kernel
theorem d_M_down_200 : decode b_M_down 200 = .ok (.iadd, 1) := by decide +kernel
theorem d_M_down_201 : decode b_M_down 201 = .ok (.aload_n 0, 1) := by decide +kernel
theorem d_M_down_202 : decode b_M_down 202 = .ok (.getfield 54, 3) := by decide +kernel
theorem d_M_down_205 : decode b_M_down 205 = .ok (.iload 5, 2) := by decide +kernel
theorem d_M_down_207 : decode b_M_down 207 = .ok (.iaload, 1) := by decide +kernel
theorem d_M_down_208 : decode b_M_down 208 = .ok (.aload_n 0, 1) := by decide +kernel
theorem d_M_down_209 : decode b_M_down 209 = .ok (.getfield 57, 3) := by decide +kernel
theorem d_M_down_212 : decode b_M_down 212 = .ok (.iload 5, 2) := by decide +kernel
theorem d_M_down_214 : decode b_M_down 214 = .ok (.iaload, 1) := by decide +kernel
theorem d_M_down_215 : decode b_M_down 215 = .ok (.aload_n 0, 1) := by decide +kernel
theorem d_M_down_216 : decode b_M_down 216 = .ok (.getfield 60, 3) := by decide +kernel
theorem d_M_down_219 : decode b_M_down 219 = .ok (.iload 5, 2) := by decide +kernel
theorem d_M_down_221 : decode b_M_down 221 = .ok (.iaload, 1) := by decide +kernel
theorem d_M_down_222 : decode b_M_down 222 = .ok (.invokevirtual 139, 3) := by decide +kernel
theorem d_M_down_225 : decode b_M_down 225 = .ok (.iload 6, 2) := by decide +kernel
theorem d_M_down_227 : decode b_M_down 227 = .ok (.ifCond .eq 33, 3) := by decide +kernel
theorem d_M_down_230 : decode b_M_down 230 = .ok (.aload_n 0, 1) := by decide +kernel
theorem d_M_down_231 : decode b_M_down 231 = .ok (.getfield 30, 3) := by decide +kernel
theorem d_M_down_234 : decode b_M_down 234 = .ok (.iload_n 3, 1) := by decide +kernel
theorem d_M_down_235 : decode b_M_down 235 = .ok (.laload, 1) := by decide +kernel
theorem d_M_down_236 : decode b_M_down 236 = .ok (.aload_n 0, 1) := by decide +kernel
theorem d_M_down_237 : decode b_M_down 237 = .ok (.getfield 147, 3) := by decide +kernel
theorem d_M_down_240 : decode b_M_down 240 = .ok (.invokestatic 150, 3) := by decide +kernel
theorem d_M_down_243 : decode b_M_down 243 = .ok (.ifCond .eq 17, 3) := by decide +kernel
theorem d_M_down_246 : decode b_M_down 246 = .ok (.aload_n 0, 1) := by decide +kernel
theorem d_M_down_247 : decode b_M_down 247 = .ok (.iload 4, 2) := by decide +kernel
theorem d_M_down_249 : decode b_M_down 249 = .ok (.invokevirtual 169, 3) := by decide +kernel
theorem d_M_down_252 : decode b_M_down 252 = .ok (.aload_n 0, 1) := by decide +kernel
theorem d_M_down_253 : decode b_M_down 253 = .ok (.getfield 66, 3) := by decide +kernel
theorem d_M_down_256 : decode b_M_down 256 = .ok (.iload_n 1, 1) := by decide +kernel
theorem d_M_down_257 : decode b_M_down 257 = .ok (.iconst 0, 1) := by decide +kernel
theorem d_M_down_258 : decode b_M_down 258 = .ok (.iastore, 1) := by decide +kernel
theorem d_M_down_259 : decode b_M_down 259 = .ok (.return_, 1) := by decide +kernel
theorem d_M_down_260 : decode b_M_down 260 = .ok (.aload_n 0, 1) := by decide +kernel
theorem d_M_down_261 : decode b_M_down 261 = .ok (.getfield 66, 3) := by decide +kernel
theorem d_M_down_264 : decode b_M_down 264 = .ok (.iload_n 1, 1) := by decide +kernel
theorem d_M_down_265 : decode b_M_down 265 = .ok (.dup2, 1) := by decide +kernel
theorem d_M_down_266 : decode b_M_down 266 = .ok (.iaload, 1) := by decide +kernel
theorem d_M_down_267 : decode b_M_down 267 = .ok (.iconst 1, 1) := by decide +kernel
theorem d_M_down_268 : decode b_M_down 268 = .ok (.iadd, 1) := by decide +kernel
theorem d_M_down_269 : decode b_M_down 269 = .ok (.iastore, 1) := by decide +kernel
theorem d_M_down_270 : decode b_M_down 270 = .ok (.aload_n 0, 1) := by decide +kernel
theorem d_M_down_271 : decode b_M_down 271 = .ok (.getfield 66, 3) := by decide +kernel
theorem d_M_down_274 : decode b_M_down 274 = .ok (.iload_n 1, 1) := by decide +kernel
theorem d_M_down_275 : decode b_M_down 275 = .ok (.iaload, 1) := by decide +kernel
theorem d_M_down_276 : decode b_M_down 276 = .ok (.bipush 6, 2) := by decide +kernel
theorem d_M_down_278 : decode b_M_down 278 = .ok (.if_icmp .ne 16, 3) := by decide +kernel
theorem d_M_down_281 : decode b_M_down 281 = .ok (.aload_n 0, 1) := by decide +kernel
theorem d_M_down_282 : decode b_M_down 282 = .ok (.iload 4, 2) := by decide +kernel
theorem d_M_down_284 : decode b_M_down 284 = .ok (.invokevirtual 169, 3) := by decide +kernel
theorem d_M_down_287 : decode b_M_down 287 = .ok (.aload_n 0, 1) := by decide +kernel
theorem d_M_down_288 : decode b_M_down 288 = .ok (.getfield 66, 3) := by decide +kernel
theorem d_M_down_291 : decode b_M_down 291 = .ok (.iload_n 1, 1) := by decide +kernel
theorem d_M_down_292 : decode b_M_down 292 = .ok (.iconst 0, 1) := by decide +kernel
theorem d_M_down_293 : decode b_M_down 293 = .ok (.iastore, 1) := by decide +kernel
theorem d_M_down_294 : decode b_M_down 294 = .ok (.return_, 1) := by decide +kernel
theorem d_M_slot_0 : decode b_M_slot 0 = .ok (.iconst 1, 1) := by decide +kernel
theorem d_M_slot_1 : decode b_M_slot 1 = .ok (.istore_n 1, 1) := by decide +kernel
theorem d_M_slot_2 : decode b_M_slot 2 = .ok (.iload_n 1, 1) := by decide +kernel
theorem d_M_slot_3 : decode b_M_slot 3 = .ok (.aload_n 0, 1) := by decide +kernel
theorem d_M_slot_4 : decode b_M_slot 4 = .ok (.getfield 96, 3) := by decide +kernel
theorem d_M_slot_7 : decode b_M_slot 7 = .ok (.if_icmp .ge 37, 3) := by decide +kernel
theorem d_M_slot_10 : decode b_M_slot 10 = .ok (.aload_n 0, 1) := by decide +kernel
theorem d_M_slot_11 : decode b_M_slot 11 = .ok (.getfield 19, 3) := by decide +kernel
theorem d_M_slot_14 : decode b_M_slot 14 = .ok (.iload_n 1, 1) := by decide +kernel
theorem d_M_slot_15 : decode b_M_slot 15 = .ok (.dup2, 1) := by decide +kernel
theorem d_M_slot_16 : decode b_M_slot 16 = .ok (.iaload, 1) := by decide +kernel
theorem d_M_slot_17 : decode b_M_slot 17 = .ok (.aload_n 0, 1) := by decide +kernel
theorem d_M_slot_18 : decode b_M_slot 18 = .ok (.getfield 13, 3) := by decide +kernel
theorem d_M_slot_21 : decode b_M_slot 21 = .ok (.iload_n 1, 1) := by decide +kernel
theorem d_M_slot_22 : decode b_M_slot 22 = .ok (.baload, 1) := by decide +kernel
theorem d_M_slot_23 : decode b_M_slot 23 = .ok (.ifCond .eq 12, 3) := by decide +kernel
theorem d_M_slot_26 : decode b_M_slot 26 = .ok (.aload_n 0, 1) := by decide +kernel
theorem d_M_slot_27 : decode b_M_slot 27 = .ok (.getfield 23, 3) := by decide +kernel
theorem d_M_slot_30 : decode b_M_slot 30 = .ok (.iload_n 1, 1) := by decide +kernel
theorem d_M_slot_31 : decode b_M_slot 31 = .ok (.iaload, 1) := by decide +kernel
theorem d_M_slot_32 : decode b_M_slot 32 = .ok (.goto 4, 3) := by decide +kernel
theorem d_M_slot_35 : decode b_M_slot 35 = .ok (.iconst 0, 1) := by decide +kernel
theorem d_M_slot_36 : decode b_M_slot 36 = .ok (.iadd, 1) := by decide +kernel
theorem d_M_slot_37 : decode b_M_slot 37 = .ok (.iastore, 1) := by decide +kernel
theorem d_M_slot_38 : decode b_M_slot 38 = .ok (.iinc 1 1, 3) := by decide +kernel
theorem d_M_slot_41 : decode b_M_slot 41 = .ok (.goto (-39), 3) := by decide +kernel
theorem d_M_slot_44 : decode b_M_slot 44 = .ok (.aload_n 0, 1) := by decide +kernel
theorem d_M_slot_45 : decode b_M_slot 45 = .ok (.getfield 147, 3) := by decide +kernel
theorem d_M_slot_48 : decode b_M_slot 48 = .ok (.aload_n 0, 1) := by decide +kernel
theorem d_M_slot_49 : decode b_M_slot 49 = .ok (.getfield 100, 3) := by decide +kernel
theorem d_M_slot_52 : decode b_M_slot 52 = .ok (.irem, 1) := by decide +kernel
theorem d_M_slot_53 : decode b_M_slot 53 = .ok (.istore_n 1, 1) := by decide +kernel
theorem d_M_slot_54 : decode b_M_slot 54 = .ok (.aload_n 0, 1) := by decide +kernel
theorem d_M_slot_55 : decode b_M_slot 55 = .ok (.getfield 135, 3) := by decide +kernel
theorem d_M_slot_58 : decode b_M_slot 58 = .ok (.ifCond .eq 14, 3) := by decide +kernel
theorem d_M_slot_61 : decode b_M_slot 61 = .ok (.aload_n 0, 1) := by decide +kernel
theorem d_M_slot_62 : decode b_M_slot 62 = .ok (.getfield 39, 3) := by decide +kernel
theorem d_M_slot_65 : decode b_M_slot 65 = .ok (.iconst 4, 1) := by decide +kernel
theorem d_M_slot_66 : decode b_M_slot 66 = .ok (.iload_n 1, 1) := by decide +kernel
theorem d_M_slot_67 : decode b_M_slot 67 = .ok (.imul, 1) := by decide +kernel
theorem d_M_slot_68 : decode b_M_slot 68 = .ok (.iaload, 1) := by decide +kernel
theorem d_M_slot_69 : decode b_M_slot 69 = .ok (.goto 4, 3) := by decide +kernel
theorem d_M_slot_72 : decode b_M_slot 72 = .ok (.iconst 0, 1) := by decide +kernel
theorem d_M_slot_73 : decode b_M_slot 73 = .ok (.istore_n 2, 1) := by decide +kernel
theorem d_M_slot_74 : decode b_M_slot 74 = .ok (.iload_n 2, 1) := by decide +kernel
theorem d_M_slot_75 : decode b_M_slot 75 = .ok (.bipush 100, 2) := by decide +kernel
theorem d_M_slot_77 : decode b_M_slot 77 = .ok (.if_icmp .lt 18, 3) := by decide +kernel
theorem d_M_slot_80 : decode b_M_slot 80 = .ok (.iload_n 2, 1) := by decide +kernel
theorem d_M_slot_81 : decode b_M_slot 81 = .ok (.sipush 200, 3) := by decide +kernel
theorem d_M_slot_84 : decode b_M_slot 84 = .ok (.if_icmp .ge 11, 3) := by decide +kernel
theorem d_M_slot_87 : decode b_M_slot 87 = .ok (.aload_n 0, 1) := by decide +kernel
theorem d_M_slot_88 : decode b_M_slot 88 = .ok (.iload_n 2, 1) := by decide +kernel
theorem d_M_slot_89 : decode b_M_slot 89 = .ok (.invokestatic 112, 3) := by decide +kernel
theorem d_M_slot_92 : decode b_M_slot 92 = .ok (.invokevirtual 176, 3) := by decide +kernel
theorem d_M_slot_95 : decode b_M_slot 95 = .ok (.iconst 0, 1) := by decide +kernel
theorem d_M_slot_96 : decode b_M_slot 96 = .ok (.istore_n 3, 1) := by decide +kernel
theorem d_M_slot_97 : decode b_M_slot 97 = .ok (.iload_n 3, 1) := by decide +kernel
theorem d_M_slot_98 : decode b_M_slot 98 = .ok (.aload_n 0, 1) := by decide +kernel
theorem d_M_slot_99 : decode b_M_slot 99 = .ok (.getfield 103, 3) := by decide +kernel
theorem d_M_slot_102 : decode b_M_slot 102 = .ok (.if_icmp .ge 105, 3) := by decide +kernel
theorem d_M_slot_105 : decode b_M_slot 105 = .ok (.aload_n 0, 1) := by decide +kernel
theorem d_M_slot_106 : decode b_M_slot 106 = .ok (.getfield 135, 3) := by decide +kernel
theorem d_M_slot_109 : decode b_M_slot 109 = .ok (.ifCond .eq 98, 3) := by decide +kernel
theorem d_M_slot_112 : decode b_M_slot 112 = .ok (.iload_n 2, 1) := by decide +kernel
theorem d_M_slot_113 : decode b_M_slot 113 = .ok (.bipush 100, 2) := by decide +kernel
theorem d_M_slot_115 : decode b_M_slot 115 = .ok (.if_icmp .lt 10, 3) := by decide +kernel
theorem d_M_slot_118 : decode b_M_slot 118 = .ok (.iload_n 2, 1) := by decide +kernel
theorem d_M_slot_119 : decode b_M_slot 119 = .ok (.sipush 200, 3) := by decide +kernel
theorem d_M_slot_122 : decode b_M_slot 122 = .ok (.if_icmp .lt 85, 3) := by decide +kernel
theorem d_M_slot_125 : decode b_M_slot 125 = .ok (.aload_n 0, 1) := by decide +kernel
theorem d_M_slot_126 : decode b_M_slot 126 = .ok (.getfield 39, 3) := by decide +kernel
theorem d_M_slot_129 : decode b_M_slot 129 = .ok (.iconst 4, 1) := by decide +kernel
theorem d_M_slot_130 : decode b_M_slot 130 = .ok (.iload_n 1, 1) := by decide +kernel
theorem d_M_slot_131 : decode b_M_slot 131 = .ok (.imul, 1) := by decide +kernel
theorem d_M_slot_132 : decode b_M_slot 132 = .ok (.iload_n 3, 1) := by decide +kernel
theorem d_M_slot_133 : decode b_M_slot 133 = .ok (.iadd, 1) := by decide +kernel
theorem d_M_slot_134 : decode b_M_slot 134 = .ok (.iaload, 1) := by decide +kernel
theorem d_M_slot_135 : decode b_M_slot 135 = .ok (.istore 4, 2) := by decide +kernel
theorem d_M_slot_137 : decode b_M_slot 137 = .ok (.iload_n 3, 1) := by decide +kernel
theorem d_M_slot_138 : decode b_M_slot 138 = .ok (.aload_n 0, 1) := by decide +kernel
theorem d_M_slot_139 : decode b_M_slot 139 = .ok (.getfield 147, 3) := by decide +kernel
theorem d_M_slot_142 : decode b_M_slot 142 = .ok (.iadd, 1) := by decide +kernel
theorem d_M_slot_143 : decode b_M_slot 143 = .ok (.aload_n 0, 1) := by decide +kernel
theorem d_M_slot_144 : decode b_M_slot 144 = .ok (.getfield 103, 3) := by decide +kernel
theorem d_M_slot_147 : decode b_M_slot 147 = .ok (.irem, 1) := by decide +kernel
theorem d_M_slot_148 : decode b_M_slot 148 = .ok (.istore 5, 2) := by decide +kernel
theorem d_M_slot_150 : decode b_M_slot 150 = .ok (.iload 4, 2) := by decide +kernel
theorem d_M_slot_152 : decode b_M_slot 152 = .ok (.sipush 300, 3) := by decide +kernel
theorem d_M_slot_155 : decode b_M_slot 155 = .ok (.if_icmp .lt 22, 3) := by decide +kernel
theorem d_M_slot_158 : decode b_M_slot 158 = .ok (.aload_n 0, 1) := by decide +kernel
theorem d_M_slot_159 : decode b_M_slot 159 = .ok (.iload 4, 2) := by decide +kernel
theorem d_M_slot_161 : decode b_M_slot 161 = .ok (.invokestatic 112, 3) := by decide +kernel
theorem d_M_slot_164 : decode b_M_slot 164 = .ok (.iload 4, 2) := by decide +kernel
theorem d_M_slot_166 : decode b_M_slot 166 = .ok (.invokestatic 116, 3) := by decide +kernel
theorem d_M_slot_169 : decode b_M_slot 169 = .ok (.iload 5, 2) := by decide +kernel
theorem d_M_slot_171 : decode b_M_slot 171 = .ok (.invokevirtual 179, 3) := by decide +kernel
theorem d_M_slot_174 : decode b_M_slot 174 = .ok (.goto 27, 3) := by decide +kernel
theorem d_M_slot_177 : decode b_M_slot 177 = .ok (.iload 4, 2) := by decide +kernel
theorem d_M_slot_179 : decode b_M_slot 179 = .ok (.sipush 200, 3) := by decide +kernel
theorem d_M_slot_182 : decode b_M_slot 182 = .ok (.if_icmp .lt 19, 3) := by decide +kernel
theorem d_M_slot_185 : decode b_M_slot 185 = .ok (.aload_n 0, 1) := by decide +kernel
theorem d_M_slot_186 : decode b_M_slot 186 = .ok (.iload 4, 2) := by decide +kernel
theorem d_M_slot_188 : decode b_M_slot 188 = .ok (.invokestatic 112, 3) := by decide +kernel
theorem d_M_slot_191 : decode b_M_slot 191 = .ok (.iload 4, 2) := by decide +kernel
theorem d_M_slot_193 : decode b_M_slot 193 = .ok (.invokestatic 116, 3) := by decide +kernel
theorem d_M_slot_196 : decode b_M_slot 196 = .ok (.iload 5, 2) := by decide +kernel
theorem d_M_slot_198 : decode b_M_slot 198 = .ok (.invokevirtual 182, 3) := by decide +kernel
theorem d_M_slot_201 : decode b_M_slot 201 = .ok (.iinc 3 1, 3) := by decide +kernel
theorem d_M_slot_204 : decode b_M_slot 204 = .ok (.goto (-107), 3) := by decide +kernel
theorem d_M_slot_207 : decode b_M_slot 207 = .ok (.aload_n 0, 1) := by decide +kernel
theorem d_M_slot_208 : decode b_M_slot 208 = .ok (.dup, 1) := by decide +kernel
theorem d_M_slot_209 : decode b_M_slot 209 = .ok (.getfield 147, 3) := by decide +kernel
theorem d_M_slot_212 : decode b_M_slot 212 = .ok (.iconst 1, 1) := by decide +kernel
theorem d_M_slot_213 : decode b_M_slot 213 = .ok (.iadd, 1) := by decide +kernel
theorem d_M_slot_214 : decode b_M_slot 214 = .ok (.putfield 147, 3) := by decide +kernel
theorem d_M_slot_217 : decode b_M_slot 217 = .ok (.return_, 1) := by decide +kernel
theorem d_M_run_0 : decode b_M_run 0 = .ok (.iload_n 1, 1) := by decide +kernel
theorem d_M_run_1 : decode b_M_run 1 = .ok (.iconst 1, 1) := by decide +kernel
theorem d_M_run_2 : decode b_M_run 2 = .ok (.if_icmp .lt 9, 3) := by decide +kernel
theorem d_M_run_5 : decode b_M_run 5 = .ok (.iload_n 1, 1) := by decide +kernel
theorem d_M_run_6 : decode b_M_run 6 = .ok (.bipush 64, 2) := by decide +kernel
theorem d_M_run_8 : decode b_M_run 8 = .ok (.if_icmp .le 5, 3) := by decide +kernel
theorem d_M_run_11 : decode b_M_run 11 = .ok (.iconst (-1), 1) := by decide +kernel
theorem d_M_run_12 : decode b_M_run 12 = .ok (.ireturn, 1) := by decide +kernel
theorem d_M_run_13 : decode b_M_run 13 = .ok (.iconst 0, 1) := by decide +kernel
theorem d_M_run_14 : decode b_M_run 14 = .ok (.istore_n 2, 1) := by decide +kernel
theorem d_M_run_15 : decode b_M_run 15 = .ok (.iload_n 2, 1) := by decide +kernel
theorem d_M_run_16 : decode b_M_run 16 = .ok (.iload_n 1, 1) := by decide +kernel
theorem d_M_run_17 : decode b_M_run 17 = .ok (.if_icmp .ge 13, 3) := by decide +kernel
theorem d_M_run_20 : decode b_M_run 20 = .ok (.aload_n 0, 1) := by decide +kernel
theorem d_M_run_21 : decode b_M_run 21 = .ok (.invokevirtual 185, 3) := by decide +kernel
theorem d_M_run_24 : decode b_M_run 24 = .ok (.iinc 2 1, 3) := by decide +kernel
theorem d_M_run_27 : decode b_M_run 27 = .ok (.goto (-12), 3) := by decide +kernel
theorem d_M_run_30 : decode b_M_run 30 = .ok (.aload_n 0, 1) := by decide +kernel
theorem d_M_run_31 : decode b_M_run 31 = .ok (.getfield 147, 3) := by decide +kernel
theorem d_M_run_34 : decode b_M_run 34 = .ok (.ireturn, 1) := by decide +kernel
theorem d_M_rank_0 : decode b_M_rank 0 = .ok (.aload_n 0, 1) := by decide +kernel
theorem d_M_rank_1 : decode b_M_rank 1 = .ok (.getfield 135, 3) := by decide +kernel
theorem d_M_rank_4 : decode b_M_rank 4 = .ok (.ifCond .eq 11, 3) := by decide +kernel
theorem d_M_rank_7 : decode b_M_rank 7 = .ok (.aload_n 0, 1) := by decide +kernel
theorem d_M_rank_8 : decode b_M_rank 8 = .ok (.iload_n 1, 1) := by decide +kernel
theorem d_M_rank_9 : decode b_M_rank 9 = .ok (.invokevirtual 108, 3) := by decide +kernel
theorem d_M_rank_12 : decode b_M_rank 12 = .ok (.ifCond .eq 7, 3) := by decide +kernel
theorem d_M_rank_15 : decode b_M_rank 15 = .ok (.iconst (-1), 1) := by decide +kernel
theorem d_M_rank_16 : decode b_M_rank 16 = .ok (.goto 9, 3) := by decide +kernel
theorem d_M_rank_19 : decode b_M_rank 19 = .ok (.aload_n 0, 1) := by decide +kernel
theorem d_M_rank_20 : decode b_M_rank 20 = .ok (.getfield 33, 3) := by decide +kernel
theorem d_M_rank_23 : decode b_M_rank 23 = .ok (.iload_n 1, 1) := by decide +kernel
theorem d_M_rank_24 : decode b_M_rank 24 = .ok (.iaload, 1) := by decide +kernel
theorem d_M_rank_25 : decode b_M_rank 25 = .ok (.ireturn, 1) := by decide +kernel
theorem d_M_parent_0 : decode b_M_parent 0 = .ok (.aload_n 0, 1) := by decide +kernel
theorem d_M_parent_1 : decode b_M_parent 1 = .ok (.getfield 135, 3) := by decide +kernel
theorem d_M_parent_4 : decode b_M_parent 4 = .ok (.ifCond .eq 20, 3) := by decide +kernel
theorem d_M_parent_7 : decode b_M_parent 7 = .ok (.aload_n 0, 1) := by decide +kernel
theorem d_M_parent_8 : decode b_M_parent 8 = .ok (.iload_n 1, 1) := by decide +kernel
theorem d_M_parent_9 : decode b_M_parent 9 = .ok (.invokevirtual 108, 3) := by decide +kernel
theorem d_M_parent_12 : decode b_M_parent 12 = .ok (.ifCond .ne 12, 3) := by decide +kernel
theorem d_M_parent_15 : decode b_M_parent 15 = .ok (.iload_n 2, 1) := by decide +kernel
theorem d_M_parent_16 : decode b_M_parent 16 = .ok (.ifCond .lt 8, 3) := by decide +kernel
theorem d_M_parent_19 : decode b_M_parent 19 = .ok (.iload_n 2, 1) := by decide +kernel
theorem d_M_parent_20 : decode b_M_parent 20 = .ok (.iconst 1, 1) := by decide +kernel
theorem d_M_parent_21 : decode b_M_parent 21 = .ok (.if_icmp .le 7, 3) := by decide +kernel
theorem d_M_parent_24 : decode b_M_parent 24 = .ok (.iconst (-1), 1) := by decide +kernel
theorem d_M_parent_25 : decode b_M_parent 25 = .ok (.goto 13, 3) := by decide +kernel
theorem d_M_parent_28 : decode b_M_parent 28 = .ok (.aload_n 0, 1) := by decide +kernel
theorem d_M_parent_29 : decode b_M_parent 29 = .ok (.getfield 36, 3) := by decide +kernel
theorem d_M_parent_32 : decode b_M_parent 32 = .ok (.iconst 2, 1) := by decide +kernel
theorem d_M_parent_33 : decode b_M_parent 33 = .ok (.iload_n 1, 1) := by decide +kernel
theorem d_M_parent_34 : decode b_M_parent 34 = .ok (.imul, 1) := by decide +kernel
theorem d_M_parent_35 : decode b_M_parent 35 = .ok (.iload_n 2, 1) := by decide +kernel
theorem d_M_parent_36 : decode b_M_parent 36 = .ok (.iadd, 1) := by decide +kernel
theorem d_M_parent_37 : decode b_M_parent 37 = .ok (.iaload, 1) := by decide +kernel
theorem d_M_parent_38 : decode b_M_parent 38 = .ok (.ireturn, 1) := by decide +kernel
theorem d_M_cell_0 : decode b_M_cell 0 = .ok (.iload_n 1, 1) := by decide +kernel
theorem d_M_cell_1 : decode b_M_cell 1 = .ok (.ifCond .lt 23, 3) := by decide +kernel
theorem d_M_cell_4 : decode b_M_cell 4 = .ok (.iload_n 1, 1) := by decide +kernel
theorem d_M_cell_5 : decode b_M_cell 5 = .ok (.aload_n 0, 1) := by decide +kernel
theorem d_M_cell_6 : decode b_M_cell 6 = .ok (.getfield 100, 3) := by decide +kernel
theorem d_M_cell_9 : decode b_M_cell 9 = .ok (.if_icmp .ge 15, 3) := by decide +kernel
theorem d_M_cell_12 : decode b_M_cell 12 = .ok (.iload_n 2, 1) := by decide +kernel
theorem d_M_cell_13 : decode b_M_cell 13 = .ok (.ifCond .lt 11, 3) := by decide +kernel
theorem d_M_cell_16 : decode b_M_cell 16 = .ok (.iload_n 2, 1) := by decide +kernel
theorem d_M_cell_17 : decode b_M_cell 17 = .ok (.aload_n 0, 1) := by decide +kernel
theorem d_M_cell_18 : decode b_M_cell 18 = .ok (.getfield 103, 3) := by decide +kernel
theorem d_M_cell_21 : decode b_M_cell 21 = .ok (.if_icmp .lt 5, 3) := by decide +kernel
theorem d_M_cell_24 : decode b_M_cell 24 = .ok (.iconst (-1), 1) := by decide +kernel
theorem d_M_cell_25 : decode b_M_cell 25 = .ok (.ireturn, 1) := by decide +kernel
theorem d_M_cell_26 : decode b_M_cell 26 = .ok (.aload_n 0, 1) := by decide +kernel
theorem d_M_cell_27 : decode b_M_cell 27 = .ok (.getfield 135, 3) := by decide +kernel
theorem d_M_cell_30 : decode b_M_cell 30 = .ok (.ifCond .eq 16, 3) := by decide +kernel
theorem d_M_cell_33 : decode b_M_cell 33 = .ok (.aload_n 0, 1) := by decide +kernel
theorem d_M_cell_34 : decode b_M_cell 34 = .ok (.getfield 39, 3) := by decide +kernel
theorem d_M_cell_37 : decode b_M_cell 37 = .ok (.iconst 4, 1) := by decide +kernel
theorem d_M_cell_38 : decode b_M_cell 38 = .ok (.iload_n 1, 1) := by decide +kernel
theorem d_M_cell_39 : decode b_M_cell 39 = .ok (.imul, 1) := by decide +kernel
theorem d_M_cell_40 : decode b_M_cell 40 = .ok (.iload_n 2, 1) := by decide +kernel
theorem d_M_cell_41 : decode b_M_cell 41 = .ok (.iadd, 1) := by decide +kernel
theorem d_M_cell_42 : decode b_M_cell 42 = .ok (.iaload, 1) := by decide +kernel
theorem d_M_cell_43 : decode b_M_cell 43 = .ok (.goto 4, 3) := by decide +kernel
theorem d_M_cell_46 : decode b_M_cell 46 = .ok (.iconst 0, 1) := by decide +kernel
theorem d_M_cell_47 : decode b_M_cell 47 = .ok (.ireturn, 1) := by decide +kernel
theorem d_M_current_0 : decode b_M_current 0 = .ok (.aload_n 0, 1) := by decide +kernel
theorem d_M_current_1 : decode b_M_current 1 = .ok (.iload_n 1, 1) := by decide +kernel
theorem d_M_current_2 : decode b_M_current 2 = .ok (.invokevirtual 108, 3) := by decide +kernel
theorem d_M_current_5 : decode b_M_current 5 = .ok (.ifCond .ne 16, 3) := by decide +kernel
theorem d_M_current_8 : decode b_M_current 8 = .ok (.aload_n 0, 1) := by decide +kernel
theorem d_M_current_9 : decode b_M_current 9 = .ok (.getfield 16, 3) := by decide +kernel
theorem d_M_current_12 : decode b_M_current 12 = .ok (.iload_n 1, 1) := by decide +kernel
theorem d_M_current_13 : decode b_M_current 13 = .ok (.baload, 1) := by decide +kernel
theorem d_M_current_14 : decode b_M_current 14 = .ok (.ifCond .eq 7, 3) := by decide +kernel
theorem d_M_current_17 : decode b_M_current 17 = .ok (.iconst 1, 1) := by decide +kernel
theorem d_M_current_18 : decode b_M_current 18 = .ok (.goto 4, 3) := by decide +kernel
theorem d_M_current_21 : decode b_M_current 21 = .ok (.iconst 0, 1) := by decide +kernel
theorem d_M_current_22 : decode b_M_current 22 = .ok (.ireturn, 1) := by decide +kernel
theorem d_M_offset_0 : decode b_M_offset 0 = .ok (.aload_n 0, 1) := by decide +kernel
theorem d_M_offset_1 : decode b_M_offset 1 = .ok (.iload_n 1, 1) := by decide +kernel
theorem d_M_offset_2 : decode b_M_offset 2 = .ok (.invokevirtual 108, 3) := by decide +kernel
theorem d_M_offset_5 : decode b_M_offset 5 = .ok (.ifCond .eq 9, 3) := by decide +kernel
theorem d_M_offset_8 : decode b_M_offset 8 = .ok (.sipush (-9999), 3) := by decide +kernel
theorem d_M_offset_11 : decode b_M_offset 11 = .ok (.goto 9, 3) := by decide +kernel
theorem d_M_offset_14 : decode b_M_offset 14 = .ok (.aload_n 0, 1) := by decide +kernel
theorem d_M_offset_15 : decode b_M_offset 15 = .ok (.getfield 19, 3) := by decide +kernel
theorem d_M_offset_18 : decode b_M_offset 18 = .ok (.iload_n 1, 1) := by decide +kernel
theorem d_M_offset_19 : decode b_M_offset 19 = .ok (.iaload, 1) := by decide +kernel
theorem d_M_offset_20 : decode b_M_offset 20 = .ok (.ireturn, 1) := by decide +kernel
theorem d_M_count_0 : decode b_M_count 0 = .ok (.aload_n 0, 1) := by decide +kernel
theorem d_M_count_1 : decode b_M_count 1 = .ok (.iload_n 1, 1) := by decide +kernel
theorem d_M_count_2 : decode b_M_count 2 = .ok (.invokevirtual 108, 3) := by decide +kernel
theorem d_M_count_5 : decode b_M_count 5 = .ok (.ifCond .ne 12, 3) := by decide +kernel
theorem d_M_count_8 : decode b_M_count 8 = .ok (.iload_n 2, 1) := by decide +kernel
theorem d_M_count_9 : decode b_M_count 9 = .ok (.ifCond .lt 8, 3) := by decide +kernel
theorem d_M_count_12 : decode b_M_count 12 = .ok (.iload_n 2, 1) := by decide +kernel
theorem d_M_count_13 : decode b_M_count 13 = .ok (.iconst 3, 1) := by decide +kernel
theorem d_M_count_14 : decode b_M_count 14 = .ok (.if_icmp .le 5, 3) := by decide +kernel
theorem d_M_count_17 : decode b_M_count 17 = .ok (.iconst (-1), 1) := by decide +kernel
theorem d_M_count_18 : decode b_M_count 18 = .ok (.ireturn, 1) := by decide +kernel
theorem d_M_count_19 : decode b_M_count 19 = .ok (.iload_n 2, 1) := by decide +kernel
theorem d_M_count_20 : decode b_M_count 20 = .ok (.ifCond .ne 12, 3) := by decide +kernel
theorem d_M_count_23 : decode b_M_count 23 = .ok (.aload_n 0, 1) := by decide +kernel
theorem d_M_count_24 : decode b_M_count 24 = .ok (.getfield 51, 3) := by decide +kernel
theorem d_M_count_27 : decode b_M_count 27 = .ok (.iload_n 1, 1) := by decide +kernel
theorem d_M_count_28 : decode b_M_count 28 = .ok (.iaload, 1) := by decide +kernel
theorem d_M_count_29 : decode b_M_count 29 = .ok (.goto 40, 3) := by decide +kernel
theorem d_M_count_32 : decode b_M_count 32 = .ok (.iload_n 2, 1) := by decide +kernel
theorem d_M_count_33 : decode b_M_count 33 = .ok (.iconst 1, 1) := by decide +kernel
theorem d_M_count_34 : decode b_M_count 34 = .ok (.if_icmp .ne 15, 3) := by decide +kernel
theorem d_M_count_37 : decode b_M_count 37 = .ok (.aload_n 0, 1) := by decide +kernel
theorem d_M_count_38 : decode b_M_count 38 = .ok (.getfield 51, 3) := by decide +kernel
theorem d_M_count_41 : decode b_M_count 41 = .ok (.bipush 6, 2) := by decide +kernel
theorem d_M_count_43 : decode b_M_count 43 = .ok (.iload_n 1, 1) := by decide +kernel
theorem d_M_count_44 : decode b_M_count 44 = .ok (.iadd, 1) := by decide +kernel
theorem d_M_count_45 : decode b_M_count 45 = .ok (.iaload, 1) := by decide +kernel
theorem d_M_count_46 : decode b_M_count 46 = .ok (.goto 23, 3) := by decide +kernel
theorem d_M_count_49 : decode b_M_count 49 = .ok (.iload_n 2, 1) := by decide +kernel
theorem d_M_count_50 : decode b_M_count 50 = .ok (.iconst 2, 1) := by decide +kernel
theorem d_M_count_51 : decode b_M_count 51 = .ok (.if_icmp .ne 12, 3) := by decide +kernel
theorem d_M_count_54 : decode b_M_count 54 = .ok (.aload_n 0, 1) := by decide +kernel
theorem d_M_count_55 : decode b_M_count 55 = .ok (.getfield 63, 3) := by decide +kernel
theorem d_M_count_58 : decode b_M_count 58 = .ok (.iload_n 1, 1) := by decide +kernel
theorem d_M_count_59 : decode b_M_count 59 = .ok (.iaload, 1) := by decide +kernel
theorem d_M_count_60 : decode b_M_count 60 = .ok (.goto 9, 3) := by decide +kernel
theorem d_M_count_63 : decode b_M_count 63 = .ok (.aload_n 0, 1) := by decide +kernel
theorem d_M_count_64 : decode b_M_count 64 = .ok (.getfield 66, 3) := by decide +kernel
theorem d_M_count_67 : decode b_M_count 67 = .ok (.iload_n 1, 1) := by decide +kernel
theorem d_M_count_68 : decode b_M_count 68 = .ok (.iaload, 1) := by decide +kernel
theorem d_M_count_69 : decode b_M_count 69 = .ok (.ireturn, 1) := by decide +kernel
theorem d_M_cached_0 : decode b_M_cached 0 = .ok (.aload_n 0, 1) := by decide +kernel
theorem d_M_cached_1 : decode b_M_cached 1 = .ok (.iload_n 1, 1) := by decide +kernel
theorem d_M_cached_2 : decode b_M_cached 2 = .ok (.invokevirtual 108, 3) := by decide +kernel
theorem d_M_cached_5 : decode b_M_cached 5 = .ok (.ifCond .ne 17, 3) := by decide +kernel
theorem d_M_cached_8 : decode b_M_cached 8 = .ok (.iload_n 2, 1) := by decide +kernel
theorem d_M_cached_9 : decode b_M_cached 9 = .ok (.ifCond .lt 13, 3) := by decide +kernel
theorem d_M_cached_12 : decode b_M_cached 12 = .ok (.iload_n 2, 1) := by decide +kernel
theorem d_M_cached_13 : decode b_M_cached 13 = .ok (.aload_n 0, 1) := by decide +kernel
theorem d_M_cached_14 : decode b_M_cached 14 = .ok (.getfield 78, 3) := by decide +kernel
theorem d_M_cached_17 : decode b_M_cached 17 = .ok (.iload_n 1, 1) := by decide +kernel
theorem d_M_cached_18 : decode b_M_cached 18 = .ok (.iaload, 1) := by decide +kernel
theorem d_M_cached_19 : decode b_M_cached 19 = .ok (.if_icmp .lt 9, 3) := by decide +kernel
theorem d_M_cached_22 : decode b_M_cached 22 = .ok (.sipush (-9999), 3) := by decide +kernel
theorem d_M_cached_25 : decode b_M_cached 25 = .ok (.goto 13, 3) := by decide +kernel
theorem d_M_cached_28 : decode b_M_cached 28 = .ok (.aload_n 0, 1) := by decide +kernel
theorem d_M_cached_29 : decode b_M_cached 29 = .ok (.getfield 75, 3) := by decide +kernel
theorem d_M_cached_32 : decode b_M_cached 32 = .ok (.iconst 3, 1) := by decide +kernel
theorem d_M_cached_33 : decode b_M_cached 33 = .ok (.iload_n 1, 1) := by decide +kernel
theorem d_M_cached_34 : decode b_M_cached 34 = .ok (.imul, 1) := by decide +kernel
theorem d_M_cached_35 : decode b_M_cached 35 = .ok (.iload_n 2, 1) := by decide +kernel
theorem d_M_cached_36 : decode b_M_cached 36 = .ok (.iadd, 1) := by decide +kernel
theorem d_M_cached_37 : decode b_M_cached 37 = .ok (.iaload, 1) := by decide +kernel
theorem d_M_cached_38 : decode b_M_cached 38 = .ok (.ireturn, 1) := by decide +kernel
theorem d_M_latest_0 : decode b_M_latest 0 = .ok (.aload_n 0, 1) := by decide +kernel
theorem d_M_latest_1 : decode b_M_latest 1 = .ok (.iload_n 1, 1) := by decide +kernel
theorem d_M_latest_2 : decode b_M_latest 2 = .ok (.invokevirtual 108, 3) := by decide +kernel
theorem d_M_latest_5 : decode b_M_latest 5 = .ok (.ifCond .eq 7, 3) := by decide +kernel
theorem d_M_latest_8 : decode b_M_latest 8 = .ok (.iconst (-1), 1) := by decide +kernel
theorem d_M_latest_9 : decode b_M_latest 9 = .ok (.goto 9, 3) := by decide +kernel
theorem d_M_latest_12 : decode b_M_latest 12 = .ok (.aload_n 0, 1) := by decide +kernel
theorem d_M_latest_13 : decode b_M_latest 13 = .ok (.getfield 69, 3) := by decide +kernel
theorem d_M_latest_16 : decode b_M_latest 16 = .ok (.iload_n 1, 1) := by decide +kernel
theorem d_M_latest_17 : decode b_M_latest 17 = .ok (.iaload, 1) := by decide +kernel
theorem d_M_latest_18 : decode b_M_latest 18 = .ok (.ireturn, 1) := by decide +kernel
theorem d_M_actuator_0 : decode b_M_actuator 0 = .ok (.aload_n 0, 1) := by decide +kernel
theorem d_M_actuator_1 : decode b_M_actuator 1 = .ok (.iload_n 1, 1) := by decide +kernel
theorem d_M_actuator_2 : decode b_M_actuator 2 = .ok (.invokevirtual 108, 3) := by decide +kernel
theorem d_M_actuator_5 : decode b_M_actuator 5 = .ok (.ifCond .ne 7, 3) := by decide +kernel
theorem d_M_actuator_8 : decode b_M_actuator 8 = .ok (.iload_n 1, 1) := by decide +kernel
theorem d_M_actuator_9 : decode b_M_actuator 9 = .ok (.ifCond .ne 9, 3) := by decide +kernel
theorem d_M_actuator_12 : decode b_M_actuator 12 = .ok (.sipush (-9999), 3) := by decide +kernel
theorem d_M_actuator_15 : decode b_M_actuator 15 = .ok (.goto 9, 3) := by decide +kernel
theorem d_M_actuator_18 : decode b_M_actuator 18 = .ok (.aload_n 0, 1) := by decide +kernel
theorem d_M_actuator_19 : decode b_M_actuator 19 = .ok (.getfield 93, 3) := by decide +kernel
theorem d_M_actuator_22 : decode b_M_actuator 22 = .ok (.iload_n 1, 1) := by decide +kernel
theorem d_M_actuator_23 : decode b_M_actuator 23 = .ok (.iaload, 1) := by decide +kernel
theorem d_M_actuator_24 : decode b_M_actuator 24 = .ok (.ireturn, 1) := by decide +kernel
theorem d_M_sent_0 : decode b_M_sent 0 = .ok (.aload_n 0, 1) := by decide +kernel
theorem d_M_sent_1 : decode b_M_sent 1 = .ok (.getfield 158, 3) := by decide +kernel
theorem d_M_sent_4 : decode b_M_sent 4 = .ok (.ireturn, 1) := by decide +kernel
theorem d_H_init_0 : decode b_H_init 0 = .ok (.aload_n 0, 1) := by decide +kernel
theorem d_H_init_1 : decode b_H_init 1 = .ok (.invokespecial 1, 3) := by decide +kernel
theorem d_H_init_4 : decode b_H_init 4 = .ok (.aload_n 0, 1) := by decide +kernel
theorem d_H_init_5 : decode b_H_init 5 = .ok (.ldc2_w 7, 3) := by decide +kernel
theorem d_H_init_8 : decode b_H_init 8 = .ok (.putfield 9, 3) := by decide +kernel
theorem d_H_init_11 : decode b_H_init 11 = .ok (.aload_n 0, 1) := by decide +kernel
theorem d_H_init_12 : decode b_H_init 12 = .ok (.ldc2_w 7, 3) := by decide +kernel
theorem d_H_init_15 : decode b_H_init 15 = .ok (.putfield 15, 3) := by decide +kernel
theorem d_H_init_18 : decode b_H_init 18 = .ok (.return_, 1) := by decide +kernel
theorem d_H_carriesFrame_0 : decode b_H_carriesFrame 0 = .ok (.aload_n 0, 1) := by decide +kernel
theorem d_H_carriesFrame_1 : decode b_H_carriesFrame 1 = .ok (.getfield 9, 3) := by decide +kernel
theorem d_H_carriesFrame_4 : decode b_H_carriesFrame 4 = .ok (.iload_n 1, 1) := by decide +kernel
theorem d_H_carriesFrame_5 : decode b_H_carriesFrame 5 = .ok (.invokestatic 18, 3) := by decide +kernel
theorem d_H_carriesFrame_8 : decode b_H_carriesFrame 8 = .ok (.ireturn, 1) := by decide +kernel
theorem d_H_carriesConfirmation_0 : decode b_H_carriesConfirmation 0 = .ok (.aload_n 0, 1) := by decide +kernel
theorem d_H_carriesConfirmation_1 : decode b_H_carriesConfirmation 1 = .ok (.getfield 15, 3) := by decide +kernel
theorem d_H_carriesConfirmation_4 : decode b_H_carriesConfirmation 4 = .ok (.iload_n 1, 1) := by decide +kernel
theorem d_H_carriesConfirmation_5 : decode b_H_carriesConfirmation 5 = .ok (.invokestatic 18, 3) := by decide +kernel
theorem d_H_carriesConfirmation_8 : decode b_H_carriesConfirmation 8 = .ok (.ireturn, 1) := by decide +kernel
theorem d_H_bitAt_0 : decode b_H_bitAt 0 = .ok (.lload_n 0, 1) := by decide +kernel
theorem d_H_bitAt_1 : decode b_H_bitAt 1 = .ok (.iload_n 2, 1) := by decide +kernel
theorem d_H_bitAt_2 : decode b_H_bitAt 2 = .ok (.bipush 64, 2) := by decide +kernel
theorem d_H_bitAt_4 : decode b_H_bitAt 4 = .ok (.invokestatic 22, 3) := by decide +kernel
theorem d_H_bitAt_7 : decode b_H_bitAt 7 = .ok (.lushr, 1) := by decide +kernel
theorem d_H_bitAt_8 : decode b_H_bitAt 8 = .ok (.lconst 1, 1) := by decide +kernel
theorem d_H_bitAt_9 : decode b_H_bitAt 9 = .ok (.land, 1) := by decide +kernel
theorem d_H_bitAt_10 : decode b_H_bitAt 10 = .ok (.lconst 1, 1) := by decide +kernel
theorem d_H_bitAt_11 : decode b_H_bitAt 11 = .ok (.lcmp, 1) := by decide +kernel
theorem d_H_bitAt_12 : decode b_H_bitAt 12 = .ok (.ifCond .ne 7, 3) := by decide +kernel
theorem d_H_bitAt_15 : decode b_H_bitAt 15 = .ok (.iconst 1, 1) := by decide +kernel
theorem d_H_bitAt_16 : decode b_H_bitAt 16 = .ok (.goto 4, 3) := by decide +kernel
theorem d_H_bitAt_19 : decode b_H_bitAt 19 = .ok (.iconst 0, 1) := by decide +kernel
theorem d_H_bitAt_20 : decode b_H_bitAt 20 = .ok (.ireturn, 1) := by decide +kernel
theorem d_F_init_0 : decode b_F_init 0 = .ok (.aload_n 0, 1) := by decide +kernel
theorem d_F_init_1 : decode b_F_init 1 = .ok (.invokespecial 1, 3) := by decide +kernel
theorem d_F_init_4 : decode b_F_init 4 = .ok (.aload_n 0, 1) := by decide +kernel
theorem d_F_init_5 : decode b_F_init 5 = .ok (.iconst 4, 1) := by decide +kernel
theorem d_F_init_6 : decode b_F_init 6 = .ok (.newarray .int, 2) := by decide +kernel
theorem d_F_init_8 : decode b_F_init 8 = .ok (.putfield 9, 3) := by decide +kernel
theorem d_F_init_11 : decode b_F_init 11 = .ok (.aload_n 0, 1) := by decide +kernel
theorem d_F_init_12 : decode b_F_init 12 = .ok (.iconst 4, 1) := by decide +kernel
theorem d_F_init_13 : decode b_F_init 13 = .ok (.newarray .int, 2) := by decide +kernel
theorem d_F_init_15 : decode b_F_init 15 = .ok (.putfield 13, 3) := by decide +kernel
theorem d_F_init_18 : decode b_F_init 18 = .ok (.aload_n 0, 1) := by decide +kernel
theorem d_F_init_19 : decode b_F_init 19 = .ok (.iconst 4, 1) := by decide +kernel
theorem d_F_init_20 : decode b_F_init 20 = .ok (.newarray .int, 2) := by decide +kernel
theorem d_F_init_22 : decode b_F_init 22 = .ok (.putfield 16, 3) := by decide +kernel
theorem d_F_init_25 : decode b_F_init 25 = .ok (.return_, 1) := by decide +kernel
theorem d_F_append_0 : decode b_F_append 0 = .ok (.aload_n 0, 1) := by decide +kernel
theorem d_F_append_1 : decode b_F_append 1 = .ok (.getfield 19, 3) := by decide +kernel
theorem d_F_append_4 : decode b_F_append 4 = .ok (.iconst 4, 1) := by decide +kernel
theorem d_F_append_5 : decode b_F_append 5 = .ok (.if_icmp .lt 5, 3) := by decide +kernel
theorem d_F_append_8 : decode b_F_append 8 = .ok (.iconst 0, 1) := by decide +kernel
theorem d_F_append_9 : decode b_F_append 9 = .ok (.ireturn, 1) := by decide +kernel
theorem d_F_append_10 : decode b_F_append 10 = .ok (.aload_n 0, 1) := by decide +kernel
theorem d_F_append_11 : decode b_F_append 11 = .ok (.getfield 9, 3) := by decide +kernel
theorem d_F_append_14 : decode b_F_append 14 = .ok (.aload_n 0, 1) := by decide +kernel
theorem d_F_append_15 : decode b_F_append 15 = .ok (.getfield 19, 3) := by decide +kernel
theorem d_F_append_18 : decode b_F_append 18 = .ok (.iload_n 1, 1) := by decide +kernel
theorem d_F_append_19 : decode b_F_append 19 = .ok (.iastore, 1) := by decide +kernel
theorem d_F_append_20 : decode b_F_append 20 = .ok (.aload_n 0, 1) := by decide +kernel
theorem d_F_append_21 : decode b_F_append 21 = .ok (.getfield 13, 3) := by decide +kernel
theorem d_F_append_24 : decode b_F_append 24 = .ok (.aload_n 0, 1) := by decide +kernel
theorem d_F_append_25 : decode b_F_append 25 = .ok (.getfield 19, 3) := by decide +kernel
theorem d_F_append_28 : decode b_F_append 28 = .ok (.iload_n 2, 1) := by decide +kernel
theorem d_F_append_29 : decode b_F_append 29 = .ok (.iastore, 1) := by decide +kernel
theorem d_F_append_30 : decode b_F_append 30 = .ok (.aload_n 0, 1) := by decide +kernel
theorem d_F_append_31 : decode b_F_append 31 = .ok (.getfield 16, 3) := by decide +kernel
theorem d_F_append_34 : decode b_F_append 34 = .ok (.aload_n 0, 1) := by decide +kernel
theorem d_F_append_35 : decode b_F_append 35 = .ok (.getfield 19, 3) := by decide +kernel
theorem d_F_append_38 : decode b_F_append 38 = .ok (.iload_n 3, 1) := by decide +kernel
theorem d_F_append_39 : decode b_F_append 39 = .ok (.iastore, 1) := by decide +kernel
theorem d_F_append_40 : decode b_F_append 40 = .ok (.aload_n 0, 1) := by decide +kernel
theorem d_F_append_41 : decode b_F_append 41 = .ok (.dup, 1) := by decide +kernel
theorem d_F_append_42 : decode b_F_append 42 = .ok (.getfield 19, 3) := by decide +kernel
theorem d_F_append_45 : decode b_F_append 45 = .ok (.iconst 1, 1) := by decide +kernel
theorem d_F_append_46 : decode b_F_append 46 = .ok (.iadd, 1) := by decide +kernel
theorem d_F_append_47 : decode b_F_append 47 = .ok (.putfield 19, 3) := by decide +kernel
theorem d_F_append_50 : decode b_F_append 50 = .ok (.iconst 1, 1) := by decide +kernel
theorem d_F_append_51 : decode b_F_append 51 = .ok (.ireturn, 1) := by decide +kernel
theorem d_F_dropFirst_0 : decode b_F_dropFirst 0 = .ok (.aload_n 0, 1) := by decide +kernel
theorem d_F_dropFirst_1 : decode b_F_dropFirst 1 = .ok (.getfield 19, 3) := by decide +kernel
theorem d_F_dropFirst_4 : decode b_F_dropFirst 4 = .ok (.ifCond .ne 4, 3) := by decide +kernel
theorem d_F_dropFirst_7 : decode b_F_dropFirst 7 = .ok (.return_, 1) := by decide +kernel
theorem d_F_dropFirst_8 : decode b_F_dropFirst 8 = .ok (.aload_n 0, 1) := by decide +kernel
theorem d_F_dropFirst_9 : decode b_F_dropFirst 9 = .ok (.dup, 1) := by decide +kernel
theorem d_F_dropFirst_10 : decode b_F_dropFirst 10 = .ok (.getfield 19, 3) := by decide +kernel
theorem d_F_dropFirst_13 : decode b_F_dropFirst 13 = .ok (.iconst 1, 1) := by decide +kernel
theorem d_F_dropFirst_14 : decode b_F_dropFirst 14 = .ok (.isub, 1) := by decide +kernel
theorem d_F_dropFirst_15 : decode b_F_dropFirst 15 = .ok (.putfield 19, 3) := by decide +kernel
theorem d_F_dropFirst_18 : decode b_F_dropFirst 18 = .ok (.iconst 0, 1) := by decide +kernel
theorem d_F_dropFirst_19 : decode b_F_dropFirst 19 = .ok (.istore_n 1, 1) := by decide +kernel
theorem d_F_dropFirst_20 : decode b_F_dropFirst 20 = .ok (.iload_n 1, 1) := by decide +kernel
theorem d_F_dropFirst_21 : decode b_F_dropFirst 21 = .ok (.aload_n 0, 1) := by decide +kernel
theorem d_F_dropFirst_22 : decode b_F_dropFirst 22 = .ok (.getfield 19, 3) := by decide +kernel
theorem d_F_dropFirst_25 : decode b_F_dropFirst 25 = .ok (.if_icmp .ge 51, 3) := by decide +kernel
theorem d_F_dropFirst_28 : decode b_F_dropFirst 28 = .ok (.aload_n 0, 1) := by decide +kernel
theorem d_F_dropFirst_29 : decode b_F_dropFirst 29 = .ok (.getfield 9, 3) := by decide +kernel
theorem d_F_dropFirst_32 : decode b_F_dropFirst 32 = .ok (.iload_n 1, 1) := by decide +kernel
theorem d_F_dropFirst_33 : decode b_F_dropFirst 33 = .ok (.aload_n 0, 1) := by decide +kernel
theorem d_F_dropFirst_34 : decode b_F_dropFirst 34 = .ok (.getfield 9, 3) := by decide +kernel
theorem d_F_dropFirst_37 : decode b_F_dropFirst 37 = .ok (.iload_n 1, 1) := by decide +kernel
theorem d_F_dropFirst_38 : decode b_F_dropFirst 38 = .ok (.iconst 1, 1) := by decide +kernel
theorem d_F_dropFirst_39 : decode b_F_dropFirst 39 = .ok (.iadd, 1) := by decide +kernel
theorem d_F_dropFirst_40 : decode b_F_dropFirst 40 = .ok (.iaload, 1) := by decide +kernel
theorem d_F_dropFirst_41 : decode b_F_dropFirst 41 = .ok (.iastore, 1) := by decide +kernel
theorem d_F_dropFirst_42 : decode b_F_dropFirst 42 = .ok (.aload_n 0, 1) := by decide +kernel
theorem d_F_dropFirst_43 : decode b_F_dropFirst 43 = .ok (.getfield 13, 3) := by decide +kernel
theorem d_F_dropFirst_46 : decode b_F_dropFirst 46 = .ok (.iload_n 1, 1) := by decide +kernel
theorem d_F_dropFirst_47 : decode b_F_dropFirst 47 = .ok (.aload_n 0, 1) := by decide +kernel
theorem d_F_dropFirst_48 : decode b_F_dropFirst 48 = .ok (.getfield 13, 3) := by decide +kernel
theorem d_F_dropFirst_51 : decode b_F_dropFirst 51 = .ok (.iload_n 1, 1) := by decide +kernel
theorem d_F_dropFirst_52 : decode b_F_dropFirst 52 = .ok (.iconst 1, 1) := by decide +kernel
theorem d_F_dropFirst_53 : decode b_F_dropFirst 53 = .ok (.iadd, 1) := by decide +kernel
theorem d_F_dropFirst_54 : decode b_F_dropFirst 54 = .ok (.iaload, 1) := by decide +kernel
theorem d_F_dropFirst_55 : decode b_F_dropFirst 55 = .ok (.iastore, 1) := by decide +kernel
theorem d_F_dropFirst_56 : decode b_F_dropFirst 56 = .ok (.aload_n 0, 1) := by decide +kernel
theorem d_F_dropFirst_57 : decode b_F_dropFirst 57 = .ok (.getfield 16, 3) := by decide +kernel
theorem d_F_dropFirst_60 : decode b_F_dropFirst 60 = .ok (.iload_n 1, 1) := by decide +kernel
theorem d_F_dropFirst_61 : decode b_F_dropFirst 61 = .ok (.aload_n 0, 1) := by decide +kernel
theorem d_F_dropFirst_62 : decode b_F_dropFirst 62 = .ok (.getfield 16, 3) := by decide +kernel
theorem d_F_dropFirst_65 : decode b_F_dropFirst 65 = .ok (.iload_n 1, 1) := by decide +kernel
theorem d_F_dropFirst_66 : decode b_F_dropFirst 66 = .ok (.iconst 1, 1) := by decide +kernel
theorem d_F_dropFirst_67 : decode b_F_dropFirst 67 = .ok (.iadd, 1) := by decide +kernel
theorem d_F_dropFirst_68 : decode b_F_dropFirst 68 = .ok (.iaload, 1) := by decide +kernel
theorem d_F_dropFirst_69 : decode b_F_dropFirst 69 = .ok (.iastore, 1) := by decide +kernel
theorem d_F_dropFirst_70 : decode b_F_dropFirst 70 = .ok (.iinc 1 1, 3) := by decide +kernel
theorem d_F_dropFirst_73 : decode b_F_dropFirst 73 = .ok (.goto (-53), 3) := by decide +kernel
theorem d_F_dropFirst_76 : decode b_F_dropFirst 76 = .ok (.return_, 1) := by decide +kernel
theorem d_F_clear_0 : decode b_F_clear 0 = .ok (.aload_n 0, 1) := by decide +kernel
theorem d_F_clear_1 : decode b_F_clear 1 = .ok (.iconst 0, 1) := by decide +kernel
theorem d_F_clear_2 : decode b_F_clear 2 = .ok (.putfield 19, 3) := by decide +kernel
theorem d_F_clear_5 : decode b_F_clear 5 = .ok (.return_, 1) := by decide +kernel
theorem d_O_init_0 : decode b_O_init 0 = .ok (.aload_n 0, 1) := by decide +kernel
theorem d_O_init_1 : decode b_O_init 1 = .ok (.invokespecial 1, 3) := by decide +kernel
theorem d_O_init_4 : decode b_O_init 4 = .ok (.aload_n 0, 1) := by decide +kernel
theorem d_O_init_5 : decode b_O_init 5 = .ok (.iconst 3, 1) := by decide +kernel
theorem d_O_init_6 : decode b_O_init 6 = .ok (.newarray .int, 2) := by decide +kernel
theorem d_O_init_8 : decode b_O_init 8 = .ok (.putfield 9, 3) := by decide +kernel
theorem d_O_init_11 : decode b_O_init 11 = .ok (.return_, 1) := by decide +kernel
theorem d_O_keep_0 : decode b_O_keep 0 = .ok (.iconst 2, 1) := by decide +kernel
theorem d_O_keep_1 : decode b_O_keep 1 = .ok (.istore_n 2, 1) := by decide +kernel
theorem d_O_keep_2 : decode b_O_keep 2 = .ok (.iload_n 2, 1) := by decide +kernel
theorem d_O_keep_3 : decode b_O_keep 3 = .ok (.ifCond .le 23, 3) := by decide +kernel
theorem d_O_keep_6 : decode b_O_keep 6 = .ok (.aload_n 0, 1) := by decide +kernel
theorem d_O_keep_7 : decode b_O_keep 7 = .ok (.getfield 9, 3) := by decide +kernel
theorem d_O_keep_10 : decode b_O_keep 10 = .ok (.iload_n 2, 1) := by decide +kernel
theorem d_O_keep_11 : decode b_O_keep 11 = .ok (.aload_n 0, 1) := by decide +kernel
theorem d_O_keep_12 : decode b_O_keep 12 = .ok (.getfield 9, 3) := by decide +kernel
theorem d_O_keep_15 : decode b_O_keep 15 = .ok (.iload_n 2, 1) := by decide +kernel
theorem d_O_keep_16 : decode b_O_keep 16 = .ok (.iconst 1, 1) := by decide +kernel
theorem d_O_keep_17 : decode b_O_keep 17 = .ok (.isub, 1) := by decide +kernel
theorem d_O_keep_18 : decode b_O_keep 18 = .ok (.iaload, 1) := by decide +kernel
theorem d_O_keep_19 : decode b_O_keep 19 = .ok (.iastore, 1) := by decide +kernel
theorem d_O_keep_20 : decode b_O_keep 20 = .ok (.iinc 2 (-1), 3) := by decide +kernel
theorem d_O_keep_23 : decode b_O_keep 23 = .ok (.goto (-21), 3) := by decide +kernel
theorem d_O_keep_26 : decode b_O_keep 26 = .ok (.aload_n 0, 1) := by decide +kernel
theorem d_O_keep_27 : decode b_O_keep 27 = .ok (.getfield 9, 3) := by decide +kernel
theorem d_O_keep_30 : decode b_O_keep 30 = .ok (.iconst 0, 1) := by decide +kernel
theorem d_O_keep_31 : decode b_O_keep 31 = .ok (.iload_n 1, 1) := by decide +kernel
theorem d_O_keep_32 : decode b_O_keep 32 = .ok (.iastore, 1) := by decide +kernel
theorem d_O_keep_33 : decode b_O_keep 33 = .ok (.aload_n 0, 1) := by decide +kernel
theorem d_O_keep_34 : decode b_O_keep 34 = .ok (.iconst 3, 1) := by decide +kernel
theorem d_O_keep_35 : decode b_O_keep 35 = .ok (.aload_n 0, 1) := by decide +kernel
theorem d_O_keep_36 : decode b_O_keep 36 = .ok (.getfield 13, 3) := by decide +kernel
theorem d_O_keep_39 : decode b_O_keep 39 = .ok (.iconst 1, 1) := by decide +kernel
theorem d_O_keep_40 : decode b_O_keep 40 = .ok (.iadd, 1) := by decide +kernel
theorem d_O_keep_41 : decode b_O_keep 41 = .ok (.invokestatic 17, 3) := by decide +kernel
theorem d_O_keep_44 : decode b_O_keep 44 = .ok (.putfield 13, 3) := by decide +kernel
theorem d_O_keep_47 : decode b_O_keep 47 = .ok (.return_, 1) := by decide +kernel
theorem d_O_nextCommand_0 : decode b_O_nextCommand 0 = .ok (.aload_n 0, 1) := by decide +kernel
theorem d_O_nextCommand_1 : decode b_O_nextCommand 1 = .ok (.getfield 23, 3) := by decide +kernel
theorem d_O_nextCommand_4 : decode b_O_nextCommand 4 = .ok (.iload_n 1, 1) := by decide +kernel
theorem d_O_nextCommand_5 : decode b_O_nextCommand 5 = .ok (.isub, 1) := by decide +kernel
theorem d_O_nextCommand_6 : decode b_O_nextCommand 6 = .ok (.istore_n 2, 1) := by decide +kernel
theorem d_O_nextCommand_7 : decode b_O_nextCommand 7 = .ok (.aload_n 0, 1) := by decide +kernel
theorem d_O_nextCommand_8 : decode b_O_nextCommand 8 = .ok (.aload_n 0, 1) := by decide +kernel
theorem d_O_nextCommand_9 : decode b_O_nextCommand 9 = .ok (.getfield 26, 3) := by decide +kernel
theorem d_O_nextCommand_12 : decode b_O_nextCommand 12 = .ok (.iload_n 2, 1) := by decide +kernel
theorem d_O_nextCommand_13 : decode b_O_nextCommand 13 = .ok (.iadd, 1) := by decide +kernel
theorem d_O_nextCommand_14 : decode b_O_nextCommand 14 = .ok (.sipush (-2000), 3) := by decide +kernel
theorem d_O_nextCommand_17 : decode b_O_nextCommand 17 = .ok (.sipush 2000, 3) := by decide +kernel
theorem d_O_nextCommand_20 : decode b_O_nextCommand 20 = .ok (.invokestatic 29, 3) := by decide +kernel
theorem d_O_nextCommand_23 : decode b_O_nextCommand 23 = .ok (.putfield 26, 3) := by decide +kernel
theorem d_O_nextCommand_26 : decode b_O_nextCommand 26 = .ok (.aload_n 0, 1) := by decide +kernel
theorem d_O_nextCommand_27 : decode b_O_nextCommand 27 = .ok (.getfield 35, 3) := by decide +kernel
theorem d_O_nextCommand_30 : decode b_O_nextCommand 30 = .ok (.iload_n 2, 1) := by decide +kernel
theorem d_O_nextCommand_31 : decode b_O_nextCommand 31 = .ok (.imul, 1) := by decide +kernel
theorem d_O_nextCommand_32 : decode b_O_nextCommand 32 = .ok (.aload_n 0, 1) := by decide +kernel
theorem d_O_nextCommand_33 : decode b_O_nextCommand 33 = .ok (.getfield 38, 3) := by decide +kernel
theorem d_O_nextCommand_36 : decode b_O_nextCommand 36 = .ok (.aload_n 0, 1) := by decide +kernel
theorem d_O_nextCommand_37 : decode b_O_nextCommand 37 = .ok (.getfield 26, 3) := by decide +kernel
theorem d_O_nextCommand_40 : decode b_O_nextCommand 40 = .ok (.imul, 1) := by decide +kernel
theorem d_O_nextCommand_41 : decode b_O_nextCommand 41 = .ok (.iadd, 1) := by decide +kernel
theorem d_O_nextCommand_42 : decode b_O_nextCommand 42 = .ok (.bipush 16, 2) := by decide +kernel
theorem d_O_nextCommand_44 : decode b_O_nextCommand 44 = .ok (.invokestatic 41, 3) := by decide +kernel
theorem d_O_nextCommand_47 : decode b_O_nextCommand 47 = .ok (.istore_n 3, 1) := by decide +kernel
theorem d_O_nextCommand_48 : decode b_O_nextCommand 48 = .ok (.iload_n 3, 1) := by decide +kernel
theorem d_O_nextCommand_49 : decode b_O_nextCommand 49 = .ok (.sipush (-500), 3) := by decide +kernel
theorem d_O_nextCommand_52 : decode b_O_nextCommand 52 = .ok (.sipush 500, 3) := by decide +kernel
theorem d_O_nextCommand_55 : decode b_O_nextCommand 55 = .ok (.invokestatic 29, 3) := by decide +kernel
theorem d_O_nextCommand_58 : decode b_O_nextCommand 58 = .ok (.ireturn, 1) := by decide +kernel
theorem d_N_init_0 : decode b_N_init 0 = .ok (.aload_n 0, 1) := by decide +kernel
theorem d_N_init_1 : decode b_N_init 1 = .ok (.invokespecial 3, 3) := by decide +kernel
theorem d_N_init_4 : decode b_N_init 4 = .ok (.aload_n 0, 1) := by decide +kernel
theorem d_N_init_5 : decode b_N_init 5 = .ok (.iload_n 1, 1) := by decide +kernel
theorem d_N_init_6 : decode b_N_init 6 = .ok (.putfield 9, 3) := by decide +kernel
theorem d_N_init_9 : decode b_N_init 9 = .ok (.aload_n 0, 1) := by decide +kernel
theorem d_N_init_10 : decode b_N_init 10 = .ok (.iload_n 2, 1) := by decide +kernel
theorem d_N_init_11 : decode b_N_init 11 = .ok (.newarray .boolean, 2) := by decide +kernel
theorem d_N_init_13 : decode b_N_init 13 = .ok (.putfield 15, 3) := by decide +kernel
theorem d_N_init_16 : decode b_N_init 16 = .ok (.aload_n 0, 1) := by decide +kernel
theorem d_N_init_17 : decode b_N_init 17 = .ok (.new 19, 3) := by decide +kernel
theorem d_N_init_20 : decode b_N_init 20 = .ok (.dup, 1) := by decide +kernel
theorem d_N_init_21 : decode b_N_init 21 = .ok (.invokespecial 21, 3) := by decide +kernel
theorem d_N_init_24 : decode b_N_init 24 = .ok (.putfield 22, 3) := by decide +kernel
theorem d_N_init_27 : decode b_N_init 27 = .ok (.aload_n 0, 1) := by decide +kernel
theorem d_N_init_28 : decode b_N_init 28 = .ok (.new 19, 3) := by decide +kernel
theorem d_N_init_31 : decode b_N_init 31 = .ok (.dup, 1) := by decide +kernel
theorem d_N_init_32 : decode b_N_init 32 = .ok (.invokespecial 21, 3) := by decide +kernel
theorem d_N_init_35 : decode b_N_init 35 = .ok (.putfield 26, 3) := by decide +kernel
theorem d_N_init_38 : decode b_N_init 38 = .ok (.aload_n 0, 1) := by decide +kernel
theorem d_N_init_39 : decode b_N_init 39 = .ok (.iload_n 2, 1) := by decide +kernel
theorem d_N_init_40 : decode b_N_init 40 = .ok (.newarray .int, 2) := by decide +kernel
theorem d_N_init_42 : decode b_N_init 42 = .ok (.putfield 29, 3) := by decide +kernel
theorem d_N_init_45 : decode b_N_init 45 = .ok (.aload_n 0, 1) := by decide +kernel
theorem d_N_init_46 : decode b_N_init 46 = .ok (.iload_n 2, 1) := by decide +kernel
theorem d_N_init_47 : decode b_N_init 47 = .ok (.newarray .int, 2) := by decide +kernel
theorem d_N_init_49 : decode b_N_init 49 = .ok (.putfield 33, 3) := by decide +kernel
theorem d_N_init_52 : decode b_N_init 52 = .ok (.aload_n 0, 1) := by decide +kernel
theorem d_N_init_53 : decode b_N_init 53 = .ok (.iload_n 1, 1) := by decide +kernel
theorem d_N_init_54 : decode b_N_init 54 = .ok (.ifCond .ne 7, 3) := by decide +kernel
theorem d_N_init_57 : decode b_N_init 57 = .ok (.iconst 1, 1) := by decide +kernel
theorem d_N_init_58 : decode b_N_init 58 = .ok (.goto 4, 3) := by decide +kernel
theorem d_N_init_61 : decode b_N_init 61 = .ok (.iconst 0, 1) := by decide +kernel
theorem d_N_init_62 : decode b_N_init 62 = .ok (.putfield 36, 3) := by decide +kernel
theorem d_N_init_65 : decode b_N_init 65 = .ok (.aload_n 0, 1) := by decide +kernel
theorem d_N_init_66 : decode b_N_init 66 = .ok (.iload_n 1, 1) := by decide +kernel
theorem d_N_init_67 : decode b_N_init 67 = .ok (.ifCond .ne 7, 3) := by decide +kernel
theorem d_N_init_70 : decode b_N_init 70 = .ok (.iconst 1, 1) := by decide +kernel
theorem d_N_init_71 : decode b_N_init 71 = .ok (.goto 4, 3) := by decide +kernel
theorem d_N_init_74 : decode b_N_init 74 = .ok (.iconst 0, 1) := by decide +kernel
theorem d_N_init_75 : decode b_N_init 75 = .ok (.putfield 40, 3) := by decide +kernel
theorem d_N_init_78 : decode b_N_init 78 = .ok (.return_, 1) := by decide +kernel
theorem d_N_enterPlan_0 : decode b_N_enterPlan 0 = .ok (.aload_n 0, 1) := by decide +kernel
theorem d_N_enterPlan_1 : decode b_N_enterPlan 1 = .ok (.aload_n 0, 1) := by decide +kernel
theorem d_N_enterPlan_2 : decode b_N_enterPlan 2 = .ok (.getfield 9, 3) := by decide +kernel
theorem d_N_enterPlan_5 : decode b_N_enterPlan 5 = .ok (.ifCond .ne 7, 3) := by decide +kernel
theorem d_N_enterPlan_8 : decode b_N_enterPlan 8 = .ok (.iconst 1, 1) := by decide +kernel
theorem d_N_enterPlan_9 : decode b_N_enterPlan 9 = .ok (.goto 4, 3) := by decide +kernel
theorem d_N_enterPlan_12 : decode b_N_enterPlan 12 = .ok (.iconst 0, 1) := by decide +kernel
theorem d_N_enterPlan_13 : decode b_N_enterPlan 13 = .ok (.putfield 40, 3) := by decide +kernel
theorem d_N_enterPlan_16 : decode b_N_enterPlan 16 = .ok (.aload_n 0, 1) := by decide +kernel
theorem d_N_enterPlan_17 : decode b_N_enterPlan 17 = .ok (.iconst 0, 1) := by decide +kernel
theorem d_N_enterPlan_18 : decode b_N_enterPlan 18 = .ok (.putfield 43, 3) := by decide +kernel
theorem d_N_enterPlan_21 : decode b_N_enterPlan 21 = .ok (.aload_n 0, 1) := by decide +kernel
theorem d_N_enterPlan_22 : decode b_N_enterPlan 22 = .ok (.iconst 0, 1) := by decide +kernel
theorem d_N_enterPlan_23 : decode b_N_enterPlan 23 = .ok (.putfield 46, 3) := by decide +kernel
theorem d_N_enterPlan_26 : decode b_N_enterPlan 26 = .ok (.aload_n 0, 1) := by decide +kernel
theorem d_N_enterPlan_27 : decode b_N_enterPlan 27 = .ok (.getfield 26, 3) := by decide +kernel
theorem d_N_enterPlan_30 : decode b_N_enterPlan 30 = .ok (.invokevirtual 49, 3) := by decide +kernel
theorem d_N_enterPlan_33 : decode b_N_enterPlan 33 = .ok (.return_, 1) := by decide +kernel
theorem d_N_switchOff_0 : decode b_N_switchOff 0 = .ok (.aload_n 0, 1) := by decide +kernel
theorem d_N_switchOff_1 : decode b_N_switchOff 1 = .ok (.iconst 0, 1) := by decide +kernel
theorem d_N_switchOff_2 : decode b_N_switchOff 2 = .ok (.putfield 36, 3) := by decide +kernel
theorem d_N_switchOff_5 : decode b_N_switchOff 5 = .ok (.aload_n 0, 1) := by decide +kernel
theorem d_N_switchOff_6 : decode b_N_switchOff 6 = .ok (.iconst 0, 1) := by decide +kernel
theorem d_N_switchOff_7 : decode b_N_switchOff 7 = .ok (.putfield 40, 3) := by decide +kernel
theorem d_N_switchOff_10 : decode b_N_switchOff 10 = .ok (.aload_n 0, 1) := by decide +kernel
theorem d_N_switchOff_11 : decode b_N_switchOff 11 = .ok (.iconst 0, 1) := by decide +kernel
theorem d_N_switchOff_12 : decode b_N_switchOff 12 = .ok (.putfield 52, 3) := by decide +kernel
theorem d_N_switchOff_15 : decode b_N_switchOff 15 = .ok (.aload_n 0, 1) := by decide +kernel
theorem d_N_switchOff_16 : decode b_N_switchOff 16 = .ok (.iconst 0, 1) := by decide +kernel
theorem d_N_switchOff_17 : decode b_N_switchOff 17 = .ok (.putfield 43, 3) := by decide +kernel
theorem d_N_switchOff_20 : decode b_N_switchOff 20 = .ok (.aload_n 0, 1) := by decide +kernel
theorem d_N_switchOff_21 : decode b_N_switchOff 21 = .ok (.iconst 0, 1) := by decide +kernel
theorem d_N_switchOff_22 : decode b_N_switchOff 22 = .ok (.putfield 46, 3) := by decide +kernel
theorem d_N_switchOff_25 : decode b_N_switchOff 25 = .ok (.aload_n 0, 1) := by decide +kernel
theorem d_N_switchOff_26 : decode b_N_switchOff 26 = .ok (.getfield 22, 3) := by decide +kernel
theorem d_N_switchOff_29 : decode b_N_switchOff 29 = .ok (.invokevirtual 49, 3) := by decide +kernel
theorem d_N_switchOff_32 : decode b_N_switchOff 32 = .ok (.aload_n 0, 1) := by decide +kernel
theorem d_N_switchOff_33 : decode b_N_switchOff 33 = .ok (.getfield 26, 3) := by decide +kernel
theorem d_N_switchOff_36 : decode b_N_switchOff 36 = .ok (.invokevirtual 49, 3) := by decide +kernel
theorem d_N_switchOff_39 : decode b_N_switchOff 39 = .ok (.aload_n 0, 1) := by decide +kernel
theorem d_N_switchOff_40 : decode b_N_switchOff 40 = .ok (.getfield 29, 3) := by decide +kernel
theorem d_N_switchOff_43 : decode b_N_switchOff 43 = .ok (.iconst 0, 1) := by decide +kernel
theorem d_N_switchOff_44 : decode b_N_switchOff 44 = .ok (.invokestatic 55, 3) := by decide +kernel
theorem d_N_switchOff_47 : decode b_N_switchOff 47 = .ok (.aload_n 0, 1) := by decide +kernel
theorem d_N_switchOff_48 : decode b_N_switchOff 48 = .ok (.getfield 33, 3) := by decide +kernel
theorem d_N_switchOff_51 : decode b_N_switchOff 51 = .ok (.aload_n 0, 1) := by decide +kernel
theorem d_N_switchOff_52 : decode b_N_switchOff 52 = .ok (.getfield 9, 3) := by decide +kernel
theorem d_N_switchOff_55 : decode b_N_switchOff 55 = .ok (.iaload, 1) := by decide +kernel
theorem d_N_switchOff_56 : decode b_N_switchOff 56 = .ok (.istore_n 1, 1) := by decide +kernel
theorem d_N_switchOff_57 : decode b_N_switchOff 57 = .ok (.aload_n 0, 1) := by decide +kernel
theorem d_N_switchOff_58 : decode b_N_switchOff 58 = .ok (.getfield 33, 3) := by decide +kernel
theorem d_N_switchOff_61 : decode b_N_switchOff 61 = .ok (.iconst 0, 1) := by decide +kernel
theorem d_N_switchOff_62 : decode b_N_switchOff 62 = .ok (.invokestatic 55, 3) := by decide +kernel
theorem d_N_switchOff_65 : decode b_N_switchOff 65 = .ok (.aload_n 0, 1) := by decide +kernel
theorem d_N_switchOff_66 : decode b_N_switchOff 66 = .ok (.getfield 33, 3) := by decide +kernel
theorem d_N_switchOff_69 : decode b_N_switchOff 69 = .ok (.aload_n 0, 1) := by decide +kernel
theorem d_N_switchOff_70 : decode b_N_switchOff 70 = .ok (.getfield 9, 3) := by decide +kernel
theorem d_N_switchOff_73 : decode b_N_switchOff 73 = .ok (.iload_n 1, 1) := by decide +kernel
theorem d_N_switchOff_74 : decode b_N_switchOff 74 = .ok (.iastore, 1) := by decide +kernel
theorem d_N_switchOff_75 : decode b_N_switchOff 75 = .ok (.return_, 1) := by decide +kernel
theorem d_N_clockIsCloseTo_0 : decode b_N_clockIsCloseTo 0 = .ok (.aload_n 0, 1) := by decide +kernel
theorem d_N_clockIsCloseTo_1 : decode b_N_clockIsCloseTo 1 = .ok (.getfield 52, 3) := by decide +kernel
theorem d_N_clockIsCloseTo_4 : decode b_N_clockIsCloseTo 4 = .ok (.aload_n 1, 1) := by decide +kernel
theorem d_N_clockIsCloseTo_5 : decode b_N_clockIsCloseTo 5 = .ok (.getfield 52, 3) := by decide +kernel
theorem d_N_clockIsCloseTo_8 : decode b_N_clockIsCloseTo 8 = .ok (.isub, 1) := by decide +kernel
theorem d_N_clockIsCloseTo_9 : decode b_N_clockIsCloseTo 9 = .ok (.invokestatic 61, 3) := by decide +kernel
theorem d_N_clockIsCloseTo_12 : decode b_N_clockIsCloseTo 12 = .ok (.bipush 10, 2) := by decide +kernel
theorem d_N_clockIsCloseTo_14 : decode b_N_clockIsCloseTo 14 = .ok (.if_icmp .gt 7, 3) := by decide +kernel
theorem d_N_clockIsCloseTo_17 : decode b_N_clockIsCloseTo 17 = .ok (.iconst 1, 1) := by decide +kernel
theorem d_N_clockIsCloseTo_18 : decode b_N_clockIsCloseTo 18 = .ok (.goto 4, 3) := by decide +kernel
theorem d_N_clockIsCloseTo_21 : decode b_N_clockIsCloseTo 21 = .ok (.iconst 0, 1) := by decide +kernel
theorem d_N_clockIsCloseTo_22 : decode b_N_clockIsCloseTo 22 = .ok (.ireturn, 1) := by decide +kernel
theorem d_N_failUp_0 : decode b_N_failUp 0 = .ok (.aload_n 0, 1) := by decide +kernel
theorem d_N_failUp_1 : decode b_N_failUp 1 = .ok (.dup, 1) := by decide +kernel
theorem d_N_failUp_2 : decode b_N_failUp 2 = .ok (.getfield 43, 3) := by decide +kernel
theorem d_N_failUp_5 : decode b_N_failUp 5 = .ok (.iconst 1, 1) := by decide +kernel
theorem d_N_failUp_6 : decode b_N_failUp 6 = .ok (.iadd, 1) := by decide +kernel
theorem d_N_failUp_7 : decode b_N_failUp 7 = .ok (.putfield 43, 3) := by decide +kernel
theorem d_N_failUp_10 : decode b_N_failUp 10 = .ok (.aload_n 0, 1) := by decide +kernel
theorem d_N_failUp_11 : decode b_N_failUp 11 = .ok (.getfield 43, 3) := by decide +kernel
theorem d_N_failUp_14 : decode b_N_failUp 14 = .ok (.iconst 4, 1) := by decide +kernel
theorem d_N_failUp_15 : decode b_N_failUp 15 = .ok (.if_icmp .lt 13, 3) := by decide +kernel
theorem d_N_failUp_18 : decode b_N_failUp 18 = .ok (.aload_n 0, 1) := by decide +kernel
theorem d_N_failUp_19 : decode b_N_failUp 19 = .ok (.iconst 0, 1) := by decide +kernel
theorem d_N_failUp_20 : decode b_N_failUp 20 = .ok (.putfield 43, 3) := by decide +kernel
theorem d_N_failUp_23 : decode b_N_failUp 23 = .ok (.aload_n 0, 1) := by decide +kernel
theorem d_N_failUp_24 : decode b_N_failUp 24 = .ok (.iconst 0, 1) := by decide +kernel
theorem d_N_failUp_25 : decode b_N_failUp 25 = .ok (.putfield 40, 3) := by decide +kernel
theorem d_N_failUp_28 : decode b_N_failUp 28 = .ok (.return_, 1) := by decide +kernel
theorem d_N_failDown_0 : decode b_N_failDown 0 = .ok (.aload_n 0, 1) := by decide +kernel
theorem d_N_failDown_1 : decode b_N_failDown 1 = .ok (.dup, 1) := by decide +kernel
theorem d_N_failDown_2 : decode b_N_failDown 2 = .ok (.getfield 46, 3) := by decide +kernel
theorem d_N_failDown_5 : decode b_N_failDown 5 = .ok (.iconst 1, 1) := by decide +kernel
theorem d_N_failDown_6 : decode b_N_failDown 6 = .ok (.iadd, 1) := by decide +kernel
theorem d_N_failDown_7 : decode b_N_failDown 7 = .ok (.putfield 46, 3) := by decide +kernel
theorem d_N_failDown_10 : decode b_N_failDown 10 = .ok (.aload_n 0, 1) := by decide +kernel
theorem d_N_failDown_11 : decode b_N_failDown 11 = .ok (.getfield 46, 3) := by decide +kernel
theorem d_N_failDown_14 : decode b_N_failDown 14 = .ok (.bipush 6, 2) := by decide +kernel
theorem d_N_failDown_16 : decode b_N_failDown 16 = .ok (.if_icmp .lt 15, 3) := by decide +kernel
theorem d_N_failDown_19 : decode b_N_failDown 19 = .ok (.aload_n 0, 1) := by decide +kernel
theorem d_N_failDown_20 : decode b_N_failDown 20 = .ok (.iconst 0, 1) := by decide +kernel
theorem d_N_failDown_21 : decode b_N_failDown 21 = .ok (.putfield 46, 3) := by decide +kernel
theorem d_N_failDown_24 : decode b_N_failDown 24 = .ok (.aload_n 0, 1) := by decide +kernel
theorem d_N_failDown_25 : decode b_N_failDown 25 = .ok (.getfield 26, 3) := by decide +kernel
theorem d_N_failDown_28 : decode b_N_failDown 28 = .ok (.invokevirtual 67, 3) := by decide +kernel
theorem d_N_failDown_31 : decode b_N_failDown 31 = .ok (.return_, 1) := by decide +kernel
theorem d_P_init_0 : decode b_P_init 0 = .ok (.aload_n 0, 1) := by decide +kernel
theorem d_P_init_1 : decode b_P_init 1 = .ok (.invokespecial 3, 3) := by decide +kernel
theorem d_P_init_4 : decode b_P_init 4 = .ok (.aload_n 0, 1) := by decide +kernel
theorem d_P_init_5 : decode b_P_init 5 = .ok (.iload_n 2, 1) := by decide +kernel
theorem d_P_init_6 : decode b_P_init 6 = .ok (.putfield 9, 3) := by decide +kernel
theorem d_P_init_9 : decode b_P_init 9 = .ok (.aload_n 0, 1) := by decide +kernel
theorem d_P_init_10 : decode b_P_init 10 = .ok (.iload_n 3, 1) := by decide +kernel
theorem d_P_init_11 : decode b_P_init 11 = .ok (.putfield 15, 3) := by decide +kernel
theorem d_P_init_14 : decode b_P_init 14 = .ok (.aload_n 0, 1) := by decide +kernel
theorem d_P_init_15 : decode b_P_init 15 = .ok (.iload_n 1, 1) := by decide +kernel
theorem d_P_init_16 : decode b_P_init 16 = .ok (.newarray .int, 2) := by decide +kernel
theorem d_P_init_18 : decode b_P_init 18 = .ok (.putfield 18, 3) := by decide +kernel
theorem d_P_init_21 : decode b_P_init 21 = .ok (.aload_n 0, 1) := by decide +kernel
theorem d_P_init_22 : decode b_P_init 22 = .ok (.iload_n 1, 1) := by decide +kernel
theorem d_P_init_23 : decode b_P_init 23 = .ok (.newarray .int, 2) := by decide +kernel
theorem d_P_init_25 : decode b_P_init 25 = .ok (.putfield 22, 3) := by decide +kernel
theorem d_P_init_28 : decode b_P_init 28 = .ok (.aload_n 0, 1) := by decide +kernel
theorem d_P_init_29 : decode b_P_init 29 = .ok (.iload_n 1, 1) := by decide +kernel
theorem d_P_init_30 : decode b_P_init 30 = .ok (.newarray .int, 2) := by decide +kernel
theorem d_P_init_32 : decode b_P_init 32 = .ok (.putfield 25, 3) := by decide +kernel
theorem d_P_init_35 : decode b_P_init 35 = .ok (.aload_n 0, 1) := by decide +kernel
theorem d_P_init_36 : decode b_P_init 36 = .ok (.iload_n 1, 1) := by decide +kernel
theorem d_P_init_37 : decode b_P_init 37 = .ok (.newarray .int, 2) := by decide +kernel
theorem d_P_init_39 : decode b_P_init 39 = .ok (.putfield 28, 3) := by decide +kernel
theorem d_P_init_42 : decode b_P_init 42 = .ok (.aload_n 0, 1) := by decide +kernel
theorem d_P_init_43 : decode b_P_init 43 = .ok (.iload_n 2, 1) := by decide +kernel
theorem d_P_init_44 : decode b_P_init 44 = .ok (.iload_n 3, 1) := by decide +kernel
theorem d_P_init_45 : decode b_P_init 45 = .ok (.imul, 1) := by decide +kernel
theorem d_P_init_46 : decode b_P_init 46 = .ok (.newarray .int, 2) := by decide +kernel
theorem d_P_init_48 : decode b_P_init 48 = .ok (.putfield 31, 3) := by decide +kernel
theorem d_P_init_51 : decode b_P_init 51 = .ok (.return_, 1) := by decide +kernel
theorem d_P_kindOf_0 : decode b_P_kindOf 0 = .ok (.iload_n 0, 1) := by decide +kernel
theorem d_P_kindOf_1 : decode b_P_kindOf 1 = .ok (.bipush 100, 2) := by decide +kernel
theorem d_P_kindOf_3 : decode b_P_kindOf 3 = .ok (.idiv, 1) := by decide +kernel
theorem d_P_kindOf_4 : decode b_P_kindOf 4 = .ok (.bipush 100, 2) := by decide +kernel
theorem d_P_kindOf_6 : decode b_P_kindOf 6 = .ok (.imul, 1) := by decide +kernel
theorem d_P_kindOf_7 : decode b_P_kindOf 7 = .ok (.ireturn, 1) := by decide +kernel
theorem d_P_fromOf_0 : decode b_P_fromOf 0 = .ok (.iload_n 0, 1) := by decide +kernel
theorem d_P_fromOf_1 : decode b_P_fromOf 1 = .ok (.bipush 10, 2) := by decide +kernel
theorem d_P_fromOf_3 : decode b_P_fromOf 3 = .ok (.idiv, 1) := by decide +kernel
theorem d_P_fromOf_4 : decode b_P_fromOf 4 = .ok (.bipush 10, 2) := by decide +kernel
theorem d_P_fromOf_6 : decode b_P_fromOf 6 = .ok (.irem, 1) := by decide +kernel
theorem d_P_fromOf_7 : decode b_P_fromOf 7 = .ok (.ireturn, 1) := by decide +kernel
theorem d_P_toOf_0 : decode b_P_toOf 0 = .ok (.iload_n 0, 1) := by decide +kernel
theorem d_P_toOf_1 : decode b_P_toOf 1 = .ok (.bipush 10, 2) := by decide +kernel
theorem d_P_toOf_3 : decode b_P_toOf 3 = .ok (.irem, 1) := by decide +kernel
theorem d_P_toOf_4 : decode b_P_toOf 4 = .ok (.ireturn, 1) := by decide +kernel
theorem d_P_codeAt_0 : decode b_P_codeAt 0 = .ok (.aload_n 0, 1) := by decide +kernel
theorem d_P_codeAt_1 : decode b_P_codeAt 1 = .ok (.getfield 31, 3) := by decide +kernel
theorem d_P_codeAt_4 : decode b_P_codeAt 4 = .ok (.iload_n 1, 1) := by decide +kernel
theorem d_P_codeAt_5 : decode b_P_codeAt 5 = .ok (.aload_n 0, 1) := by decide +kernel
theorem d_P_codeAt_6 : decode b_P_codeAt 6 = .ok (.getfield 15, 3) := by decide +kernel
theorem d_P_codeAt_9 : decode b_P_codeAt 9 = .ok (.imul, 1) := by decide +kernel
theorem d_P_codeAt_10 : decode b_P_codeAt 10 = .ok (.iload_n 2, 1) := by decide +kernel
theorem d_P_codeAt_11 : decode b_P_codeAt 11 = .ok (.iadd, 1) := by decide +kernel
theorem d_P_codeAt_12 : decode b_P_codeAt 12 = .ok (.iaload, 1) := by decide +kernel
theorem d_P_codeAt_13 : decode b_P_codeAt 13 = .ok (.ireturn, 1) := by decide +kernel
theorem d_P_make_0 : decode b_P_make 0 = .ok (.aload_n 0, 1) := by decide +kernel
theorem d_P_make_1 : decode b_P_make 1 = .ok (.iconst 0, 1) := by decide +kernel
theorem d_P_make_2 : decode b_P_make 2 = .ok (.putfield 34, 3) := by decide +kernel
theorem d_P_make_5 : decode b_P_make 5 = .ok (.aload_n 0, 1) := by decide +kernel
theorem d_P_make_6 : decode b_P_make 6 = .ok (.iconst 0, 1) := by decide +kernel
theorem d_P_make_7 : decode b_P_make 7 = .ok (.putfield 38, 3) := by decide +kernel
theorem d_P_make_10 : decode b_P_make 10 = .ok (.aload_n 0, 1) := by decide +kernel
theorem d_P_make_11 : decode b_P_make 11 = .ok (.getfield 31, 3) := by decide +kernel
theorem d_P_make_14 : decode b_P_make 14 = .ok (.iconst 0, 1) := by decide +kernel
theorem d_P_make_15 : decode b_P_make 15 = .ok (.invokestatic 41, 3) := by decide +kernel
theorem d_P_make_18 : decode b_P_make 18 = .ok (.aload_n 0, 1) := by decide +kernel
theorem d_P_make_19 : decode b_P_make 19 = .ok (.aload_n 1, 1) := by decide +kernel
theorem d_P_make_20 : decode b_P_make 20 = .ok (.invokevirtual 47, 3) := by decide +kernel
theorem d_P_make_23 : decode b_P_make 23 = .ok (.ifCond .ne 5, 3) := by decide +kernel
theorem d_P_make_26 : decode b_P_make 26 = .ok (.iconst 0, 1) := by decide +kernel
theorem d_P_make_27 : decode b_P_make 27 = .ok (.ireturn, 1) := by decide +kernel
theorem d_P_make_28 : decode b_P_make 28 = .ok (.aload_n 0, 1) := by decide +kernel
theorem d_P_make_29 : decode b_P_make 29 = .ok (.aload_n 1, 1) := by decide +kernel
theorem d_P_make_30 : decode b_P_make 30 = .ok (.invokevirtual 51, 3) := by decide +kernel
theorem d_P_make_33 : decode b_P_make 33 = .ok (.aload_n 0, 1) := by decide +kernel
theorem d_P_make_34 : decode b_P_make 34 = .ok (.aload_n 0, 1) := by decide +kernel
theorem d_P_make_35 : decode b_P_make 35 = .ok (.invokevirtual 55, 3) := by decide +kernel
theorem d_P_make_38 : decode b_P_make 38 = .ok (.ifCond .eq 14, 3) := by decide +kernel
theorem d_P_make_41 : decode b_P_make 41 = .ok (.aload_n 0, 1) := by decide +kernel
theorem d_P_make_42 : decode b_P_make 42 = .ok (.invokevirtual 59, 3) := by decide +kernel
theorem d_P_make_45 : decode b_P_make 45 = .ok (.ifCond .eq 7, 3) := by decide +kernel
theorem d_P_make_48 : decode b_P_make 48 = .ok (.iconst 1, 1) := by decide +kernel
theorem d_P_make_49 : decode b_P_make 49 = .ok (.goto 4, 3) := by decide +kernel
theorem d_P_make_52 : decode b_P_make 52 = .ok (.iconst 0, 1) := by decide +kernel
theorem d_P_make_53 : decode b_P_make 53 = .ok (.putfield 34, 3) := by decide +kernel
theorem d_P_make_56 : decode b_P_make 56 = .ok (.aload_n 0, 1) := by decide +kernel
theorem d_P_make_57 : decode b_P_make 57 = .ok (.getfield 34, 3) := by decide +kernel
theorem d_P_make_60 : decode b_P_make 60 = .ok (.ireturn, 1) := by decide +kernel
theorem d_P_leadsUp_0 : decode b_P_leadsUp 0 = .ok (.iload_n 1, 1) := by decide +kernel
theorem d_P_leadsUp_1 : decode b_P_leadsUp 1 = .ok (.istore_n 3, 1) := by decide +kernel
theorem d_P_leadsUp_2 : decode b_P_leadsUp 2 = .ok (.iconst 0, 1) := by decide +kernel
theorem d_P_leadsUp_3 : decode b_P_leadsUp 3 = .ok (.istore 4, 2) := by decide +kernel
theorem d_P_leadsUp_5 : decode b_P_leadsUp 5 = .ok (.iload 4, 2) := by decide +kernel
theorem d_P_leadsUp_7 : decode b_P_leadsUp 7 = .ok (.aload_n 0, 1) := by decide +kernel
theorem d_P_leadsUp_8 : decode b_P_leadsUp 8 = .ok (.getfield 22, 3) := by decide +kernel
theorem d_P_leadsUp_11 : decode b_P_leadsUp 11 = .ok (.arraylength, 1) := by decide +kernel
theorem d_P_leadsUp_12 : decode b_P_leadsUp 12 = .ok (.if_icmp .ge 28, 3) := by decide +kernel
theorem d_P_leadsUp_15 : decode b_P_leadsUp 15 = .ok (.iload_n 3, 1) := by decide +kernel
theorem d_P_leadsUp_16 : decode b_P_leadsUp 16 = .ok (.iconst (-1), 1) := by decide +kernel
theorem d_P_leadsUp_17 : decode b_P_leadsUp 17 = .ok (.if_icmp .eq 23, 3) := by decide +kernel
theorem d_P_leadsUp_20 : decode b_P_leadsUp 20 = .ok (.iload_n 3, 1) := by decide +kernel
theorem d_P_leadsUp_21 : decode b_P_leadsUp 21 = .ok (.iload_n 2, 1) := by decide +kernel
theorem d_P_leadsUp_22 : decode b_P_leadsUp 22 = .ok (.if_icmp .ne 5, 3) := by decide +kernel
theorem d_P_leadsUp_25 : decode b_P_leadsUp 25 = .ok (.iconst 1, 1) := by decide +kernel
theorem d_P_leadsUp_26 : decode b_P_leadsUp 26 = .ok (.ireturn, 1) := by decide +kernel
theorem d_P_leadsUp_27 : decode b_P_leadsUp 27 = .ok (.aload_n 0, 1) := by decide +kernel
theorem d_P_leadsUp_28 : decode b_P_leadsUp 28 = .ok (.getfield 22, 3) := by decide +kernel
theorem d_P_leadsUp_31 : decode b_P_leadsUp 31 = .ok (.iload_n 3, 1) := by decide +kernel
theorem d_P_leadsUp_32 : decode b_P_leadsUp 32 = .ok (.iaload, 1) := by decide +kernel
theorem d_P_leadsUp_33 : decode b_P_leadsUp 33 = .ok (.istore_n 3, 1) := by decide +kernel
theorem d_P_leadsUp_34 : decode b_P_leadsUp 34 = .ok (.iinc 4 1, 3) := by decide +kernel
theorem d_P_leadsUp_37 : decode b_P_leadsUp 37 = .ok (.goto (-32), 3) := by decide +kernel
theorem d_P_leadsUp_40 : decode b_P_leadsUp 40 = .ok (.iconst 0, 1) := by decide +kernel
theorem d_P_leadsUp_41 : decode b_P_leadsUp 41 = .ok (.ireturn, 1) := by decide +kernel
theorem d_P_findRanks_0 : decode b_P_findRanks 0 = .ok (.aload_n 0, 1) := by decide +kernel
theorem d_P_findRanks_1 : decode b_P_findRanks 1 = .ok (.getfield 18, 3) := by decide +kernel
theorem d_P_findRanks_4 : decode b_P_findRanks 4 = .ok (.iconst (-1), 1) := by decide +kernel
theorem d_P_findRanks_5 : decode b_P_findRanks 5 = .ok (.invokestatic 41, 3) := by decide +kernel
theorem d_P_findRanks_8 : decode b_P_findRanks 8 = .ok (.aload_n 0, 1) := by decide +kernel
theorem d_P_findRanks_9 : decode b_P_findRanks 9 = .ok (.getfield 18, 3) := by decide +kernel
theorem d_P_findRanks_12 : decode b_P_findRanks 12 = .ok (.iconst 0, 1) := by decide +kernel
theorem d_P_findRanks_13 : decode b_P_findRanks 13 = .ok (.iconst 0, 1) := by decide +kernel
theorem d_P_findRanks_14 : decode b_P_findRanks 14 = .ok (.iastore, 1) := by decide +kernel
theorem d_P_findRanks_15 : decode b_P_findRanks 15 = .ok (.aload_n 0, 1) := by decide +kernel
theorem d_P_findRanks_16 : decode b_P_findRanks 16 = .ok (.getfield 28, 3) := by decide +kernel
theorem d_P_findRanks_19 : decode b_P_findRanks 19 = .ok (.iconst 0, 1) := by decide +kernel
theorem d_P_findRanks_20 : decode b_P_findRanks 20 = .ok (.iconst 0, 1) := by decide +kernel
theorem d_P_findRanks_21 : decode b_P_findRanks 21 = .ok (.iastore, 1) := by decide +kernel
theorem d_P_findRanks_22 : decode b_P_findRanks 22 = .ok (.iconst 1, 1) := by decide +kernel
theorem d_P_findRanks_23 : decode b_P_findRanks 23 = .ok (.istore_n 2, 1) := by decide +kernel
theorem d_P_findRanks_24 : decode b_P_findRanks 24 = .ok (.iconst 1, 1) := by decide +kernel
theorem d_P_findRanks_25 : decode b_P_findRanks 25 = .ok (.istore_n 3, 1) := by decide +kernel
theorem d_P_findRanks_26 : decode b_P_findRanks 26 = .ok (.iload_n 3, 1) := by decide +kernel
theorem d_P_findRanks_27 : decode b_P_findRanks 27 = .ok (.aload_n 1, 1) := by decide +kernel
theorem d_P_findRanks_28 : decode b_P_findRanks 28 = .ok (.arraylength, 1) := by decide +kernel
theorem d_P_findRanks_29 : decode b_P_findRanks 29 = .ok (.if_icmp .ge 71, 3) := by decide +kernel
theorem d_P_findRanks_32 : decode b_P_findRanks 32 = .ok (.iconst 0, 1) := by decide +kernel
theorem d_P_findRanks_33 : decode b_P_findRanks 33 = .ok (.istore 4, 2) := by decide +kernel
theorem d_P_findRanks_35 : decode b_P_findRanks 35 = .ok (.iload 4, 2) := by decide +kernel
theorem d_P_findRanks_37 : decode b_P_findRanks 37 = .ok (.aload_n 1, 1) := by decide +kernel
theorem d_P_findRanks_38 : decode b_P_findRanks 38 = .ok (.arraylength, 1) := by decide +kernel
theorem d_P_findRanks_39 : decode b_P_findRanks 39 = .ok (.if_icmp .ge 55, 3) := by decide +kernel
theorem d_P_findRanks_42 : decode b_P_findRanks 42 = .ok (.aload_n 0, 1) := by decide +kernel
theorem d_P_findRanks_43 : decode b_P_findRanks 43 = .ok (.getfield 18, 3) := by decide +kernel
theorem d_P_findRanks_46 : decode b_P_findRanks 46 = .ok (.iload 4, 2) := by decide +kernel
end
section
theorem d_P_findRanks_48 : decode b_P_findRanks 48 = .ok (.iaload, 1) := by decide +kernel
theorem d_P_findRanks_49 : decode b_P_findRanks 49 = .ok (.iconst (-1), 1) := by decide +kernel
theorem d_P_findRanks_50 : decode b_P_findRanks 50 = .ok (.if_icmp .ne 38, 3) := by decide +kernel
theorem d_P_findRanks_53 : decode b_P_findRanks 53 = .ok (.aload_n 0, 1) := by decide +kernel
theorem d_P_findRanks_54 : decode b_P_findRanks 54 = .ok (.aload_n 1, 1) := by decide +kernel
theorem d_P_findRanks_55 : decode b_P_findRanks 55 = .ok (.iload 4, 2) := by decide +kernel
theorem d_P_findRanks_57 : decode b_P_findRanks 57 = .ok (.aaload, 1) := by decide +kernel
theorem d_P_findRanks_58 : decode b_P_findRanks 58 = .ok (.iload_n 3, 1) := by decide +kernel
theorem d_P_findRanks_59 : decode b_P_findRanks 59 = .ok (.iconst 1, 1) := by decide +kernel
theorem d_P_findRanks_60 : decode b_P_findRanks 60 = .ok (.isub, 1) := by decide +kernel
theorem d_P_findRanks_61 : decode b_P_findRanks 61 = .ok (.iconst 0, 1) := by decide +kernel
theorem d_P_findRanks_62 : decode b_P_findRanks 62 = .ok (.invokevirtual 62, 3) := by decide +kernel
theorem d_P_findRanks_65 : decode b_P_findRanks 65 = .ok (.iconst (-1), 1) := by decide +kernel
theorem d_P_findRanks_66 : decode b_P_findRanks 66 = .ok (.if_icmp .eq 22, 3) := by decide +kernel
theorem d_P_findRanks_69 : decode b_P_findRanks 69 = .ok (.aload_n 0, 1) := by decide +kernel
theorem d_P_findRanks_70 : decode b_P_findRanks 70 = .ok (.getfield 18, 3) := by decide +kernel
theorem d_P_findRanks_73 : decode b_P_findRanks 73 = .ok (.iload 4, 2) := by decide +kernel
theorem d_P_findRanks_75 : decode b_P_findRanks 75 = .ok (.iload_n 3, 1) := by decide +kernel
theorem d_P_findRanks_76 : decode b_P_findRanks 76 = .ok (.iastore, 1) := by decide +kernel
theorem d_P_findRanks_77 : decode b_P_findRanks 77 = .ok (.aload_n 0, 1) := by decide +kernel
theorem d_P_findRanks_78 : decode b_P_findRanks 78 = .ok (.getfield 28, 3) := by decide +kernel
theorem d_P_findRanks_81 : decode b_P_findRanks 81 = .ok (.iload_n 2, 1) := by decide +kernel
theorem d_P_findRanks_82 : decode b_P_findRanks 82 = .ok (.iload 4, 2) := by decide +kernel
theorem d_P_findRanks_84 : decode b_P_findRanks 84 = .ok (.iastore, 1) := by decide +kernel
theorem d_P_findRanks_85 : decode b_P_findRanks 85 = .ok (.iinc 2 1, 3) := by decide +kernel
theorem d_P_findRanks_88 : decode b_P_findRanks 88 = .ok (.iinc 4 1, 3) := by decide +kernel
theorem d_P_findRanks_91 : decode b_P_findRanks 91 = .ok (.goto (-56), 3) := by decide +kernel
theorem d_P_findRanks_94 : decode b_P_findRanks 94 = .ok (.iinc 3 1, 3) := by decide +kernel
theorem d_P_findRanks_97 : decode b_P_findRanks 97 = .ok (.goto (-71), 3) := by decide +kernel
theorem d_P_findRanks_100 : decode b_P_findRanks 100 = .ok (.iload_n 2, 1) := by decide +kernel
theorem d_P_findRanks_101 : decode b_P_findRanks 101 = .ok (.aload_n 1, 1) := by decide +kernel
theorem d_P_findRanks_102 : decode b_P_findRanks 102 = .ok (.arraylength, 1) := by decide +kernel
theorem d_P_findRanks_103 : decode b_P_findRanks 103 = .ok (.if_icmp .ne 7, 3) := by decide +kernel
theorem d_P_findRanks_106 : decode b_P_findRanks 106 = .ok (.iconst 1, 1) := by decide +kernel
theorem d_P_findRanks_107 : decode b_P_findRanks 107 = .ok (.goto 4, 3) := by decide +kernel
theorem d_P_findRanks_110 : decode b_P_findRanks 110 = .ok (.iconst 0, 1) := by decide +kernel
theorem d_P_findRanks_111 : decode b_P_findRanks 111 = .ok (.ireturn, 1) := by decide +kernel
theorem d_P_findParents_0 : decode b_P_findParents 0 = .ok (.aload_n 0, 1) := by decide +kernel
theorem d_P_findParents_1 : decode b_P_findParents 1 = .ok (.getfield 22, 3) := by decide +kernel
theorem d_P_findParents_4 : decode b_P_findParents 4 = .ok (.iconst 0, 1) := by decide +kernel
theorem d_P_findParents_5 : decode b_P_findParents 5 = .ok (.iconst (-1), 1) := by decide +kernel
theorem d_P_findParents_6 : decode b_P_findParents 6 = .ok (.iastore, 1) := by decide +kernel
theorem d_P_findParents_7 : decode b_P_findParents 7 = .ok (.aload_n 0, 1) := by decide +kernel
theorem d_P_findParents_8 : decode b_P_findParents 8 = .ok (.getfield 25, 3) := by decide +kernel
theorem d_P_findParents_11 : decode b_P_findParents 11 = .ok (.iconst 0, 1) := by decide +kernel
theorem d_P_findParents_12 : decode b_P_findParents 12 = .ok (.iconst (-1), 1) := by decide +kernel
theorem d_P_findParents_13 : decode b_P_findParents 13 = .ok (.iastore, 1) := by decide +kernel
theorem d_P_findParents_14 : decode b_P_findParents 14 = .ok (.iconst 1, 1) := by decide +kernel
theorem d_P_findParents_15 : decode b_P_findParents 15 = .ok (.istore_n 2, 1) := by decide +kernel
theorem d_P_findParents_16 : decode b_P_findParents 16 = .ok (.iload_n 2, 1) := by decide +kernel
theorem d_P_findParents_17 : decode b_P_findParents 17 = .ok (.aload_n 1, 1) := by decide +kernel
theorem d_P_findParents_18 : decode b_P_findParents 18 = .ok (.arraylength, 1) := by decide +kernel
theorem d_P_findParents_19 : decode b_P_findParents 19 = .ok (.if_icmp .ge 60, 3) := by decide +kernel
theorem d_P_findParents_22 : decode b_P_findParents 22 = .ok (.aload_n 0, 1) := by decide +kernel
theorem d_P_findParents_23 : decode b_P_findParents 23 = .ok (.getfield 22, 3) := by decide +kernel
theorem d_P_findParents_26 : decode b_P_findParents 26 = .ok (.iload_n 2, 1) := by decide +kernel
theorem d_P_findParents_27 : decode b_P_findParents 27 = .ok (.aload_n 0, 1) := by decide +kernel
theorem d_P_findParents_28 : decode b_P_findParents 28 = .ok (.aload_n 1, 1) := by decide +kernel
theorem d_P_findParents_29 : decode b_P_findParents 29 = .ok (.iload_n 2, 1) := by decide +kernel
theorem d_P_findParents_30 : decode b_P_findParents 30 = .ok (.aaload, 1) := by decide +kernel
theorem d_P_findParents_31 : decode b_P_findParents 31 = .ok (.aload_n 0, 1) := by decide +kernel
theorem d_P_findParents_32 : decode b_P_findParents 32 = .ok (.getfield 18, 3) := by decide +kernel
theorem d_P_findParents_35 : decode b_P_findParents 35 = .ok (.iload_n 2, 1) := by decide +kernel
theorem d_P_findParents_36 : decode b_P_findParents 36 = .ok (.iaload, 1) := by decide +kernel
theorem d_P_findParents_37 : decode b_P_findParents 37 = .ok (.iconst 1, 1) := by decide +kernel
theorem d_P_findParents_38 : decode b_P_findParents 38 = .ok (.isub, 1) := by decide +kernel
theorem d_P_findParents_39 : decode b_P_findParents 39 = .ok (.iconst 0, 1) := by decide +kernel
theorem d_P_findParents_40 : decode b_P_findParents 40 = .ok (.invokevirtual 62, 3) := by decide +kernel
theorem d_P_findParents_43 : decode b_P_findParents 43 = .ok (.iastore, 1) := by decide +kernel
theorem d_P_findParents_44 : decode b_P_findParents 44 = .ok (.aload_n 0, 1) := by decide +kernel
theorem d_P_findParents_45 : decode b_P_findParents 45 = .ok (.getfield 25, 3) := by decide +kernel
theorem d_P_findParents_48 : decode b_P_findParents 48 = .ok (.iload_n 2, 1) := by decide +kernel
theorem d_P_findParents_49 : decode b_P_findParents 49 = .ok (.aload_n 0, 1) := by decide +kernel
theorem d_P_findParents_50 : decode b_P_findParents 50 = .ok (.aload_n 1, 1) := by decide +kernel
theorem d_P_findParents_51 : decode b_P_findParents 51 = .ok (.iload_n 2, 1) := by decide +kernel
theorem d_P_findParents_52 : decode b_P_findParents 52 = .ok (.aaload, 1) := by decide +kernel
theorem d_P_findParents_53 : decode b_P_findParents 53 = .ok (.aload_n 0, 1) := by decide +kernel
theorem d_P_findParents_54 : decode b_P_findParents 54 = .ok (.getfield 18, 3) := by decide +kernel
theorem d_P_findParents_57 : decode b_P_findParents 57 = .ok (.iload_n 2, 1) := by decide +kernel
theorem d_P_findParents_58 : decode b_P_findParents 58 = .ok (.iaload, 1) := by decide +kernel
theorem d_P_findParents_59 : decode b_P_findParents 59 = .ok (.iconst 1, 1) := by decide +kernel
theorem d_P_findParents_60 : decode b_P_findParents 60 = .ok (.isub, 1) := by decide +kernel
theorem d_P_findParents_61 : decode b_P_findParents 61 = .ok (.aload_n 0, 1) := by decide +kernel
theorem d_P_findParents_62 : decode b_P_findParents 62 = .ok (.getfield 22, 3) := by decide +kernel
theorem d_P_findParents_65 : decode b_P_findParents 65 = .ok (.iload_n 2, 1) := by decide +kernel
theorem d_P_findParents_66 : decode b_P_findParents 66 = .ok (.iaload, 1) := by decide +kernel
theorem d_P_findParents_67 : decode b_P_findParents 67 = .ok (.iconst 1, 1) := by decide +kernel
theorem d_P_findParents_68 : decode b_P_findParents 68 = .ok (.iadd, 1) := by decide +kernel
theorem d_P_findParents_69 : decode b_P_findParents 69 = .ok (.invokevirtual 62, 3) := by decide +kernel
theorem d_P_findParents_72 : decode b_P_findParents 72 = .ok (.iastore, 1) := by decide +kernel
theorem d_P_findParents_73 : decode b_P_findParents 73 = .ok (.iinc 2 1, 3) := by decide +kernel
theorem d_P_findParents_76 : decode b_P_findParents 76 = .ok (.goto (-60), 3) := by decide +kernel
theorem d_P_findParents_79 : decode b_P_findParents 79 = .ok (.return_, 1) := by decide +kernel
theorem d_P_nextNearOfRank_0 : decode b_P_nextNearOfRank 0 = .ok (.iload_n 3, 1) := by decide +kernel
theorem d_P_nextNearOfRank_1 : decode b_P_nextNearOfRank 1 = .ok (.istore 4, 2) := by decide +kernel
theorem d_P_nextNearOfRank_3 : decode b_P_nextNearOfRank 3 = .ok (.iload 4, 2) := by decide +kernel
theorem d_P_nextNearOfRank_5 : decode b_P_nextNearOfRank 5 = .ok (.aload_n 0, 1) := by decide +kernel
theorem d_P_nextNearOfRank_6 : decode b_P_nextNearOfRank 6 = .ok (.getfield 18, 3) := by decide +kernel
theorem d_P_nextNearOfRank_9 : decode b_P_nextNearOfRank 9 = .ok (.arraylength, 1) := by decide +kernel
theorem d_P_nextNearOfRank_10 : decode b_P_nextNearOfRank 10 = .ok (.if_icmp .ge 33, 3) := by decide +kernel
theorem d_P_nextNearOfRank_13 : decode b_P_nextNearOfRank 13 = .ok (.aload_n 1, 1) := by decide +kernel
theorem d_P_nextNearOfRank_14 : decode b_P_nextNearOfRank 14 = .ok (.getfield 66, 3) := by decide +kernel
theorem d_P_nextNearOfRank_17 : decode b_P_nextNearOfRank 17 = .ok (.iload 4, 2) := by decide +kernel
theorem d_P_nextNearOfRank_19 : decode b_P_nextNearOfRank 19 = .ok (.baload, 1) := by decide +kernel
theorem d_P_nextNearOfRank_20 : decode b_P_nextNearOfRank 20 = .ok (.ifCond .eq 17, 3) := by decide +kernel
theorem d_P_nextNearOfRank_23 : decode b_P_nextNearOfRank 23 = .ok (.aload_n 0, 1) := by decide +kernel
theorem d_P_nextNearOfRank_24 : decode b_P_nextNearOfRank 24 = .ok (.getfield 18, 3) := by decide +kernel
theorem d_P_nextNearOfRank_27 : decode b_P_nextNearOfRank 27 = .ok (.iload 4, 2) := by decide +kernel
theorem d_P_nextNearOfRank_29 : decode b_P_nextNearOfRank 29 = .ok (.iaload, 1) := by decide +kernel
theorem d_P_nextNearOfRank_30 : decode b_P_nextNearOfRank 30 = .ok (.iload_n 2, 1) := by decide +kernel
theorem d_P_nextNearOfRank_31 : decode b_P_nextNearOfRank 31 = .ok (.if_icmp .ne 6, 3) := by decide +kernel
theorem d_P_nextNearOfRank_34 : decode b_P_nextNearOfRank 34 = .ok (.iload 4, 2) := by decide +kernel
theorem d_P_nextNearOfRank_36 : decode b_P_nextNearOfRank 36 = .ok (.ireturn, 1) := by decide +kernel
theorem d_P_nextNearOfRank_37 : decode b_P_nextNearOfRank 37 = .ok (.iinc 4 1, 3) := by decide +kernel
theorem d_P_nextNearOfRank_40 : decode b_P_nextNearOfRank 40 = .ok (.goto (-37), 3) := by decide +kernel
theorem d_P_nextNearOfRank_43 : decode b_P_nextNearOfRank 43 = .ok (.iconst (-1), 1) := by decide +kernel
theorem d_P_nextNearOfRank_44 : decode b_P_nextNearOfRank 44 = .ok (.ireturn, 1) := by decide +kernel
theorem d_P_placeAdverts_0 : decode b_P_placeAdverts 0 = .ok (.iconst 0, 1) := by decide +kernel
theorem d_P_placeAdverts_1 : decode b_P_placeAdverts 1 = .ok (.istore_n 1, 1) := by decide +kernel
theorem d_P_placeAdverts_2 : decode b_P_placeAdverts 2 = .ok (.iload_n 1, 1) := by decide +kernel
theorem d_P_placeAdverts_3 : decode b_P_placeAdverts 3 = .ok (.aload_n 0, 1) := by decide +kernel
theorem d_P_placeAdverts_4 : decode b_P_placeAdverts 4 = .ok (.getfield 28, 3) := by decide +kernel
theorem d_P_placeAdverts_7 : decode b_P_placeAdverts 7 = .ok (.arraylength, 1) := by decide +kernel
theorem d_P_placeAdverts_8 : decode b_P_placeAdverts 8 = .ok (.if_icmp .ge 24, 3) := by decide +kernel
theorem d_P_placeAdverts_11 : decode b_P_placeAdverts 11 = .ok (.aload_n 0, 1) := by decide +kernel
theorem d_P_placeAdverts_12 : decode b_P_placeAdverts 12 = .ok (.aload_n 0, 1) := by decide +kernel
theorem d_P_placeAdverts_13 : decode b_P_placeAdverts 13 = .ok (.getfield 28, 3) := by decide +kernel
theorem d_P_placeAdverts_16 : decode b_P_placeAdverts 16 = .ok (.iload_n 1, 1) := by decide +kernel
theorem d_P_placeAdverts_17 : decode b_P_placeAdverts 17 = .ok (.iaload, 1) := by decide +kernel
theorem d_P_placeAdverts_18 : decode b_P_placeAdverts 18 = .ok (.invokevirtual 72, 3) := by decide +kernel
theorem d_P_placeAdverts_21 : decode b_P_placeAdverts 21 = .ok (.ifCond .ne 5, 3) := by decide +kernel
theorem d_P_placeAdverts_24 : decode b_P_placeAdverts 24 = .ok (.iconst 0, 1) := by decide +kernel
theorem d_P_placeAdverts_25 : decode b_P_placeAdverts 25 = .ok (.ireturn, 1) := by decide +kernel
theorem d_P_placeAdverts_26 : decode b_P_placeAdverts 26 = .ok (.iinc 1 1, 3) := by decide +kernel
theorem d_P_placeAdverts_29 : decode b_P_placeAdverts 29 = .ok (.goto (-27), 3) := by decide +kernel
theorem d_P_placeAdverts_32 : decode b_P_placeAdverts 32 = .ok (.iconst 1, 1) := by decide +kernel
theorem d_P_placeAdverts_33 : decode b_P_placeAdverts 33 = .ok (.ireturn, 1) := by decide +kernel
theorem d_P_placeAdvert_0 : decode b_P_placeAdvert 0 = .ok (.iconst 0, 1) := by decide +kernel
theorem d_P_placeAdvert_1 : decode b_P_placeAdvert 1 = .ok (.istore_n 2, 1) := by decide +kernel
theorem d_P_placeAdvert_2 : decode b_P_placeAdvert 2 = .ok (.iload_n 2, 1) := by decide +kernel
theorem d_P_placeAdvert_3 : decode b_P_placeAdvert 3 = .ok (.aload_n 0, 1) := by decide +kernel
theorem d_P_placeAdvert_4 : decode b_P_placeAdvert 4 = .ok (.getfield 9, 3) := by decide +kernel
theorem d_P_placeAdvert_7 : decode b_P_placeAdvert 7 = .ok (.if_icmp .ge 42, 3) := by decide +kernel
theorem d_P_placeAdvert_10 : decode b_P_placeAdvert 10 = .ok (.aload_n 0, 1) := by decide +kernel
theorem d_P_placeAdvert_11 : decode b_P_placeAdvert 11 = .ok (.iload_n 2, 1) := by decide +kernel
theorem d_P_placeAdvert_12 : decode b_P_placeAdvert 12 = .ok (.iconst 0, 1) := by decide +kernel
theorem d_P_placeAdvert_13 : decode b_P_placeAdvert 13 = .ok (.invokevirtual 76, 3) := by decide +kernel
theorem d_P_placeAdvert_16 : decode b_P_placeAdvert 16 = .ok (.ifCond .ne 27, 3) := by decide +kernel
theorem d_P_placeAdvert_19 : decode b_P_placeAdvert 19 = .ok (.aload_n 0, 1) := by decide +kernel
theorem d_P_placeAdvert_20 : decode b_P_placeAdvert 20 = .ok (.iload_n 2, 1) := by decide +kernel
theorem d_P_placeAdvert_21 : decode b_P_placeAdvert 21 = .ok (.bipush 100, 2) := by decide +kernel
theorem d_P_placeAdvert_23 : decode b_P_placeAdvert 23 = .ok (.bipush 10, 2) := by decide +kernel
theorem d_P_placeAdvert_25 : decode b_P_placeAdvert 25 = .ok (.iload_n 1, 1) := by decide +kernel
theorem d_P_placeAdvert_26 : decode b_P_placeAdvert 26 = .ok (.imul, 1) := by decide +kernel
theorem d_P_placeAdvert_27 : decode b_P_placeAdvert 27 = .ok (.iadd, 1) := by decide +kernel
theorem d_P_placeAdvert_28 : decode b_P_placeAdvert 28 = .ok (.invokevirtual 80, 3) := by decide +kernel
theorem d_P_placeAdvert_31 : decode b_P_placeAdvert 31 = .ok (.aload_n 0, 1) := by decide +kernel
theorem d_P_placeAdvert_32 : decode b_P_placeAdvert 32 = .ok (.dup, 1) := by decide +kernel
theorem d_P_placeAdvert_33 : decode b_P_placeAdvert 33 = .ok (.getfield 38, 3) := by decide +kernel
theorem d_P_placeAdvert_36 : decode b_P_placeAdvert 36 = .ok (.iconst 1, 1) := by decide +kernel
theorem d_P_placeAdvert_37 : decode b_P_placeAdvert 37 = .ok (.iadd, 1) := by decide +kernel
theorem d_P_placeAdvert_38 : decode b_P_placeAdvert 38 = .ok (.putfield 38, 3) := by decide +kernel
theorem d_P_placeAdvert_41 : decode b_P_placeAdvert 41 = .ok (.iconst 1, 1) := by decide +kernel
theorem d_P_placeAdvert_42 : decode b_P_placeAdvert 42 = .ok (.ireturn, 1) := by decide +kernel
theorem d_P_placeAdvert_43 : decode b_P_placeAdvert 43 = .ok (.iinc 2 1, 3) := by decide +kernel
theorem d_P_placeAdvert_46 : decode b_P_placeAdvert 46 = .ok (.goto (-44), 3) := by decide +kernel
theorem d_P_placeAdvert_49 : decode b_P_placeAdvert 49 = .ok (.iconst 0, 1) := by decide +kernel
theorem d_P_placeAdvert_50 : decode b_P_placeAdvert 50 = .ok (.ireturn, 1) := by decide +kernel
theorem d_P_fillSlot_0 : decode b_P_fillSlot 0 = .ok (.iconst 0, 1) := by decide +kernel
theorem d_P_fillSlot_1 : decode b_P_fillSlot 1 = .ok (.istore_n 3, 1) := by decide +kernel
theorem d_P_fillSlot_2 : decode b_P_fillSlot 2 = .ok (.iload_n 3, 1) := by decide +kernel
theorem d_P_fillSlot_3 : decode b_P_fillSlot 3 = .ok (.aload_n 0, 1) := by decide +kernel
theorem d_P_fillSlot_4 : decode b_P_fillSlot 4 = .ok (.getfield 15, 3) := by decide +kernel
theorem d_P_fillSlot_7 : decode b_P_fillSlot 7 = .ok (.if_icmp .ge 23, 3) := by decide +kernel
theorem d_P_fillSlot_10 : decode b_P_fillSlot 10 = .ok (.aload_n 0, 1) := by decide +kernel
theorem d_P_fillSlot_11 : decode b_P_fillSlot 11 = .ok (.getfield 31, 3) := by decide +kernel
theorem d_P_fillSlot_14 : decode b_P_fillSlot 14 = .ok (.iload_n 1, 1) := by decide +kernel
theorem d_P_fillSlot_15 : decode b_P_fillSlot 15 = .ok (.aload_n 0, 1) := by decide +kernel
theorem d_P_fillSlot_16 : decode b_P_fillSlot 16 = .ok (.getfield 15, 3) := by decide +kernel
theorem d_P_fillSlot_19 : decode b_P_fillSlot 19 = .ok (.imul, 1) := by decide +kernel
theorem d_P_fillSlot_20 : decode b_P_fillSlot 20 = .ok (.iload_n 3, 1) := by decide +kernel
theorem d_P_fillSlot_21 : decode b_P_fillSlot 21 = .ok (.iadd, 1) := by decide +kernel
theorem d_P_fillSlot_22 : decode b_P_fillSlot 22 = .ok (.iload_n 2, 1) := by decide +kernel
theorem d_P_fillSlot_23 : decode b_P_fillSlot 23 = .ok (.iastore, 1) := by decide +kernel
theorem d_P_fillSlot_24 : decode b_P_fillSlot 24 = .ok (.iinc 3 1, 3) := by decide +kernel
theorem d_P_fillSlot_27 : decode b_P_fillSlot 27 = .ok (.goto (-25), 3) := by decide +kernel
theorem d_P_fillSlot_30 : decode b_P_fillSlot 30 = .ok (.return_, 1) := by decide +kernel
theorem d_P_placeLinks_0 : decode b_P_placeLinks 0 = .ok (.iconst 1, 1) := by decide +kernel
theorem d_P_placeLinks_1 : decode b_P_placeLinks 1 = .ok (.istore_n 1, 1) := by decide +kernel
theorem d_P_placeLinks_2 : decode b_P_placeLinks 2 = .ok (.iload_n 1, 1) := by decide +kernel
theorem d_P_placeLinks_3 : decode b_P_placeLinks 3 = .ok (.aload_n 0, 1) := by decide +kernel
theorem d_P_placeLinks_4 : decode b_P_placeLinks 4 = .ok (.getfield 28, 3) := by decide +kernel
theorem d_P_placeLinks_7 : decode b_P_placeLinks 7 = .ok (.arraylength, 1) := by decide +kernel
theorem d_P_placeLinks_8 : decode b_P_placeLinks 8 = .ok (.if_icmp .ge 88, 3) := by decide +kernel
theorem d_P_placeLinks_11 : decode b_P_placeLinks 11 = .ok (.aload_n 0, 1) := by decide +kernel
theorem d_P_placeLinks_12 : decode b_P_placeLinks 12 = .ok (.getfield 28, 3) := by decide +kernel
theorem d_P_placeLinks_15 : decode b_P_placeLinks 15 = .ok (.iload_n 1, 1) := by decide +kernel
theorem d_P_placeLinks_16 : decode b_P_placeLinks 16 = .ok (.iaload, 1) := by decide +kernel
theorem d_P_placeLinks_17 : decode b_P_placeLinks 17 = .ok (.istore_n 2, 1) := by decide +kernel
theorem d_P_placeLinks_18 : decode b_P_placeLinks 18 = .ok (.aload_n 0, 1) := by decide +kernel
theorem d_P_placeLinks_19 : decode b_P_placeLinks 19 = .ok (.getfield 22, 3) := by decide +kernel
theorem d_P_placeLinks_22 : decode b_P_placeLinks 22 = .ok (.iload_n 2, 1) := by decide +kernel
theorem d_P_placeLinks_23 : decode b_P_placeLinks 23 = .ok (.iaload, 1) := by decide +kernel
theorem d_P_placeLinks_24 : decode b_P_placeLinks 24 = .ok (.istore_n 3, 1) := by decide +kernel
theorem d_P_placeLinks_25 : decode b_P_placeLinks 25 = .ok (.aload_n 0, 1) := by decide +kernel
theorem d_P_placeLinks_26 : decode b_P_placeLinks 26 = .ok (.getfield 25, 3) := by decide +kernel
theorem d_P_placeLinks_29 : decode b_P_placeLinks 29 = .ok (.iload_n 2, 1) := by decide +kernel
theorem d_P_placeLinks_30 : decode b_P_placeLinks 30 = .ok (.iaload, 1) := by decide +kernel
theorem d_P_placeLinks_31 : decode b_P_placeLinks 31 = .ok (.istore 4, 2) := by decide +kernel
theorem d_P_placeLinks_33 : decode b_P_placeLinks 33 = .ok (.aload_n 0, 1) := by decide +kernel
theorem d_P_placeLinks_34 : decode b_P_placeLinks 34 = .ok (.sipush 200, 3) := by decide +kernel
theorem d_P_placeLinks_37 : decode b_P_placeLinks 37 = .ok (.iload_n 2, 1) := by decide +kernel
theorem d_P_placeLinks_38 : decode b_P_placeLinks 38 = .ok (.iload_n 3, 1) := by decide +kernel
theorem d_P_placeLinks_39 : decode b_P_placeLinks 39 = .ok (.invokevirtual 84, 3) := by decide +kernel
theorem d_P_placeLinks_42 : decode b_P_placeLinks 42 = .ok (.ifCond .eq 38, 3) := by decide +kernel
theorem d_P_placeLinks_45 : decode b_P_placeLinks 45 = .ok (.iload 4, 2) := by decide +kernel
theorem d_P_placeLinks_47 : decode b_P_placeLinks 47 = .ok (.iconst (-1), 1) := by decide +kernel
theorem d_P_placeLinks_48 : decode b_P_placeLinks 48 = .ok (.if_icmp .eq 16, 3) := by decide +kernel
theorem d_P_placeLinks_51 : decode b_P_placeLinks 51 = .ok (.aload_n 0, 1) := by decide +kernel
theorem d_P_placeLinks_52 : decode b_P_placeLinks 52 = .ok (.sipush 200, 3) := by decide +kernel
theorem d_P_placeLinks_55 : decode b_P_placeLinks 55 = .ok (.iload_n 2, 1) := by decide +kernel
theorem d_P_placeLinks_56 : decode b_P_placeLinks 56 = .ok (.iload 4, 2) := by decide +kernel
theorem d_P_placeLinks_58 : decode b_P_placeLinks 58 = .ok (.invokevirtual 84, 3) := by decide +kernel
theorem d_P_placeLinks_61 : decode b_P_placeLinks 61 = .ok (.ifCond .eq 19, 3) := by decide +kernel
theorem d_P_placeLinks_64 : decode b_P_placeLinks 64 = .ok (.aload_n 0, 1) := by decide +kernel
theorem d_P_placeLinks_65 : decode b_P_placeLinks 65 = .ok (.sipush 300, 3) := by decide +kernel
theorem d_P_placeLinks_68 : decode b_P_placeLinks 68 = .ok (.iload_n 3, 1) := by decide +kernel
theorem d_P_placeLinks_69 : decode b_P_placeLinks 69 = .ok (.iload_n 2, 1) := by decide +kernel
theorem d_P_placeLinks_70 : decode b_P_placeLinks 70 = .ok (.invokevirtual 84, 3) := by decide +kernel
theorem d_P_placeLinks_73 : decode b_P_placeLinks 73 = .ok (.ifCond .eq 7, 3) := by decide +kernel
theorem d_P_placeLinks_76 : decode b_P_placeLinks 76 = .ok (.iconst 1, 1) := by decide +kernel
theorem d_P_placeLinks_77 : decode b_P_placeLinks 77 = .ok (.goto 4, 3) := by decide +kernel
theorem d_P_placeLinks_80 : decode b_P_placeLinks 80 = .ok (.iconst 0, 1) := by decide +kernel
theorem d_P_placeLinks_81 : decode b_P_placeLinks 81 = .ok (.istore 5, 2) := by decide +kernel
theorem d_P_placeLinks_83 : decode b_P_placeLinks 83 = .ok (.iload 5, 2) := by decide +kernel
theorem d_P_placeLinks_85 : decode b_P_placeLinks 85 = .ok (.ifCond .ne 5, 3) := by decide +kernel
theorem d_P_placeLinks_88 : decode b_P_placeLinks 88 = .ok (.iconst 0, 1) := by decide +kernel
theorem d_P_placeLinks_89 : decode b_P_placeLinks 89 = .ok (.ireturn, 1) := by decide +kernel
theorem d_P_placeLinks_90 : decode b_P_placeLinks 90 = .ok (.iinc 1 1, 3) := by decide +kernel
theorem d_P_placeLinks_93 : decode b_P_placeLinks 93 = .ok (.goto (-91), 3) := by decide +kernel
theorem d_P_placeLinks_96 : decode b_P_placeLinks 96 = .ok (.iconst 1, 1) := by decide +kernel
theorem d_P_placeLinks_97 : decode b_P_placeLinks 97 = .ok (.ireturn, 1) := by decide +kernel
theorem d_P_placeLink_0 : decode b_P_placeLink 0 = .ok (.iconst 0, 1) := by decide +kernel
theorem d_P_placeLink_1 : decode b_P_placeLink 1 = .ok (.istore 4, 2) := by decide +kernel
theorem d_P_placeLink_3 : decode b_P_placeLink 3 = .ok (.iload 4, 2) := by decide +kernel
theorem d_P_placeLink_5 : decode b_P_placeLink 5 = .ok (.aload_n 0, 1) := by decide +kernel
theorem d_P_placeLink_6 : decode b_P_placeLink 6 = .ok (.getfield 9, 3) := by decide +kernel
theorem d_P_placeLink_9 : decode b_P_placeLink 9 = .ok (.if_icmp .ge 60, 3) := by decide +kernel
theorem d_P_placeLink_12 : decode b_P_placeLink 12 = .ok (.aload_n 0, 1) := by decide +kernel
theorem d_P_placeLink_13 : decode b_P_placeLink 13 = .ok (.iload 4, 2) := by decide +kernel
theorem d_P_placeLink_15 : decode b_P_placeLink 15 = .ok (.iload_n 2, 1) := by decide +kernel
theorem d_P_placeLink_16 : decode b_P_placeLink 16 = .ok (.iload_n 3, 1) := by decide +kernel
theorem d_P_placeLink_17 : decode b_P_placeLink 17 = .ok (.invokevirtual 88, 3) := by decide +kernel
theorem d_P_placeLink_20 : decode b_P_placeLink 20 = .ok (.istore 5, 2) := by decide +kernel
theorem d_P_placeLink_22 : decode b_P_placeLink 22 = .ok (.iload 5, 2) := by decide +kernel
theorem d_P_placeLink_24 : decode b_P_placeLink 24 = .ok (.iconst (-1), 1) := by decide +kernel
theorem d_P_placeLink_25 : decode b_P_placeLink 25 = .ok (.if_icmp .eq 38, 3) := by decide +kernel
theorem d_P_placeLink_28 : decode b_P_placeLink 28 = .ok (.aload_n 0, 1) := by decide +kernel
theorem d_P_placeLink_29 : decode b_P_placeLink 29 = .ok (.getfield 31, 3) := by decide +kernel
theorem d_P_placeLink_32 : decode b_P_placeLink 32 = .ok (.iload 4, 2) := by decide +kernel
theorem d_P_placeLink_34 : decode b_P_placeLink 34 = .ok (.aload_n 0, 1) := by decide +kernel
theorem d_P_placeLink_35 : decode b_P_placeLink 35 = .ok (.getfield 15, 3) := by decide +kernel
theorem d_P_placeLink_38 : decode b_P_placeLink 38 = .ok (.imul, 1) := by decide +kernel
theorem d_P_placeLink_39 : decode b_P_placeLink 39 = .ok (.iload 5, 2) := by decide +kernel
theorem d_P_placeLink_41 : decode b_P_placeLink 41 = .ok (.iadd, 1) := by decide +kernel
theorem d_P_placeLink_42 : decode b_P_placeLink 42 = .ok (.iload_n 1, 1) := by decide +kernel
theorem d_P_placeLink_43 : decode b_P_placeLink 43 = .ok (.bipush 10, 2) := by decide +kernel
theorem d_P_placeLink_45 : decode b_P_placeLink 45 = .ok (.iload_n 2, 1) := by decide +kernel
theorem d_P_placeLink_46 : decode b_P_placeLink 46 = .ok (.imul, 1) := by decide +kernel
theorem d_P_placeLink_47 : decode b_P_placeLink 47 = .ok (.iadd, 1) := by decide +kernel
theorem d_P_placeLink_48 : decode b_P_placeLink 48 = .ok (.iload_n 3, 1) := by decide +kernel
theorem d_P_placeLink_49 : decode b_P_placeLink 49 = .ok (.iadd, 1) := by decide +kernel
theorem d_P_placeLink_50 : decode b_P_placeLink 50 = .ok (.iastore, 1) := by decide +kernel
theorem d_P_placeLink_51 : decode b_P_placeLink 51 = .ok (.aload_n 0, 1) := by decide +kernel
theorem d_P_placeLink_52 : decode b_P_placeLink 52 = .ok (.dup, 1) := by decide +kernel
theorem d_P_placeLink_53 : decode b_P_placeLink 53 = .ok (.getfield 38, 3) := by decide +kernel
theorem d_P_placeLink_56 : decode b_P_placeLink 56 = .ok (.iconst 1, 1) := by decide +kernel
theorem d_P_placeLink_57 : decode b_P_placeLink 57 = .ok (.iadd, 1) := by decide +kernel
theorem d_P_placeLink_58 : decode b_P_placeLink 58 = .ok (.putfield 38, 3) := by decide +kernel
theorem d_P_placeLink_61 : decode b_P_placeLink 61 = .ok (.iconst 1, 1) := by decide +kernel
theorem d_P_placeLink_62 : decode b_P_placeLink 62 = .ok (.ireturn, 1) := by decide +kernel
theorem d_P_placeLink_63 : decode b_P_placeLink 63 = .ok (.iinc 4 1, 3) := by decide +kernel
theorem d_P_placeLink_66 : decode b_P_placeLink 66 = .ok (.goto (-63), 3) := by decide +kernel
theorem d_P_placeLink_69 : decode b_P_placeLink 69 = .ok (.iconst 0, 1) := by decide +kernel
theorem d_P_placeLink_70 : decode b_P_placeLink 70 = .ok (.ireturn, 1) := by decide +kernel
theorem d_P_freeChannel_0 : decode b_P_freeChannel 0 = .ok (.iconst 0, 1) := by decide +kernel
theorem d_P_freeChannel_1 : decode b_P_freeChannel 1 = .ok (.istore 4, 2) := by decide +kernel
theorem d_P_freeChannel_3 : decode b_P_freeChannel 3 = .ok (.iload 4, 2) := by decide +kernel
theorem d_P_freeChannel_5 : decode b_P_freeChannel 5 = .ok (.aload_n 0, 1) := by decide +kernel
theorem d_P_freeChannel_6 : decode b_P_freeChannel 6 = .ok (.getfield 15, 3) := by decide +kernel
theorem d_P_freeChannel_9 : decode b_P_freeChannel 9 = .ok (.if_icmp .ge 56, 3) := by decide +kernel
theorem d_P_freeChannel_12 : decode b_P_freeChannel 12 = .ok (.aload_n 0, 1) := by decide +kernel
theorem d_P_freeChannel_13 : decode b_P_freeChannel 13 = .ok (.iload_n 1, 1) := by decide +kernel
theorem d_P_freeChannel_14 : decode b_P_freeChannel 14 = .ok (.iload 4, 2) := by decide +kernel
theorem d_P_freeChannel_16 : decode b_P_freeChannel 16 = .ok (.invokevirtual 76, 3) := by decide +kernel
theorem d_P_freeChannel_19 : decode b_P_freeChannel 19 = .ok (.istore 5, 2) := by decide +kernel
theorem d_P_freeChannel_21 : decode b_P_freeChannel 21 = .ok (.iload 5, 2) := by decide +kernel
theorem d_P_freeChannel_23 : decode b_P_freeChannel 23 = .ok (.ifCond .ne 6, 3) := by decide +kernel
theorem d_P_freeChannel_26 : decode b_P_freeChannel 26 = .ok (.iload 4, 2) := by decide +kernel
theorem d_P_freeChannel_28 : decode b_P_freeChannel 28 = .ok (.ireturn, 1) := by decide +kernel
theorem d_P_freeChannel_29 : decode b_P_freeChannel 29 = .ok (.iload 5, 2) := by decide +kernel
theorem d_P_freeChannel_31 : decode b_P_freeChannel 31 = .ok (.invokestatic 92, 3) := by decide +kernel
theorem d_P_freeChannel_34 : decode b_P_freeChannel 34 = .ok (.bipush 100, 2) := by decide +kernel
theorem d_P_freeChannel_36 : decode b_P_freeChannel 36 = .ok (.if_icmp .eq 21, 3) := by decide +kernel
theorem d_P_freeChannel_39 : decode b_P_freeChannel 39 = .ok (.iload 5, 2) := by decide +kernel
theorem d_P_freeChannel_41 : decode b_P_freeChannel 41 = .ok (.iload_n 2, 1) := by decide +kernel
theorem d_P_freeChannel_42 : decode b_P_freeChannel 42 = .ok (.invokestatic 96, 3) := by decide +kernel
theorem d_P_freeChannel_45 : decode b_P_freeChannel 45 = .ok (.ifCond .ne 12, 3) := by decide +kernel
theorem d_P_freeChannel_48 : decode b_P_freeChannel 48 = .ok (.iload 5, 2) := by decide +kernel
theorem d_P_freeChannel_50 : decode b_P_freeChannel 50 = .ok (.iload_n 3, 1) := by decide +kernel
theorem d_P_freeChannel_51 : decode b_P_freeChannel 51 = .ok (.invokestatic 96, 3) := by decide +kernel
theorem d_P_freeChannel_54 : decode b_P_freeChannel 54 = .ok (.ifCond .eq 5, 3) := by decide +kernel
theorem d_P_freeChannel_57 : decode b_P_freeChannel 57 = .ok (.iconst (-1), 1) := by decide +kernel
theorem d_P_freeChannel_58 : decode b_P_freeChannel 58 = .ok (.ireturn, 1) := by decide +kernel
theorem d_P_freeChannel_59 : decode b_P_freeChannel 59 = .ok (.iinc 4 1, 3) := by decide +kernel
theorem d_P_freeChannel_62 : decode b_P_freeChannel 62 = .ok (.goto (-59), 3) := by decide +kernel
theorem d_P_freeChannel_65 : decode b_P_freeChannel 65 = .ok (.iconst (-1), 1) := by decide +kernel
theorem d_P_freeChannel_66 : decode b_P_freeChannel 66 = .ok (.ireturn, 1) := by decide +kernel
theorem d_P_touches_0 : decode b_P_touches 0 = .ok (.iload_n 0, 1) := by decide +kernel
theorem d_P_touches_1 : decode b_P_touches 1 = .ok (.invokestatic 100, 3) := by decide +kernel
theorem d_P_touches_4 : decode b_P_touches 4 = .ok (.iload_n 1, 1) := by decide +kernel
theorem d_P_touches_5 : decode b_P_touches 5 = .ok (.if_icmp .eq 11, 3) := by decide +kernel
theorem d_P_touches_8 : decode b_P_touches 8 = .ok (.iload_n 0, 1) := by decide +kernel
theorem d_P_touches_9 : decode b_P_touches 9 = .ok (.invokestatic 103, 3) := by decide +kernel
theorem d_P_touches_12 : decode b_P_touches 12 = .ok (.iload_n 1, 1) := by decide +kernel
theorem d_P_touches_13 : decode b_P_touches 13 = .ok (.if_icmp .ne 7, 3) := by decide +kernel
theorem d_P_touches_16 : decode b_P_touches 16 = .ok (.iconst 1, 1) := by decide +kernel
theorem d_P_touches_17 : decode b_P_touches 17 = .ok (.goto 4, 3) := by decide +kernel
theorem d_P_touches_20 : decode b_P_touches 20 = .ok (.iconst 0, 1) := by decide +kernel
theorem d_P_touches_21 : decode b_P_touches 21 = .ok (.ireturn, 1) := by decide +kernel
theorem d_L_cell_0 : decode b_L_cell 0 = .ok (.iload_n 1, 1) := by decide +kernel
theorem d_L_cell_1 : decode b_L_cell 1 = .ok (.aload_n 0, 1) := by decide +kernel
theorem d_L_cell_2 : decode b_L_cell 2 = .ok (.arraylength, 1) := by decide +kernel
theorem d_L_cell_3 : decode b_L_cell 3 = .ok (.if_icmp .ge 9, 3) := by decide +kernel
theorem d_L_cell_6 : decode b_L_cell 6 = .ok (.aload_n 0, 1) := by decide +kernel
theorem d_L_cell_7 : decode b_L_cell 7 = .ok (.iload_n 1, 1) := by decide +kernel
theorem d_L_cell_8 : decode b_L_cell 8 = .ok (.iaload, 1) := by decide +kernel
theorem d_L_cell_9 : decode b_L_cell 9 = .ok (.goto 4, 3) := by decide +kernel
theorem d_L_cell_12 : decode b_L_cell 12 = .ok (.iconst 0, 1) := by decide +kernel
theorem d_L_cell_13 : decode b_L_cell 13 = .ok (.ireturn, 1) := by decide +kernel
theorem d_L_law_0 : decode b_L_law 0 = .ok (.new 7, 3) := by decide +kernel
theorem d_L_law_3 : decode b_L_law 3 = .ok (.dup, 1) := by decide +kernel
theorem d_L_law_4 : decode b_L_law 4 = .ok (.aload_n 0, 1) := by decide +kernel
theorem d_L_law_5 : decode b_L_law 5 = .ok (.iconst 0, 1) := by decide +kernel
theorem d_L_law_6 : decode b_L_law 6 = .ok (.invokestatic 9, 3) := by decide +kernel
theorem d_L_law_9 : decode b_L_law 9 = .ok (.aload_n 0, 1) := by decide +kernel
theorem d_L_law_10 : decode b_L_law 10 = .ok (.iconst 1, 1) := by decide +kernel
theorem d_L_law_11 : decode b_L_law 11 = .ok (.invokestatic 9, 3) := by decide +kernel
theorem d_L_law_14 : decode b_L_law 14 = .ok (.aload_n 0, 1) := by decide +kernel
theorem d_L_law_15 : decode b_L_law 15 = .ok (.iconst 2, 1) := by decide +kernel
theorem d_L_law_16 : decode b_L_law 16 = .ok (.invokestatic 9, 3) := by decide +kernel
theorem d_L_law_19 : decode b_L_law 19 = .ok (.invokespecial 15, 3) := by decide +kernel
theorem d_L_law_22 : decode b_L_law 22 = .ok (.astore_n 1, 1) := by decide +kernel
theorem d_L_law_23 : decode b_L_law 23 = .ok (.new 18, 3) := by decide +kernel
theorem d_L_law_26 : decode b_L_law 26 = .ok (.dup, 1) := by decide +kernel
theorem d_L_law_27 : decode b_L_law 27 = .ok (.aload_n 0, 1) := by decide +kernel
theorem d_L_law_28 : decode b_L_law 28 = .ok (.iconst 0, 1) := by decide +kernel
theorem d_L_law_29 : decode b_L_law 29 = .ok (.invokestatic 9, 3) := by decide +kernel
theorem d_L_law_32 : decode b_L_law 32 = .ok (.aload_n 0, 1) := by decide +kernel
theorem d_L_law_33 : decode b_L_law 33 = .ok (.iconst 1, 1) := by decide +kernel
theorem d_L_law_34 : decode b_L_law 34 = .ok (.invokestatic 9, 3) := by decide +kernel
theorem d_L_law_37 : decode b_L_law 37 = .ok (.aload_n 0, 1) := by decide +kernel
theorem d_L_law_38 : decode b_L_law 38 = .ok (.iconst 2, 1) := by decide +kernel
theorem d_L_law_39 : decode b_L_law 39 = .ok (.invokestatic 9, 3) := by decide +kernel
theorem d_L_law_42 : decode b_L_law 42 = .ok (.invokespecial 20, 3) := by decide +kernel
theorem d_L_law_45 : decode b_L_law 45 = .ok (.astore_n 2, 1) := by decide +kernel
theorem d_L_law_46 : decode b_L_law 46 = .ok (.iconst 3, 1) := by decide +kernel
theorem d_L_law_47 : decode b_L_law 47 = .ok (.istore_n 3, 1) := by decide +kernel
theorem d_L_law_48 : decode b_L_law 48 = .ok (.iload_n 3, 1) := by decide +kernel
theorem d_L_law_49 : decode b_L_law 49 = .ok (.aload_n 0, 1) := by decide +kernel
theorem d_L_law_50 : decode b_L_law 50 = .ok (.arraylength, 1) := by decide +kernel
theorem d_L_law_51 : decode b_L_law 51 = .ok (.bipush 6, 2) := by decide +kernel
theorem d_L_law_53 : decode b_L_law 53 = .ok (.isub, 1) := by decide +kernel
theorem d_L_law_54 : decode b_L_law 54 = .ok (.if_icmp .gt 727, 3) := by decide +kernel
theorem d_L_law_57 : decode b_L_law 57 = .ok (.aload_n 0, 1) := by decide +kernel
theorem d_L_law_58 : decode b_L_law 58 = .ok (.iload_n 3, 1) := by decide +kernel
theorem d_L_law_59 : decode b_L_law 59 = .ok (.iaload, 1) := by decide +kernel
theorem d_L_law_60 : decode b_L_law 60 = .ok (.bipush 31, 2) := by decide +kernel
theorem d_L_law_62 : decode b_L_law 62 = .ok (.iand, 1) := by decide +kernel
theorem d_L_law_63 : decode b_L_law 63 = .ok (.tableswitch 712 0 18 #[89, 148, 161, 184, 207, 240, 343, 376, 429, 452, 475, 508, 541, 564, 587, 620, 653, 676, 699], 89) := by decide +kernel
theorem d_L_law_152 : decode b_L_law 152 = .ok (.aload_n 1, 1) := by decide +kernel
theorem d_L_law_153 : decode b_L_law 153 = .ok (.aload_n 0, 1) := by decide +kernel
theorem d_L_law_154 : decode b_L_law 154 = .ok (.iload_n 3, 1) := by decide +kernel
theorem d_L_law_155 : decode b_L_law 155 = .ok (.iconst 1, 1) := by decide +kernel
theorem d_L_law_156 : decode b_L_law 156 = .ok (.iadd, 1) := by decide +kernel
theorem d_L_law_157 : decode b_L_law 157 = .ok (.iaload, 1) := by decide +kernel
theorem d_L_law_158 : decode b_L_law 158 = .ok (.aload_n 0, 1) := by decide +kernel
theorem d_L_law_159 : decode b_L_law 159 = .ok (.iload_n 3, 1) := by decide +kernel
theorem d_L_law_160 : decode b_L_law 160 = .ok (.iconst 2, 1) := by decide +kernel
theorem d_L_law_161 : decode b_L_law 161 = .ok (.iadd, 1) := by decide +kernel
theorem d_L_law_162 : decode b_L_law 162 = .ok (.iaload, 1) := by decide +kernel
theorem d_L_law_163 : decode b_L_law 163 = .ok (.aload_n 0, 1) := by decide +kernel
theorem d_L_law_164 : decode b_L_law 164 = .ok (.iload_n 3, 1) := by decide +kernel
theorem d_L_law_165 : decode b_L_law 165 = .ok (.iconst 3, 1) := by decide +kernel
theorem d_L_law_166 : decode b_L_law 166 = .ok (.iadd, 1) := by decide +kernel
theorem d_L_law_167 : decode b_L_law 167 = .ok (.iaload, 1) := by decide +kernel
theorem d_L_law_168 : decode b_L_law 168 = .ok (.ifCond .eq 7, 3) := by decide +kernel
theorem d_L_law_171 : decode b_L_law 171 = .ok (.iconst 1, 1) := by decide +kernel
theorem d_L_law_172 : decode b_L_law 172 = .ok (.goto 4, 3) := by decide +kernel
theorem d_L_law_175 : decode b_L_law 175 = .ok (.iconst 0, 1) := by decide +kernel
theorem d_L_law_176 : decode b_L_law 176 = .ok (.invokevirtual 21, 3) := by decide +kernel
theorem d_L_law_179 : decode b_L_law 179 = .ok (.aload_n 2, 1) := by decide +kernel
theorem d_L_law_180 : decode b_L_law 180 = .ok (.aload_n 0, 1) := by decide +kernel
theorem d_L_law_181 : decode b_L_law 181 = .ok (.iload_n 3, 1) := by decide +kernel
theorem d_L_law_182 : decode b_L_law 182 = .ok (.iconst 1, 1) := by decide +kernel
theorem d_L_law_183 : decode b_L_law 183 = .ok (.iadd, 1) := by decide +kernel
theorem d_L_law_184 : decode b_L_law 184 = .ok (.iaload, 1) := by decide +kernel
theorem d_L_law_185 : decode b_L_law 185 = .ok (.aload_n 0, 1) := by decide +kernel
theorem d_L_law_186 : decode b_L_law 186 = .ok (.iload_n 3, 1) := by decide +kernel
theorem d_L_law_187 : decode b_L_law 187 = .ok (.iconst 2, 1) := by decide +kernel
theorem d_L_law_188 : decode b_L_law 188 = .ok (.iadd, 1) := by decide +kernel
theorem d_L_law_189 : decode b_L_law 189 = .ok (.iaload, 1) := by decide +kernel
theorem d_L_law_190 : decode b_L_law 190 = .ok (.aload_n 0, 1) := by decide +kernel
theorem d_L_law_191 : decode b_L_law 191 = .ok (.iload_n 3, 1) := by decide +kernel
theorem d_L_law_192 : decode b_L_law 192 = .ok (.iconst 3, 1) := by decide +kernel
theorem d_L_law_193 : decode b_L_law 193 = .ok (.iadd, 1) := by decide +kernel
theorem d_L_law_194 : decode b_L_law 194 = .ok (.iaload, 1) := by decide +kernel
theorem d_L_law_195 : decode b_L_law 195 = .ok (.ifCond .eq 7, 3) := by decide +kernel
theorem d_L_law_198 : decode b_L_law 198 = .ok (.iconst 1, 1) := by decide +kernel
theorem d_L_law_199 : decode b_L_law 199 = .ok (.goto 4, 3) := by decide +kernel
theorem d_L_law_202 : decode b_L_law 202 = .ok (.iconst 0, 1) := by decide +kernel
theorem d_L_law_203 : decode b_L_law 203 = .ok (.invokevirtual 25, 3) := by decide +kernel
theorem d_L_law_206 : decode b_L_law 206 = .ok (.if_icmp .eq 569, 3) := by decide +kernel
theorem d_L_law_209 : decode b_L_law 209 = .ok (.iconst 0, 1) := by decide +kernel
theorem d_L_law_210 : decode b_L_law 210 = .ok (.ireturn, 1) := by decide +kernel
theorem d_L_law_211 : decode b_L_law 211 = .ok (.aload_n 1, 1) := by decide +kernel
theorem d_L_law_212 : decode b_L_law 212 = .ok (.invokevirtual 26, 3) := by decide +kernel
theorem d_L_law_215 : decode b_L_law 215 = .ok (.aload_n 2, 1) := by decide +kernel
theorem d_L_law_216 : decode b_L_law 216 = .ok (.invokevirtual 30, 3) := by decide +kernel
theorem d_L_law_219 : decode b_L_law 219 = .ok (.if_icmp .eq 556, 3) := by decide +kernel
theorem d_L_law_222 : decode b_L_law 222 = .ok (.iconst 0, 1) := by decide +kernel
theorem d_L_law_223 : decode b_L_law 223 = .ok (.ireturn, 1) := by decide +kernel
theorem d_L_law_224 : decode b_L_law 224 = .ok (.aload_n 1, 1) := by decide +kernel
theorem d_L_law_225 : decode b_L_law 225 = .ok (.aload_n 0, 1) := by decide +kernel
theorem d_L_law_226 : decode b_L_law 226 = .ok (.iload_n 3, 1) := by decide +kernel
theorem d_L_law_227 : decode b_L_law 227 = .ok (.iconst 1, 1) := by decide +kernel
theorem d_L_law_228 : decode b_L_law 228 = .ok (.iadd, 1) := by decide +kernel
theorem d_L_law_229 : decode b_L_law 229 = .ok (.iaload, 1) := by decide +kernel
theorem d_L_law_230 : decode b_L_law 230 = .ok (.invokevirtual 31, 3) := by decide +kernel
theorem d_L_law_233 : decode b_L_law 233 = .ok (.aload_n 2, 1) := by decide +kernel
theorem d_L_law_234 : decode b_L_law 234 = .ok (.aload_n 0, 1) := by decide +kernel
theorem d_L_law_235 : decode b_L_law 235 = .ok (.iload_n 3, 1) := by decide +kernel
theorem d_L_law_236 : decode b_L_law 236 = .ok (.iconst 1, 1) := by decide +kernel
theorem d_L_law_237 : decode b_L_law 237 = .ok (.iadd, 1) := by decide +kernel
theorem d_L_law_238 : decode b_L_law 238 = .ok (.iaload, 1) := by decide +kernel
theorem d_L_law_239 : decode b_L_law 239 = .ok (.invokevirtual 35, 3) := by decide +kernel
theorem d_L_law_242 : decode b_L_law 242 = .ok (.if_icmp .eq 533, 3) := by decide +kernel
theorem d_L_law_245 : decode b_L_law 245 = .ok (.iconst 0, 1) := by decide +kernel
theorem d_L_law_246 : decode b_L_law 246 = .ok (.ireturn, 1) := by decide +kernel
theorem d_L_law_247 : decode b_L_law 247 = .ok (.aload_n 1, 1) := by decide +kernel
theorem d_L_law_248 : decode b_L_law 248 = .ok (.aload_n 0, 1) := by decide +kernel
theorem d_L_law_249 : decode b_L_law 249 = .ok (.iload_n 3, 1) := by decide +kernel
theorem d_L_law_250 : decode b_L_law 250 = .ok (.iconst 1, 1) := by decide +kernel
theorem d_L_law_251 : decode b_L_law 251 = .ok (.iadd, 1) := by decide +kernel
theorem d_L_law_252 : decode b_L_law 252 = .ok (.iaload, 1) := by decide +kernel
theorem d_L_law_253 : decode b_L_law 253 = .ok (.invokevirtual 36, 3) := by decide +kernel
theorem d_L_law_256 : decode b_L_law 256 = .ok (.aload_n 2, 1) := by decide +kernel
theorem d_L_law_257 : decode b_L_law 257 = .ok (.aload_n 0, 1) := by decide +kernel
theorem d_L_law_258 : decode b_L_law 258 = .ok (.iload_n 3, 1) := by decide +kernel
theorem d_L_law_259 : decode b_L_law 259 = .ok (.iconst 1, 1) := by decide +kernel
theorem d_L_law_260 : decode b_L_law 260 = .ok (.iadd, 1) := by decide +kernel
theorem d_L_law_261 : decode b_L_law 261 = .ok (.iaload, 1) := by decide +kernel
theorem d_L_law_262 : decode b_L_law 262 = .ok (.invokevirtual 39, 3) := by decide +kernel
theorem d_L_law_265 : decode b_L_law 265 = .ok (.if_icmp .eq 510, 3) := by decide +kernel
theorem d_L_law_268 : decode b_L_law 268 = .ok (.iconst 0, 1) := by decide +kernel
theorem d_L_law_269 : decode b_L_law 269 = .ok (.ireturn, 1) := by decide +kernel
theorem d_L_law_270 : decode b_L_law 270 = .ok (.aload_n 1, 1) := by decide +kernel
theorem d_L_law_271 : decode b_L_law 271 = .ok (.aload_n 0, 1) := by decide +kernel
theorem d_L_law_272 : decode b_L_law 272 = .ok (.iload_n 3, 1) := by decide +kernel
theorem d_L_law_273 : decode b_L_law 273 = .ok (.iconst 1, 1) := by decide +kernel
theorem d_L_law_274 : decode b_L_law 274 = .ok (.iadd, 1) := by decide +kernel
theorem d_L_law_275 : decode b_L_law 275 = .ok (.iaload, 1) := by decide +kernel
theorem d_L_law_276 : decode b_L_law 276 = .ok (.aload_n 0, 1) := by decide +kernel
theorem d_L_law_277 : decode b_L_law 277 = .ok (.iload_n 3, 1) := by decide +kernel
theorem d_L_law_278 : decode b_L_law 278 = .ok (.iconst 2, 1) := by decide +kernel
theorem d_L_law_279 : decode b_L_law 279 = .ok (.iadd, 1) := by decide +kernel
theorem d_L_law_280 : decode b_L_law 280 = .ok (.iaload, 1) := by decide +kernel
theorem d_L_law_281 : decode b_L_law 281 = .ok (.invokevirtual 40, 3) := by decide +kernel
theorem d_L_law_284 : decode b_L_law 284 = .ok (.aload_n 2, 1) := by decide +kernel
theorem d_L_law_285 : decode b_L_law 285 = .ok (.aload_n 0, 1) := by decide +kernel
theorem d_L_law_286 : decode b_L_law 286 = .ok (.iload_n 3, 1) := by decide +kernel
theorem d_L_law_287 : decode b_L_law 287 = .ok (.iconst 1, 1) := by decide +kernel
theorem d_L_law_288 : decode b_L_law 288 = .ok (.iadd, 1) := by decide +kernel
theorem d_L_law_289 : decode b_L_law 289 = .ok (.iaload, 1) := by decide +kernel
theorem d_L_law_290 : decode b_L_law 290 = .ok (.aload_n 0, 1) := by decide +kernel
theorem d_L_law_291 : decode b_L_law 291 = .ok (.iload_n 3, 1) := by decide +kernel
theorem d_L_law_292 : decode b_L_law 292 = .ok (.iconst 2, 1) := by decide +kernel
theorem d_L_law_293 : decode b_L_law 293 = .ok (.iadd, 1) := by decide +kernel
theorem d_L_law_294 : decode b_L_law 294 = .ok (.iaload, 1) := by decide +kernel
theorem d_L_law_295 : decode b_L_law 295 = .ok (.invokevirtual 44, 3) := by decide +kernel
theorem d_L_law_298 : decode b_L_law 298 = .ok (.if_icmp .eq 477, 3) := by decide +kernel
theorem d_L_law_301 : decode b_L_law 301 = .ok (.iconst 0, 1) := by decide +kernel
theorem d_L_law_302 : decode b_L_law 302 = .ok (.ireturn, 1) := by decide +kernel
theorem d_L_law_303 : decode b_L_law 303 = .ok (.aload_n 1, 1) := by decide +kernel
theorem d_L_law_304 : decode b_L_law 304 = .ok (.aload_n 0, 1) := by decide +kernel
theorem d_L_law_305 : decode b_L_law 305 = .ok (.iload_n 3, 1) := by decide +kernel
theorem d_L_law_306 : decode b_L_law 306 = .ok (.iconst 1, 1) := by decide +kernel
theorem d_L_law_307 : decode b_L_law 307 = .ok (.iadd, 1) := by decide +kernel
theorem d_L_law_308 : decode b_L_law 308 = .ok (.iaload, 1) := by decide +kernel
theorem d_L_law_309 : decode b_L_law 309 = .ok (.aload_n 0, 1) := by decide +kernel
theorem d_L_law_310 : decode b_L_law 310 = .ok (.iload_n 3, 1) := by decide +kernel
theorem d_L_law_311 : decode b_L_law 311 = .ok (.iconst 2, 1) := by decide +kernel
theorem d_L_law_312 : decode b_L_law 312 = .ok (.iadd, 1) := by decide +kernel
theorem d_L_law_313 : decode b_L_law 313 = .ok (.iaload, 1) := by decide +kernel
theorem d_L_law_314 : decode b_L_law 314 = .ok (.i2l, 1) := by decide +kernel
theorem d_L_law_315 : decode b_L_law 315 = .ok (.bipush 32, 2) := by decide +kernel
theorem d_L_law_317 : decode b_L_law 317 = .ok (.lshl, 1) := by decide +kernel
theorem d_L_law_318 : decode b_L_law 318 = .ok (.aload_n 0, 1) := by decide +kernel
theorem d_L_law_319 : decode b_L_law 319 = .ok (.iload_n 3, 1) := by decide +kernel
theorem d_L_law_320 : decode b_L_law 320 = .ok (.iconst 3, 1) := by decide +kernel
theorem d_L_law_321 : decode b_L_law 321 = .ok (.iadd, 1) := by decide +kernel
theorem d_L_law_322 : decode b_L_law 322 = .ok (.iaload, 1) := by decide +kernel
theorem d_L_law_323 : decode b_L_law 323 = .ok (.i2l, 1) := by decide +kernel
theorem d_L_law_324 : decode b_L_law 324 = .ok (.ldc2_w 45, 3) := by decide +kernel
theorem d_L_law_327 : decode b_L_law 327 = .ok (.land, 1) := by decide +kernel
theorem d_L_law_328 : decode b_L_law 328 = .ok (.lor, 1) := by decide +kernel
theorem d_L_law_329 : decode b_L_law 329 = .ok (.aload_n 0, 1) := by decide +kernel
theorem d_L_law_330 : decode b_L_law 330 = .ok (.iload_n 3, 1) := by decide +kernel
theorem d_L_law_331 : decode b_L_law 331 = .ok (.iconst 4, 1) := by decide +kernel
theorem d_L_law_332 : decode b_L_law 332 = .ok (.iadd, 1) := by decide +kernel
theorem d_L_law_333 : decode b_L_law 333 = .ok (.iaload, 1) := by decide +kernel
theorem d_L_law_334 : decode b_L_law 334 = .ok (.i2l, 1) := by decide +kernel
theorem d_L_law_335 : decode b_L_law 335 = .ok (.bipush 32, 2) := by decide +kernel
theorem d_L_law_337 : decode b_L_law 337 = .ok (.lshl, 1) := by decide +kernel
theorem d_L_law_338 : decode b_L_law 338 = .ok (.aload_n 0, 1) := by decide +kernel
theorem d_L_law_339 : decode b_L_law 339 = .ok (.iload_n 3, 1) := by decide +kernel
theorem d_L_law_340 : decode b_L_law 340 = .ok (.iconst 5, 1) := by decide +kernel
theorem d_L_law_341 : decode b_L_law 341 = .ok (.iadd, 1) := by decide +kernel
theorem d_L_law_342 : decode b_L_law 342 = .ok (.iaload, 1) := by decide +kernel
theorem d_L_law_343 : decode b_L_law 343 = .ok (.i2l, 1) := by decide +kernel
theorem d_L_law_344 : decode b_L_law 344 = .ok (.ldc2_w 45, 3) := by decide +kernel
theorem d_L_law_347 : decode b_L_law 347 = .ok (.land, 1) := by decide +kernel
theorem d_L_law_348 : decode b_L_law 348 = .ok (.lor, 1) := by decide +kernel
theorem d_L_law_349 : decode b_L_law 349 = .ok (.invokevirtual 47, 3) := by decide +kernel
theorem d_L_law_352 : decode b_L_law 352 = .ok (.aload_n 2, 1) := by decide +kernel
theorem d_L_law_353 : decode b_L_law 353 = .ok (.aload_n 0, 1) := by decide +kernel
theorem d_L_law_354 : decode b_L_law 354 = .ok (.iload_n 3, 1) := by decide +kernel
theorem d_L_law_355 : decode b_L_law 355 = .ok (.iconst 1, 1) := by decide +kernel
theorem d_L_law_356 : decode b_L_law 356 = .ok (.iadd, 1) := by decide +kernel
theorem d_L_law_357 : decode b_L_law 357 = .ok (.iaload, 1) := by decide +kernel
theorem d_L_law_358 : decode b_L_law 358 = .ok (.aload_n 0, 1) := by decide +kernel
theorem d_L_law_359 : decode b_L_law 359 = .ok (.iload_n 3, 1) := by decide +kernel
theorem d_L_law_360 : decode b_L_law 360 = .ok (.iconst 2, 1) := by decide +kernel
theorem d_L_law_361 : decode b_L_law 361 = .ok (.iadd, 1) := by decide +kernel
theorem d_L_law_362 : decode b_L_law 362 = .ok (.iaload, 1) := by decide +kernel
theorem d_L_law_363 : decode b_L_law 363 = .ok (.i2l, 1) := by decide +kernel
theorem d_L_law_364 : decode b_L_law 364 = .ok (.bipush 32, 2) := by decide +kernel
theorem d_L_law_366 : decode b_L_law 366 = .ok (.lshl, 1) := by decide +kernel
theorem d_L_law_367 : decode b_L_law 367 = .ok (.aload_n 0, 1) := by decide +kernel
theorem d_L_law_368 : decode b_L_law 368 = .ok (.iload_n 3, 1) := by decide +kernel
theorem d_L_law_369 : decode b_L_law 369 = .ok (.iconst 3, 1) := by decide +kernel
theorem d_L_law_370 : decode b_L_law 370 = .ok (.iadd, 1) := by decide +kernel
theorem d_L_law_371 : decode b_L_law 371 = .ok (.iaload, 1) := by decide +kernel
theorem d_L_law_372 : decode b_L_law 372 = .ok (.i2l, 1) := by decide +kernel
theorem d_L_law_373 : decode b_L_law 373 = .ok (.ldc2_w 45, 3) := by decide +kernel
theorem d_L_law_376 : decode b_L_law 376 = .ok (.land, 1) := by decide +kernel
theorem d_L_law_377 : decode b_L_law 377 = .ok (.lor, 1) := by decide +kernel
theorem d_L_law_378 : decode b_L_law 378 = .ok (.aload_n 0, 1) := by decide +kernel
theorem d_L_law_379 : decode b_L_law 379 = .ok (.iload_n 3, 1) := by decide +kernel
theorem d_L_law_380 : decode b_L_law 380 = .ok (.iconst 4, 1) := by decide +kernel
theorem d_L_law_381 : decode b_L_law 381 = .ok (.iadd, 1) := by decide +kernel
theorem d_L_law_382 : decode b_L_law 382 = .ok (.iaload, 1) := by decide +kernel
theorem d_L_law_383 : decode b_L_law 383 = .ok (.i2l, 1) := by decide +kernel
theorem d_L_law_384 : decode b_L_law 384 = .ok (.bipush 32, 2) := by decide +kernel
theorem d_L_law_386 : decode b_L_law 386 = .ok (.lshl, 1) := by decide +kernel
theorem d_L_law_387 : decode b_L_law 387 = .ok (.aload_n 0, 1) := by decide +kernel
theorem d_L_law_388 : decode b_L_law 388 = .ok (.iload_n 3, 1) := by decide +kernel
theorem d_L_law_389 : decode b_L_law 389 = .ok (.iconst 5, 1) := by decide +kernel
theorem d_L_law_390 : decode b_L_law 390 = .ok (.iadd, 1) := by decide +kernel
theorem d_L_law_391 : decode b_L_law 391 = .ok (.iaload, 1) := by decide +kernel
theorem d_L_law_392 : decode b_L_law 392 = .ok (.i2l, 1) := by decide +kernel
theorem d_L_law_393 : decode b_L_law 393 = .ok (.ldc2_w 45, 3) := by decide +kernel
theorem d_L_law_396 : decode b_L_law 396 = .ok (.land, 1) := by decide +kernel
theorem d_L_law_397 : decode b_L_law 397 = .ok (.lor, 1) := by decide +kernel
theorem d_L_law_398 : decode b_L_law 398 = .ok (.invokevirtual 51, 3) := by decide +kernel
theorem d_L_law_401 : decode b_L_law 401 = .ok (.if_icmp .eq 374, 3) := by decide +kernel
theorem d_L_law_404 : decode b_L_law 404 = .ok (.iconst 0, 1) := by decide +kernel
theorem d_L_law_405 : decode b_L_law 405 = .ok (.ireturn, 1) := by decide +kernel
theorem d_L_law_406 : decode b_L_law 406 = .ok (.aload_n 1, 1) := by decide +kernel
theorem d_L_law_407 : decode b_L_law 407 = .ok (.aload_n 0, 1) := by decide +kernel
theorem d_L_law_408 : decode b_L_law 408 = .ok (.iload_n 3, 1) := by decide +kernel
theorem d_L_law_409 : decode b_L_law 409 = .ok (.iconst 1, 1) := by decide +kernel
theorem d_L_law_410 : decode b_L_law 410 = .ok (.iadd, 1) := by decide +kernel
theorem d_L_law_411 : decode b_L_law 411 = .ok (.iaload, 1) := by decide +kernel
theorem d_L_law_412 : decode b_L_law 412 = .ok (.aload_n 0, 1) := by decide +kernel
theorem d_L_law_413 : decode b_L_law 413 = .ok (.iload_n 3, 1) := by decide +kernel
theorem d_L_law_414 : decode b_L_law 414 = .ok (.iconst 2, 1) := by decide +kernel
theorem d_L_law_415 : decode b_L_law 415 = .ok (.iadd, 1) := by decide +kernel
theorem d_L_law_416 : decode b_L_law 416 = .ok (.iaload, 1) := by decide +kernel
theorem d_L_law_417 : decode b_L_law 417 = .ok (.invokevirtual 52, 3) := by decide +kernel
theorem d_L_law_420 : decode b_L_law 420 = .ok (.aload_n 2, 1) := by decide +kernel
theorem d_L_law_421 : decode b_L_law 421 = .ok (.aload_n 0, 1) := by decide +kernel
theorem d_L_law_422 : decode b_L_law 422 = .ok (.iload_n 3, 1) := by decide +kernel
theorem d_L_law_423 : decode b_L_law 423 = .ok (.iconst 1, 1) := by decide +kernel
theorem d_L_law_424 : decode b_L_law 424 = .ok (.iadd, 1) := by decide +kernel
theorem d_L_law_425 : decode b_L_law 425 = .ok (.iaload, 1) := by decide +kernel
theorem d_L_law_426 : decode b_L_law 426 = .ok (.aload_n 0, 1) := by decide +kernel
theorem d_L_law_427 : decode b_L_law 427 = .ok (.iload_n 3, 1) := by decide +kernel
theorem d_L_law_428 : decode b_L_law 428 = .ok (.iconst 2, 1) := by decide +kernel
theorem d_L_law_429 : decode b_L_law 429 = .ok (.iadd, 1) := by decide +kernel
theorem d_L_law_430 : decode b_L_law 430 = .ok (.iaload, 1) := by decide +kernel
theorem d_L_law_431 : decode b_L_law 431 = .ok (.invokevirtual 56, 3) := by decide +kernel
theorem d_L_law_434 : decode b_L_law 434 = .ok (.if_icmp .eq 341, 3) := by decide +kernel
theorem d_L_law_437 : decode b_L_law 437 = .ok (.iconst 0, 1) := by decide +kernel
theorem d_L_law_438 : decode b_L_law 438 = .ok (.ireturn, 1) := by decide +kernel
theorem d_L_law_439 : decode b_L_law 439 = .ok (.aload_n 1, 1) := by decide +kernel
theorem d_L_law_440 : decode b_L_law 440 = .ok (.aload_n 0, 1) := by decide +kernel
theorem d_L_law_441 : decode b_L_law 441 = .ok (.iload_n 3, 1) := by decide +kernel
theorem d_L_law_442 : decode b_L_law 442 = .ok (.iconst 1, 1) := by decide +kernel
theorem d_L_law_443 : decode b_L_law 443 = .ok (.iadd, 1) := by decide +kernel
theorem d_L_law_444 : decode b_L_law 444 = .ok (.iaload, 1) := by decide +kernel
theorem d_L_law_445 : decode b_L_law 445 = .ok (.aload_n 0, 1) := by decide +kernel
theorem d_L_law_446 : decode b_L_law 446 = .ok (.iload_n 3, 1) := by decide +kernel
theorem d_L_law_447 : decode b_L_law 447 = .ok (.iconst 2, 1) := by decide +kernel
theorem d_L_law_448 : decode b_L_law 448 = .ok (.iadd, 1) := by decide +kernel
theorem d_L_law_449 : decode b_L_law 449 = .ok (.iaload, 1) := by decide +kernel
theorem d_L_law_450 : decode b_L_law 450 = .ok (.aload_n 0, 1) := by decide +kernel
theorem d_L_law_451 : decode b_L_law 451 = .ok (.iload_n 3, 1) := by decide +kernel
theorem d_L_law_452 : decode b_L_law 452 = .ok (.iconst 3, 1) := by decide +kernel
theorem d_L_law_453 : decode b_L_law 453 = .ok (.iadd, 1) := by decide +kernel
theorem d_L_law_454 : decode b_L_law 454 = .ok (.iaload, 1) := by decide +kernel
theorem d_L_law_455 : decode b_L_law 455 = .ok (.aload_n 0, 1) := by decide +kernel
theorem d_L_law_456 : decode b_L_law 456 = .ok (.iload_n 3, 1) := by decide +kernel
theorem d_L_law_457 : decode b_L_law 457 = .ok (.iconst 4, 1) := by decide +kernel
theorem d_L_law_458 : decode b_L_law 458 = .ok (.iadd, 1) := by decide +kernel
theorem d_L_law_459 : decode b_L_law 459 = .ok (.iaload, 1) := by decide +kernel
theorem d_L_law_460 : decode b_L_law 460 = .ok (.invokevirtual 57, 3) := by decide +kernel
theorem d_L_law_463 : decode b_L_law 463 = .ok (.aload_n 2, 1) := by decide +kernel
theorem d_L_law_464 : decode b_L_law 464 = .ok (.aload_n 0, 1) := by decide +kernel
theorem d_L_law_465 : decode b_L_law 465 = .ok (.iload_n 3, 1) := by decide +kernel
theorem d_L_law_466 : decode b_L_law 466 = .ok (.iconst 1, 1) := by decide +kernel
theorem d_L_law_467 : decode b_L_law 467 = .ok (.iadd, 1) := by decide +kernel
theorem d_L_law_468 : decode b_L_law 468 = .ok (.iaload, 1) := by decide +kernel
theorem d_L_law_469 : decode b_L_law 469 = .ok (.aload_n 0, 1) := by decide +kernel
theorem d_L_law_470 : decode b_L_law 470 = .ok (.iload_n 3, 1) := by decide +kernel
theorem d_L_law_471 : decode b_L_law 471 = .ok (.iconst 2, 1) := by decide +kernel
theorem d_L_law_472 : decode b_L_law 472 = .ok (.iadd, 1) := by decide +kernel
theorem d_L_law_473 : decode b_L_law 473 = .ok (.iaload, 1) := by decide +kernel
theorem d_L_law_474 : decode b_L_law 474 = .ok (.aload_n 0, 1) := by decide +kernel
theorem d_L_law_475 : decode b_L_law 475 = .ok (.iload_n 3, 1) := by decide +kernel
theorem d_L_law_476 : decode b_L_law 476 = .ok (.iconst 3, 1) := by decide +kernel
theorem d_L_law_477 : decode b_L_law 477 = .ok (.iadd, 1) := by decide +kernel
theorem d_L_law_478 : decode b_L_law 478 = .ok (.iaload, 1) := by decide +kernel
theorem d_L_law_479 : decode b_L_law 479 = .ok (.aload_n 0, 1) := by decide +kernel
theorem d_L_law_480 : decode b_L_law 480 = .ok (.iload_n 3, 1) := by decide +kernel
theorem d_L_law_481 : decode b_L_law 481 = .ok (.iconst 4, 1) := by decide +kernel
theorem d_L_law_482 : decode b_L_law 482 = .ok (.iadd, 1) := by decide +kernel
theorem d_L_law_483 : decode b_L_law 483 = .ok (.iaload, 1) := by decide +kernel
theorem d_L_law_484 : decode b_L_law 484 = .ok (.invokevirtual 61, 3) := by decide +kernel
theorem d_L_law_487 : decode b_L_law 487 = .ok (.if_icmp .eq 288, 3) := by decide +kernel
theorem d_L_law_490 : decode b_L_law 490 = .ok (.iconst 0, 1) := by decide +kernel
theorem d_L_law_491 : decode b_L_law 491 = .ok (.ireturn, 1) := by decide +kernel
theorem d_L_law_492 : decode b_L_law 492 = .ok (.aload_n 1, 1) := by decide +kernel
theorem d_L_law_493 : decode b_L_law 493 = .ok (.aload_n 0, 1) := by decide +kernel
theorem d_L_law_494 : decode b_L_law 494 = .ok (.iload_n 3, 1) := by decide +kernel
theorem d_L_law_495 : decode b_L_law 495 = .ok (.iconst 1, 1) := by decide +kernel
theorem d_L_law_496 : decode b_L_law 496 = .ok (.iadd, 1) := by decide +kernel
theorem d_L_law_497 : decode b_L_law 497 = .ok (.iaload, 1) := by decide +kernel
theorem d_L_law_498 : decode b_L_law 498 = .ok (.invokevirtual 62, 3) := by decide +kernel
theorem d_L_law_501 : decode b_L_law 501 = .ok (.aload_n 2, 1) := by decide +kernel
theorem d_L_law_502 : decode b_L_law 502 = .ok (.aload_n 0, 1) := by decide +kernel
theorem d_L_law_503 : decode b_L_law 503 = .ok (.iload_n 3, 1) := by decide +kernel
theorem d_L_law_504 : decode b_L_law 504 = .ok (.iconst 1, 1) := by decide +kernel
theorem d_L_law_505 : decode b_L_law 505 = .ok (.iadd, 1) := by decide +kernel
theorem d_L_law_506 : decode b_L_law 506 = .ok (.iaload, 1) := by decide +kernel
theorem d_L_law_507 : decode b_L_law 507 = .ok (.invokevirtual 66, 3) := by decide +kernel
theorem d_L_law_510 : decode b_L_law 510 = .ok (.if_icmp .eq 265, 3) := by decide +kernel
theorem d_L_law_513 : decode b_L_law 513 = .ok (.iconst 0, 1) := by decide +kernel
theorem d_L_law_514 : decode b_L_law 514 = .ok (.ireturn, 1) := by decide +kernel
theorem d_L_law_515 : decode b_L_law 515 = .ok (.aload_n 1, 1) := by decide +kernel
theorem d_L_law_516 : decode b_L_law 516 = .ok (.aload_n 0, 1) := by decide +kernel
theorem d_L_law_517 : decode b_L_law 517 = .ok (.iload_n 3, 1) := by decide +kernel
theorem d_L_law_518 : decode b_L_law 518 = .ok (.iconst 1, 1) := by decide +kernel
theorem d_L_law_519 : decode b_L_law 519 = .ok (.iadd, 1) := by decide +kernel
theorem d_L_law_520 : decode b_L_law 520 = .ok (.iaload, 1) := by decide +kernel
theorem d_L_law_521 : decode b_L_law 521 = .ok (.invokevirtual 67, 3) := by decide +kernel
theorem d_L_law_524 : decode b_L_law 524 = .ok (.aload_n 2, 1) := by decide +kernel
theorem d_L_law_525 : decode b_L_law 525 = .ok (.aload_n 0, 1) := by decide +kernel
theorem d_L_law_526 : decode b_L_law 526 = .ok (.iload_n 3, 1) := by decide +kernel
theorem d_L_law_527 : decode b_L_law 527 = .ok (.iconst 1, 1) := by decide +kernel
theorem d_L_law_528 : decode b_L_law 528 = .ok (.iadd, 1) := by decide +kernel
theorem d_L_law_529 : decode b_L_law 529 = .ok (.iaload, 1) := by decide +kernel
theorem d_L_law_530 : decode b_L_law 530 = .ok (.invokevirtual 70, 3) := by decide +kernel
theorem d_L_law_533 : decode b_L_law 533 = .ok (.if_icmp .eq 242, 3) := by decide +kernel
theorem d_L_law_536 : decode b_L_law 536 = .ok (.iconst 0, 1) := by decide +kernel
theorem d_L_law_537 : decode b_L_law 537 = .ok (.ireturn, 1) := by decide +kernel
theorem d_L_law_538 : decode b_L_law 538 = .ok (.aload_n 1, 1) := by decide +kernel
theorem d_L_law_539 : decode b_L_law 539 = .ok (.aload_n 0, 1) := by decide +kernel
theorem d_L_law_540 : decode b_L_law 540 = .ok (.iload_n 3, 1) := by decide +kernel
theorem d_L_law_541 : decode b_L_law 541 = .ok (.iconst 1, 1) := by decide +kernel
theorem d_L_law_542 : decode b_L_law 542 = .ok (.iadd, 1) := by decide +kernel
theorem d_L_law_543 : decode b_L_law 543 = .ok (.iaload, 1) := by decide +kernel
theorem d_L_law_544 : decode b_L_law 544 = .ok (.aload_n 0, 1) := by decide +kernel
theorem d_L_law_545 : decode b_L_law 545 = .ok (.iload_n 3, 1) := by decide +kernel
theorem d_L_law_546 : decode b_L_law 546 = .ok (.iconst 2, 1) := by decide +kernel
theorem d_L_law_547 : decode b_L_law 547 = .ok (.iadd, 1) := by decide +kernel
theorem d_L_law_548 : decode b_L_law 548 = .ok (.iaload, 1) := by decide +kernel
theorem d_L_law_549 : decode b_L_law 549 = .ok (.invokevirtual 71, 3) := by decide +kernel
theorem d_L_law_552 : decode b_L_law 552 = .ok (.aload_n 2, 1) := by decide +kernel
theorem d_L_law_553 : decode b_L_law 553 = .ok (.aload_n 0, 1) := by decide +kernel
theorem d_L_law_554 : decode b_L_law 554 = .ok (.iload_n 3, 1) := by decide +kernel
theorem d_L_law_555 : decode b_L_law 555 = .ok (.iconst 1, 1) := by decide +kernel
theorem d_L_law_556 : decode b_L_law 556 = .ok (.iadd, 1) := by decide +kernel
theorem d_L_law_557 : decode b_L_law 557 = .ok (.iaload, 1) := by decide +kernel
theorem d_L_law_558 : decode b_L_law 558 = .ok (.aload_n 0, 1) := by decide +kernel
theorem d_L_law_559 : decode b_L_law 559 = .ok (.iload_n 3, 1) := by decide +kernel
theorem d_L_law_560 : decode b_L_law 560 = .ok (.iconst 2, 1) := by decide +kernel
theorem d_L_law_561 : decode b_L_law 561 = .ok (.iadd, 1) := by decide +kernel
theorem d_L_law_562 : decode b_L_law 562 = .ok (.iaload, 1) := by decide +kernel
theorem d_L_law_563 : decode b_L_law 563 = .ok (.invokevirtual 74, 3) := by decide +kernel
theorem d_L_law_566 : decode b_L_law 566 = .ok (.if_icmp .eq 209, 3) := by decide +kernel
theorem d_L_law_569 : decode b_L_law 569 = .ok (.iconst 0, 1) := by decide +kernel
theorem d_L_law_570 : decode b_L_law 570 = .ok (.ireturn, 1) := by decide +kernel
theorem d_L_law_571 : decode b_L_law 571 = .ok (.aload_n 1, 1) := by decide +kernel
theorem d_L_law_572 : decode b_L_law 572 = .ok (.aload_n 0, 1) := by decide +kernel
theorem d_L_law_573 : decode b_L_law 573 = .ok (.iload_n 3, 1) := by decide +kernel
theorem d_L_law_574 : decode b_L_law 574 = .ok (.iconst 1, 1) := by decide +kernel
theorem d_L_law_575 : decode b_L_law 575 = .ok (.iadd, 1) := by decide +kernel
theorem d_L_law_576 : decode b_L_law 576 = .ok (.iaload, 1) := by decide +kernel
theorem d_L_law_577 : decode b_L_law 577 = .ok (.aload_n 0, 1) := by decide +kernel
theorem d_L_law_578 : decode b_L_law 578 = .ok (.iload_n 3, 1) := by decide +kernel
theorem d_L_law_579 : decode b_L_law 579 = .ok (.iconst 2, 1) := by decide +kernel
theorem d_L_law_580 : decode b_L_law 580 = .ok (.iadd, 1) := by decide +kernel
theorem d_L_law_581 : decode b_L_law 581 = .ok (.iaload, 1) := by decide +kernel
theorem d_L_law_582 : decode b_L_law 582 = .ok (.invokevirtual 75, 3) := by decide +kernel
theorem d_L_law_585 : decode b_L_law 585 = .ok (.aload_n 2, 1) := by decide +kernel
theorem d_L_law_586 : decode b_L_law 586 = .ok (.aload_n 0, 1) := by decide +kernel
theorem d_L_law_587 : decode b_L_law 587 = .ok (.iload_n 3, 1) := by decide +kernel
theorem d_L_law_588 : decode b_L_law 588 = .ok (.iconst 1, 1) := by decide +kernel
theorem d_L_law_589 : decode b_L_law 589 = .ok (.iadd, 1) := by decide +kernel
theorem d_L_law_590 : decode b_L_law 590 = .ok (.iaload, 1) := by decide +kernel
theorem d_L_law_591 : decode b_L_law 591 = .ok (.aload_n 0, 1) := by decide +kernel
theorem d_L_law_592 : decode b_L_law 592 = .ok (.iload_n 3, 1) := by decide +kernel
theorem d_L_law_593 : decode b_L_law 593 = .ok (.iconst 2, 1) := by decide +kernel
theorem d_L_law_594 : decode b_L_law 594 = .ok (.iadd, 1) := by decide +kernel
theorem d_L_law_595 : decode b_L_law 595 = .ok (.iaload, 1) := by decide +kernel
theorem d_L_law_596 : decode b_L_law 596 = .ok (.invokevirtual 77, 3) := by decide +kernel
theorem d_L_law_599 : decode b_L_law 599 = .ok (.if_icmp .eq 176, 3) := by decide +kernel
theorem d_L_law_602 : decode b_L_law 602 = .ok (.iconst 0, 1) := by decide +kernel
theorem d_L_law_603 : decode b_L_law 603 = .ok (.ireturn, 1) := by decide +kernel
theorem d_L_law_604 : decode b_L_law 604 = .ok (.aload_n 1, 1) := by decide +kernel
theorem d_L_law_605 : decode b_L_law 605 = .ok (.aload_n 0, 1) := by decide +kernel
theorem d_L_law_606 : decode b_L_law 606 = .ok (.iload_n 3, 1) := by decide +kernel
theorem d_L_law_607 : decode b_L_law 607 = .ok (.iconst 1, 1) := by decide +kernel
theorem d_L_law_608 : decode b_L_law 608 = .ok (.iadd, 1) := by decide +kernel
theorem d_L_law_609 : decode b_L_law 609 = .ok (.iaload, 1) := by decide +kernel
theorem d_L_law_610 : decode b_L_law 610 = .ok (.invokevirtual 78, 3) := by decide +kernel
theorem d_L_law_613 : decode b_L_law 613 = .ok (.aload_n 2, 1) := by decide +kernel
theorem d_L_law_614 : decode b_L_law 614 = .ok (.aload_n 0, 1) := by decide +kernel
theorem d_L_law_615 : decode b_L_law 615 = .ok (.iload_n 3, 1) := by decide +kernel
theorem d_L_law_616 : decode b_L_law 616 = .ok (.iconst 1, 1) := by decide +kernel
theorem d_L_law_617 : decode b_L_law 617 = .ok (.iadd, 1) := by decide +kernel
theorem d_L_law_618 : decode b_L_law 618 = .ok (.iaload, 1) := by decide +kernel
theorem d_L_law_619 : decode b_L_law 619 = .ok (.invokevirtual 81, 3) := by decide +kernel
theorem d_L_law_622 : decode b_L_law 622 = .ok (.if_icmp .eq 153, 3) := by decide +kernel
theorem d_L_law_625 : decode b_L_law 625 = .ok (.iconst 0, 1) := by decide +kernel
theorem d_L_law_626 : decode b_L_law 626 = .ok (.ireturn, 1) := by decide +kernel
theorem d_L_law_627 : decode b_L_law 627 = .ok (.aload_n 1, 1) := by decide +kernel
theorem d_L_law_628 : decode b_L_law 628 = .ok (.aload_n 0, 1) := by decide +kernel
theorem d_L_law_629 : decode b_L_law 629 = .ok (.iload_n 3, 1) := by decide +kernel
theorem d_L_law_630 : decode b_L_law 630 = .ok (.iconst 1, 1) := by decide +kernel
theorem d_L_law_631 : decode b_L_law 631 = .ok (.iadd, 1) := by decide +kernel
theorem d_L_law_632 : decode b_L_law 632 = .ok (.iaload, 1) := by decide +kernel
theorem d_L_law_633 : decode b_L_law 633 = .ok (.invokevirtual 82, 3) := by decide +kernel
theorem d_L_law_636 : decode b_L_law 636 = .ok (.aload_n 2, 1) := by decide +kernel
theorem d_L_law_637 : decode b_L_law 637 = .ok (.aload_n 0, 1) := by decide +kernel
theorem d_L_law_638 : decode b_L_law 638 = .ok (.iload_n 3, 1) := by decide +kernel
theorem d_L_law_639 : decode b_L_law 639 = .ok (.iconst 1, 1) := by decide +kernel
theorem d_L_law_640 : decode b_L_law 640 = .ok (.iadd, 1) := by decide +kernel
theorem d_L_law_641 : decode b_L_law 641 = .ok (.iaload, 1) := by decide +kernel
theorem d_L_law_642 : decode b_L_law 642 = .ok (.invokevirtual 85, 3) := by decide +kernel
theorem d_L_law_645 : decode b_L_law 645 = .ok (.if_icmp .eq 130, 3) := by decide +kernel
theorem d_L_law_648 : decode b_L_law 648 = .ok (.iconst 0, 1) := by decide +kernel
theorem d_L_law_649 : decode b_L_law 649 = .ok (.ireturn, 1) := by decide +kernel
theorem d_L_law_650 : decode b_L_law 650 = .ok (.aload_n 1, 1) := by decide +kernel
theorem d_L_law_651 : decode b_L_law 651 = .ok (.aload_n 0, 1) := by decide +kernel
theorem d_L_law_652 : decode b_L_law 652 = .ok (.iload_n 3, 1) := by decide +kernel
theorem d_L_law_653 : decode b_L_law 653 = .ok (.iconst 1, 1) := by decide +kernel
theorem d_L_law_654 : decode b_L_law 654 = .ok (.iadd, 1) := by decide +kernel
theorem d_L_law_655 : decode b_L_law 655 = .ok (.iaload, 1) := by decide +kernel
theorem d_L_law_656 : decode b_L_law 656 = .ok (.aload_n 0, 1) := by decide +kernel
theorem d_L_law_657 : decode b_L_law 657 = .ok (.iload_n 3, 1) := by decide +kernel
theorem d_L_law_658 : decode b_L_law 658 = .ok (.iconst 2, 1) := by decide +kernel
theorem d_L_law_659 : decode b_L_law 659 = .ok (.iadd, 1) := by decide +kernel
theorem d_L_law_660 : decode b_L_law 660 = .ok (.iaload, 1) := by decide +kernel
theorem d_L_law_661 : decode b_L_law 661 = .ok (.invokevirtual 86, 3) := by decide +kernel
theorem d_L_law_664 : decode b_L_law 664 = .ok (.aload_n 2, 1) := by decide +kernel
theorem d_L_law_665 : decode b_L_law 665 = .ok (.aload_n 0, 1) := by decide +kernel
theorem d_L_law_666 : decode b_L_law 666 = .ok (.iload_n 3, 1) := by decide +kernel
theorem d_L_law_667 : decode b_L_law 667 = .ok (.iconst 1, 1) := by decide +kernel
theorem d_L_law_668 : decode b_L_law 668 = .ok (.iadd, 1) := by decide +kernel
theorem d_L_law_669 : decode b_L_law 669 = .ok (.iaload, 1) := by decide +kernel
theorem d_L_law_670 : decode b_L_law 670 = .ok (.aload_n 0, 1) := by decide +kernel
theorem d_L_law_671 : decode b_L_law 671 = .ok (.iload_n 3, 1) := by decide +kernel
theorem d_L_law_672 : decode b_L_law 672 = .ok (.iconst 2, 1) := by decide +kernel
theorem d_L_law_673 : decode b_L_law 673 = .ok (.iadd, 1) := by decide +kernel
theorem d_L_law_674 : decode b_L_law 674 = .ok (.iaload, 1) := by decide +kernel
theorem d_L_law_675 : decode b_L_law 675 = .ok (.invokevirtual 89, 3) := by decide +kernel
theorem d_L_law_678 : decode b_L_law 678 = .ok (.if_icmp .eq 97, 3) := by decide +kernel
theorem d_L_law_681 : decode b_L_law 681 = .ok (.iconst 0, 1) := by decide +kernel
theorem d_L_law_682 : decode b_L_law 682 = .ok (.ireturn, 1) := by decide +kernel
theorem d_L_law_683 : decode b_L_law 683 = .ok (.aload_n 1, 1) := by decide +kernel
theorem d_L_law_684 : decode b_L_law 684 = .ok (.aload_n 0, 1) := by decide +kernel
theorem d_L_law_685 : decode b_L_law 685 = .ok (.iload_n 3, 1) := by decide +kernel
theorem d_L_law_686 : decode b_L_law 686 = .ok (.iconst 1, 1) := by decide +kernel
theorem d_L_law_687 : decode b_L_law 687 = .ok (.iadd, 1) := by decide +kernel
theorem d_L_law_688 : decode b_L_law 688 = .ok (.iaload, 1) := by decide +kernel
theorem d_L_law_689 : decode b_L_law 689 = .ok (.aload_n 0, 1) := by decide +kernel
theorem d_L_law_690 : decode b_L_law 690 = .ok (.iload_n 3, 1) := by decide +kernel
theorem d_L_law_691 : decode b_L_law 691 = .ok (.iconst 2, 1) := by decide +kernel
theorem d_L_law_692 : decode b_L_law 692 = .ok (.iadd, 1) := by decide +kernel
theorem d_L_law_693 : decode b_L_law 693 = .ok (.iaload, 1) := by decide +kernel
theorem d_L_law_694 : decode b_L_law 694 = .ok (.invokevirtual 90, 3) := by decide +kernel
theorem d_L_law_697 : decode b_L_law 697 = .ok (.aload_n 2, 1) := by decide +kernel
theorem d_L_law_698 : decode b_L_law 698 = .ok (.aload_n 0, 1) := by decide +kernel
theorem d_L_law_699 : decode b_L_law 699 = .ok (.iload_n 3, 1) := by decide +kernel
theorem d_L_law_700 : decode b_L_law 700 = .ok (.iconst 1, 1) := by decide +kernel
theorem d_L_law_701 : decode b_L_law 701 = .ok (.iadd, 1) := by decide +kernel
theorem d_L_law_702 : decode b_L_law 702 = .ok (.iaload, 1) := by decide +kernel
theorem d_L_law_703 : decode b_L_law 703 = .ok (.aload_n 0, 1) := by decide +kernel
theorem d_L_law_704 : decode b_L_law 704 = .ok (.iload_n 3, 1) := by decide +kernel
theorem d_L_law_705 : decode b_L_law 705 = .ok (.iconst 2, 1) := by decide +kernel
theorem d_L_law_706 : decode b_L_law 706 = .ok (.iadd, 1) := by decide +kernel
theorem d_L_law_707 : decode b_L_law 707 = .ok (.iaload, 1) := by decide +kernel
theorem d_L_law_708 : decode b_L_law 708 = .ok (.invokevirtual 93, 3) := by decide +kernel
theorem d_L_law_711 : decode b_L_law 711 = .ok (.if_icmp .eq 64, 3) := by decide +kernel
theorem d_L_law_714 : decode b_L_law 714 = .ok (.iconst 0, 1) := by decide +kernel
theorem d_L_law_715 : decode b_L_law 715 = .ok (.ireturn, 1) := by decide +kernel
theorem d_L_law_716 : decode b_L_law 716 = .ok (.aload_n 1, 1) := by decide +kernel
theorem d_L_law_717 : decode b_L_law 717 = .ok (.aload_n 0, 1) := by decide +kernel
theorem d_L_law_718 : decode b_L_law 718 = .ok (.iload_n 3, 1) := by decide +kernel
theorem d_L_law_719 : decode b_L_law 719 = .ok (.iconst 1, 1) := by decide +kernel
theorem d_L_law_720 : decode b_L_law 720 = .ok (.iadd, 1) := by decide +kernel
theorem d_L_law_721 : decode b_L_law 721 = .ok (.iaload, 1) := by decide +kernel
theorem d_L_law_722 : decode b_L_law 722 = .ok (.invokevirtual 94, 3) := by decide +kernel
theorem d_L_law_725 : decode b_L_law 725 = .ok (.aload_n 2, 1) := by decide +kernel
theorem d_L_law_726 : decode b_L_law 726 = .ok (.aload_n 0, 1) := by decide +kernel
theorem d_L_law_727 : decode b_L_law 727 = .ok (.iload_n 3, 1) := by decide +kernel
theorem d_L_law_728 : decode b_L_law 728 = .ok (.iconst 1, 1) := by decide +kernel
theorem d_L_law_729 : decode b_L_law 729 = .ok (.iadd, 1) := by decide +kernel
theorem d_L_law_730 : decode b_L_law 730 = .ok (.iaload, 1) := by decide +kernel
theorem d_L_law_731 : decode b_L_law 731 = .ok (.invokevirtual 97, 3) := by decide +kernel
theorem d_L_law_734 : decode b_L_law 734 = .ok (.if_icmp .eq 41, 3) := by decide +kernel
theorem d_L_law_737 : decode b_L_law 737 = .ok (.iconst 0, 1) := by decide +kernel
theorem d_L_law_738 : decode b_L_law 738 = .ok (.ireturn, 1) := by decide +kernel
theorem d_L_law_739 : decode b_L_law 739 = .ok (.aload_n 1, 1) := by decide +kernel
theorem d_L_law_740 : decode b_L_law 740 = .ok (.aload_n 0, 1) := by decide +kernel
theorem d_L_law_741 : decode b_L_law 741 = .ok (.iload_n 3, 1) := by decide +kernel
theorem d_L_law_742 : decode b_L_law 742 = .ok (.iconst 1, 1) := by decide +kernel
theorem d_L_law_743 : decode b_L_law 743 = .ok (.iadd, 1) := by decide +kernel
theorem d_L_law_744 : decode b_L_law 744 = .ok (.iaload, 1) := by decide +kernel
theorem d_L_law_745 : decode b_L_law 745 = .ok (.invokevirtual 98, 3) := by decide +kernel
theorem d_L_law_748 : decode b_L_law 748 = .ok (.aload_n 2, 1) := by decide +kernel
theorem d_L_law_749 : decode b_L_law 749 = .ok (.aload_n 0, 1) := by decide +kernel
theorem d_L_law_750 : decode b_L_law 750 = .ok (.iload_n 3, 1) := by decide +kernel
theorem d_L_law_751 : decode b_L_law 751 = .ok (.iconst 1, 1) := by decide +kernel
theorem d_L_law_752 : decode b_L_law 752 = .ok (.iadd, 1) := by decide +kernel
theorem d_L_law_753 : decode b_L_law 753 = .ok (.iaload, 1) := by decide +kernel
theorem d_L_law_754 : decode b_L_law 754 = .ok (.invokevirtual 101, 3) := by decide +kernel
theorem d_L_law_757 : decode b_L_law 757 = .ok (.if_icmp .eq 18, 3) := by decide +kernel
theorem d_L_law_760 : decode b_L_law 760 = .ok (.iconst 0, 1) := by decide +kernel
theorem d_L_law_761 : decode b_L_law 761 = .ok (.ireturn, 1) := by decide +kernel
theorem d_L_law_762 : decode b_L_law 762 = .ok (.aload_n 1, 1) := by decide +kernel
theorem d_L_law_763 : decode b_L_law 763 = .ok (.invokevirtual 102, 3) := by decide +kernel
theorem d_L_law_766 : decode b_L_law 766 = .ok (.aload_n 2, 1) := by decide +kernel
theorem d_L_law_767 : decode b_L_law 767 = .ok (.invokevirtual 105, 3) := by decide +kernel
theorem d_L_law_770 : decode b_L_law 770 = .ok (.if_icmp .eq 5, 3) := by decide +kernel
theorem d_L_law_773 : decode b_L_law 773 = .ok (.iconst 0, 1) := by decide +kernel
theorem d_L_law_774 : decode b_L_law 774 = .ok (.ireturn, 1) := by decide +kernel
theorem d_L_law_775 : decode b_L_law 775 = .ok (.iinc 3 6, 3) := by decide +kernel
theorem d_L_law_778 : decode b_L_law 778 = .ok (.goto (-730), 3) := by decide +kernel
theorem d_L_law_781 : decode b_L_law 781 = .ok (.iconst 1, 1) := by decide +kernel
theorem d_L_law_782 : decode b_L_law 782 = .ok (.ireturn, 1) := by decide +kernel
theorem d_B_init_0 : decode b_B_init 0 = .ok (.return_, 1) := by decide +kernel
theorem d_T_abs_0 : decode b_T_abs 0 = .ok (.iload_n 0, 1) := by decide +kernel
theorem d_T_abs_1 : decode b_T_abs 1 = .ok (.ifCond .ge 8, 3) := by decide +kernel
theorem d_T_abs_4 : decode b_T_abs 4 = .ok (.iload_n 0, 1) := by decide +kernel
theorem d_T_abs_5 : decode b_T_abs 5 = .ok (.ineg, 1) := by decide +kernel
theorem d_T_abs_6 : decode b_T_abs 6 = .ok (.goto 4, 3) := by decide +kernel
theorem d_T_abs_9 : decode b_T_abs 9 = .ok (.iload_n 0, 1) := by decide +kernel
theorem d_T_abs_10 : decode b_T_abs 10 = .ok (.ireturn, 1) := by decide +kernel
theorem d_T_floorDiv_0 : decode b_T_floorDiv 0 = .ok (.iload_n 0, 1) := by decide +kernel
theorem d_T_floorDiv_1 : decode b_T_floorDiv 1 = .ok (.iload_n 1, 1) := by decide +kernel
theorem d_T_floorDiv_2 : decode b_T_floorDiv 2 = .ok (.idiv, 1) := by decide +kernel
theorem d_T_floorDiv_3 : decode b_T_floorDiv 3 = .ok (.istore_n 2, 1) := by decide +kernel
theorem d_T_floorDiv_4 : decode b_T_floorDiv 4 = .ok (.iload_n 0, 1) := by decide +kernel
theorem d_T_floorDiv_5 : decode b_T_floorDiv 5 = .ok (.iload_n 1, 1) := by decide +kernel
theorem d_T_floorDiv_6 : decode b_T_floorDiv 6 = .ok (.ixor, 1) := by decide +kernel
theorem d_T_floorDiv_7 : decode b_T_floorDiv 7 = .ok (.ifCond .ge 14, 3) := by decide +kernel
theorem d_T_floorDiv_10 : decode b_T_floorDiv 10 = .ok (.iload_n 2, 1) := by decide +kernel
theorem d_T_floorDiv_11 : decode b_T_floorDiv 11 = .ok (.iload_n 1, 1) := by decide +kernel
theorem d_T_floorDiv_12 : decode b_T_floorDiv 12 = .ok (.imul, 1) := by decide +kernel
theorem d_T_floorDiv_13 : decode b_T_floorDiv 13 = .ok (.iload_n 0, 1) := by decide +kernel
theorem d_T_floorDiv_14 : decode b_T_floorDiv 14 = .ok (.if_icmp .eq 7, 3) := by decide +kernel
theorem d_T_floorDiv_17 : decode b_T_floorDiv 17 = .ok (.iload_n 2, 1) := by decide +kernel
theorem d_T_floorDiv_18 : decode b_T_floorDiv 18 = .ok (.iconst 1, 1) := by decide +kernel
theorem d_T_floorDiv_19 : decode b_T_floorDiv 19 = .ok (.isub, 1) := by decide +kernel
theorem d_T_floorDiv_20 : decode b_T_floorDiv 20 = .ok (.ireturn, 1) := by decide +kernel
theorem d_T_floorDiv_21 : decode b_T_floorDiv 21 = .ok (.iload_n 2, 1) := by decide +kernel
theorem d_T_floorDiv_22 : decode b_T_floorDiv 22 = .ok (.ireturn, 1) := by decide +kernel
theorem d_T_floorMod_0 : decode b_T_floorMod 0 = .ok (.iload_n 0, 1) := by decide +kernel
theorem d_T_floorMod_1 : decode b_T_floorMod 1 = .ok (.iload_n 1, 1) := by decide +kernel
theorem d_T_floorMod_2 : decode b_T_floorMod 2 = .ok (.irem, 1) := by decide +kernel
theorem d_T_floorMod_3 : decode b_T_floorMod 3 = .ok (.istore_n 2, 1) := by decide +kernel
theorem d_T_floorMod_4 : decode b_T_floorMod 4 = .ok (.iload_n 0, 1) := by decide +kernel
theorem d_T_floorMod_5 : decode b_T_floorMod 5 = .ok (.iload_n 1, 1) := by decide +kernel
theorem d_T_floorMod_6 : decode b_T_floorMod 6 = .ok (.ixor, 1) := by decide +kernel
theorem d_T_floorMod_7 : decode b_T_floorMod 7 = .ok (.ifCond .ge 11, 3) := by decide +kernel
theorem d_T_floorMod_10 : decode b_T_floorMod 10 = .ok (.iload_n 2, 1) := by decide +kernel
theorem d_T_floorMod_11 : decode b_T_floorMod 11 = .ok (.ifCond .eq 7, 3) := by decide +kernel
theorem d_T_floorMod_14 : decode b_T_floorMod 14 = .ok (.iload_n 2, 1) := by decide +kernel
theorem d_T_floorMod_15 : decode b_T_floorMod 15 = .ok (.iload_n 1, 1) := by decide +kernel
theorem d_T_floorMod_16 : decode b_T_floorMod 16 = .ok (.iadd, 1) := by decide +kernel
theorem d_T_floorMod_17 : decode b_T_floorMod 17 = .ok (.ireturn, 1) := by decide +kernel
theorem d_T_floorMod_18 : decode b_T_floorMod 18 = .ok (.iload_n 2, 1) := by decide +kernel
theorem d_T_floorMod_19 : decode b_T_floorMod 19 = .ok (.ireturn, 1) := by decide +kernel
theorem d_T_max_0 : decode b_T_max 0 = .ok (.iload_n 0, 1) := by decide +kernel
theorem d_T_max_1 : decode b_T_max 1 = .ok (.iload_n 1, 1) := by decide +kernel
theorem d_T_max_2 : decode b_T_max 2 = .ok (.if_icmp .lt 7, 3) := by decide +kernel
theorem d_T_max_5 : decode b_T_max 5 = .ok (.iload_n 0, 1) := by decide +kernel
theorem d_T_max_6 : decode b_T_max 6 = .ok (.goto 4, 3) := by decide +kernel
theorem d_T_max_9 : decode b_T_max 9 = .ok (.iload_n 1, 1) := by decide +kernel
theorem d_T_max_10 : decode b_T_max 10 = .ok (.ireturn, 1) := by decide +kernel
theorem d_T_min_0 : decode b_T_min 0 = .ok (.iload_n 0, 1) := by decide +kernel
theorem d_T_min_1 : decode b_T_min 1 = .ok (.iload_n 1, 1) := by decide +kernel
theorem d_T_min_2 : decode b_T_min 2 = .ok (.if_icmp .gt 7, 3) := by decide +kernel
theorem d_T_min_5 : decode b_T_min 5 = .ok (.iload_n 0, 1) := by decide +kernel
theorem d_T_min_6 : decode b_T_min 6 = .ok (.goto 4, 3) := by decide +kernel
theorem d_T_min_9 : decode b_T_min 9 = .ok (.iload_n 1, 1) := by decide +kernel
theorem d_T_min_10 : decode b_T_min 10 = .ok (.ireturn, 1) := by decide +kernel
theorem d_A_fill_0 : decode b_A_fill 0 = .ok (.iconst 0, 1) := by decide +kernel
theorem d_A_fill_1 : decode b_A_fill 1 = .ok (.istore_n 2, 1) := by decide +kernel
theorem d_A_fill_2 : decode b_A_fill 2 = .ok (.aload_n 0, 1) := by decide +kernel
theorem d_A_fill_3 : decode b_A_fill 3 = .ok (.arraylength, 1) := by decide +kernel
theorem d_A_fill_4 : decode b_A_fill 4 = .ok (.istore_n 3, 1) := by decide +kernel
theorem d_A_fill_5 : decode b_A_fill 5 = .ok (.iload_n 2, 1) := by decide +kernel
theorem d_A_fill_6 : decode b_A_fill 6 = .ok (.iload_n 3, 1) := by decide +kernel
theorem d_A_fill_7 : decode b_A_fill 7 = .ok (.if_icmp .ge 13, 3) := by decide +kernel
theorem d_A_fill_10 : decode b_A_fill 10 = .ok (.aload_n 0, 1) := by decide +kernel
theorem d_A_fill_11 : decode b_A_fill 11 = .ok (.iload_n 2, 1) := by decide +kernel
theorem d_A_fill_12 : decode b_A_fill 12 = .ok (.iload_n 1, 1) := by decide +kernel
theorem d_A_fill_13 : decode b_A_fill 13 = .ok (.iastore, 1) := by decide +kernel
theorem d_A_fill_14 : decode b_A_fill 14 = .ok (.iinc 2 1, 3) := by decide +kernel
theorem d_A_fill_17 : decode b_A_fill 17 = .ok (.goto (-12), 3) := by decide +kernel
theorem d_A_fill_20 : decode b_A_fill 20 = .ok (.return_, 1) := by decide +kernel
end
section
/-! A heap by kinds: cell (k, i) is the i-th object or array of kind k; its places hold naturals, ints, longs or references that the kind's table names. -/
abbrev UU : Type := (Nat → Nat → Nat → Nat) × (Nat → Nat → Nat → Int32) × (Nat → Nat → Nat → Int64) × (Nat → Nat)
abbrev KS : Type := (Nat × List (Nat × Nat)) ⊕ (Nat × FieldType × Nat)
abbrev PV : Type := (va_G × List vw_C × List (ClassId × FieldType)) × ((Nat → KS) × (Nat → Nat → Nat) × (Nat → ClassId) × (Nat → Nat)) × ((Nat → Nat) × List Nat)
abbrev pv_D (V : PV) : va_G := V.1.1
abbrev pv_cl (V : PV) : List vw_C := V.1.2.1
abbrev pv_tys (V : PV) : List (ClassId × FieldType) := V.1.2.2
abbrev pv_sh (V : PV) : Nat → KS := V.2.1.1
abbrev pv_ad (V : PV) : Nat → Nat → Nat := V.2.1.2.1
abbrev pv_ca (V : PV) : Nat → ClassId := V.2.1.2.2.1
abbrev pv_ln (V : PV) : Nat → Nat := V.2.1.2.2.2
abbrev pv_bd (V : PV) : Nat → Nat := V.2.2.1
abbrev pv_L (V : PV) : List Nat := V.2.2.2
abbrev pv_A (V : PV) : Nat → Prop := fun q => q ∈ pv_L V
/-- a field's value: 0 a natural, 1 an int, 2 a long, 3 the cell of kind t.2 with the same number, 4 and 5 the cells 2i and 2i+1, 6 one that moves, 7 the cell's own number, 8 the number t.2 -/
def pv_f (V : PV) (u : UU) (k i j : Nat) (t : Nat × Nat) : Value := match t.1 with
  | 0 => .int (nI (u.1 k i j))
  | 1 => .int (u.2.1 k i j)
  | 2 => .long (u.2.2.1 k i j)
  | 3 => .ref (pv_ad V t.2 i)
  | 4 => .ref (pv_ad V t.2 (2 * i))
  | 5 => .ref (pv_ad V t.2 (2 * i + 1))
  | 6 => .ref (pv_ad V t.2 (u.2.2.2 j))
  | 7 => .int (nI i)
  | _ => .int (nI t.2)
def pv_o (V : PV) (u : UU) (k i : Nat) (ts : List (Nat × Nat)) : List Value := (List.range ts.length).map fun j => pv_f V u k i j (ts.getD j (0, 0))
def pv_c (V : PV) (u : UU) (k i : Nat) : va_E := match pv_sh V k with
  | .inl (ci, ts) => .inr (ci, pv_o V u k i ts)
  | .inr (0, _, _) => .inl (pv_ca V k, pv_ln V k, .inl fun j => nI (u.1 k i j))
  | .inr (1, _, _) => .inl (pv_ca V k, pv_ln V k, .inl fun j => u.2.1 k i j)
  | .inr (2, _, _) => .inl (pv_ca V k, pv_ln V k, .inr (.inl fun j => u.2.2.1 k i j))
  | .inr (_, _, k2) => .inl (pv_ca V k, pv_ln V k, .inr (.inr (.inr (.inr fun j => some (pv_ad V k2 j)))))
theorem pv_c_o {V : PV} {k ci : Nat} {ts : List (Nat × Nat)} (h : pv_sh V k = .inl (ci, ts)) (u : UU) (i : Nat) : pv_c V u k i = .inr (ci, pv_o V u k i ts) := by
  unfold pv_c; rw [h] <;> rfl
theorem pv_c_0 {V : PV} {k k2 : Nat} {ty : FieldType} (h : pv_sh V k = .inr (0, ty, k2)) (u : UU) (i : Nat) : pv_c V u k i = .inl (pv_ca V k, pv_ln V k, .inl fun j => nI (u.1 k i j)) := by
  unfold pv_c; rw [h] <;> rfl
theorem pv_c_1 {V : PV} {k k2 : Nat} {ty : FieldType} (h : pv_sh V k = .inr (1, ty, k2)) (u : UU) (i : Nat) : pv_c V u k i = .inl (pv_ca V k, pv_ln V k, .inl fun j => u.2.1 k i j) := by
  unfold pv_c; rw [h] <;> rfl
theorem pv_c_2 {V : PV} {k k2 : Nat} {ty : FieldType} (h : pv_sh V k = .inr (2, ty, k2)) (u : UU) (i : Nat) : pv_c V u k i = .inl (pv_ca V k, pv_ln V k, .inr (.inl fun j => u.2.2.1 k i j)) := by
  unfold pv_c; rw [h] <;> rfl
theorem pv_c_3 {V : PV} {k k2 : Nat} {ty : FieldType} (h : pv_sh V k = .inr (3, ty, k2)) (u : UU) (i : Nat) : pv_c V u k i = .inl (pv_ca V k, pv_ln V k, .inr (.inr (.inr (.inr fun j => some (pv_ad V k2 j))))) := by
  unfold pv_c; rw [h] <;> rfl
/-- the new states -/
def un (u : UU) (k i j : Nat) (v : Nat) : UU := (fun a b c => if a = k ∧ b = i ∧ c = j then v else u.1 a b c, u.2)
def ui (u : UU) (k i j : Nat) (v : Int32) : UU := (u.1, (fun a b c => if a = k ∧ b = i ∧ c = j then v else u.2.1 a b c), u.2.2)
def ul (u : UU) (k i j : Nat) (v : Int64) : UU := (u.1, u.2.1, (fun a b c => if a = k ∧ b = i ∧ c = j then v else u.2.2.1 a b c), u.2.2.2)
def ur (u : UU) (j v : Nat) : UU := (u.1, u.2.1, u.2.2.1, fun a => if a = j then v else u.2.2.2 a)
theorem un_1 (u : UU) (k i j v a b c : Nat) : (un u k i j v).1 a b c = if a = k ∧ b = i ∧ c = j then v else u.1 a b c := rfl
theorem un_2 (u : UU) (k i j v : Nat) : (un u k i j v).2 = u.2 := rfl
theorem ui_1 (u : UU) (k i j : Nat) (v : Int32) : (ui u k i j v).1 = u.1 := rfl
theorem ui_2 (u : UU) (k i j : Nat) (v : Int32) (a b c : Nat) : (ui u k i j v).2.1 a b c = if a = k ∧ b = i ∧ c = j then v else u.2.1 a b c := rfl
theorem ui_3 (u : UU) (k i j : Nat) (v : Int32) : (ui u k i j v).2.2 = u.2.2 := rfl
theorem ul_1 (u : UU) (k i j : Nat) (v : Int64) : (ul u k i j v).1 = u.1 := rfl
theorem ul_2 (u : UU) (k i j : Nat) (v : Int64) : (ul u k i j v).2.1 = u.2.1 := rfl
theorem ul_3 (u : UU) (k i j : Nat) (v : Int64) (a b c : Nat) : (ul u k i j v).2.2.1 a b c = if a = k ∧ b = i ∧ c = j then v else u.2.2.1 a b c := rfl
theorem ul_4 (u : UU) (k i j : Nat) (v : Int64) : (ul u k i j v).2.2.2 = u.2.2.2 := rfl
theorem ur_1 (u : UU) (j v : Nat) : (ur u j v).1 = u.1 := rfl
theorem ur_2 (u : UU) (j v : Nat) : (ur u j v).2.1 = u.2.1 := rfl
theorem ur_3 (u : UU) (j v : Nat) : (ur u j v).2.2.1 = u.2.2.1 := rfl
theorem ur_4 (u : UU) (j v a : Nat) : (ur u j v).2.2.2 a = if a = j then v else u.2.2.2 a := rfl
theorem pv_cong {V : PV} {u w : UU} {k i : Nat} (h1 : ∀ j, w.1 k i j = u.1 k i j) (h2 : ∀ j, w.2.1 k i j = u.2.1 k i j) (h3 : ∀ j, w.2.2.1 k i j = u.2.2.1 k i j) (h4 : w.2.2.2 = u.2.2.2) : pv_c V w k i = pv_c V u k i := by
  have ho : ∀ ts, pv_o V w k i ts = pv_o V u k i ts := by
    intro ts
    unfold pv_o
    apply List.map_congr_left
    intro j _
    unfold pv_f
    rw [h1, h2, h3, h4]
  unfold pv_c
  split
  · rw [ho]
  · simp only [h1]
  · simp only [h2]
  · simp only [h3]
  · rfl
theorem pv_un_ne {V : PV} {u : UU} {k i j v k2 i2 : Nat} (h : ¬ (k2 = k ∧ i2 = i)) : pv_c V (un u k i j v) k2 i2 = pv_c V u k2 i2 :=
  pv_cong (fun a => by rw [un_1, if_neg (fun q => h ⟨q.1, q.2.1⟩)]) (fun _ => rfl) (fun _ => rfl) rfl
theorem pv_ui_ne {V : PV} {u : UU} {k i j k2 i2 : Nat} {v : Int32} (h : ¬ (k2 = k ∧ i2 = i)) : pv_c V (ui u k i j v) k2 i2 = pv_c V u k2 i2 :=
  pv_cong (fun _ => rfl) (fun a => by rw [ui_2, if_neg (fun q => h ⟨q.1, q.2.1⟩)]) (fun _ => rfl) rfl
theorem pv_ul_ne {V : PV} {u : UU} {k i j k2 i2 : Nat} {v : Int64} (h : ¬ (k2 = k ∧ i2 = i)) : pv_c V (ul u k i j v) k2 i2 = pv_c V u k2 i2 :=
  pv_cong (fun _ => rfl) (fun _ => rfl) (fun a => by rw [ul_3, if_neg (fun q => h ⟨q.1, q.2.1⟩)]) rfl
theorem pv_set {α : Type} (f g : Nat → α) (n j : Nat) (v : α) (hv : g j = v) (ho : ∀ a, a ≠ j → g a = f a) : ((List.range n).map f).set j v = (List.range n).map g := by
  apply List.ext_getElem?
  intro a
  by_cases h : a = j
  · subst h
    by_cases hn : a < n
    · rw [List.getElem?_set_self (by simpa using hn)]
      simp [hn, hv]
    · rw [List.getElem?_eq_none (by simp; omega), List.getElem?_eq_none (by simp; omega)]
  · rw [List.getElem?_set_ne (Ne.symm h)]
    simp only [List.getElem?_map]
    by_cases hn : a < n
    · simp [hn, ho a h]
    · simp [hn]
theorem pv_o_at {V : PV} {u : UU} {k i j : Nat} {ts : List (Nat × Nat)} {t : Nat × Nat} (h : ts[j]? = some t) : (pv_o V u k i ts)[j]? = some (pv_f V u k i j t) := by
  have hl := (List.getElem?_eq_some_iff.mp h).1
  unfold pv_o
  have h2 := (List.getElem?_eq_some_iff.mp h).2
  simp [hl, List.getD, h2]
theorem pv_o_len {V : PV} {u : UU} {k i : Nat} {ts : List (Nat × Nat)} : (pv_o V u k i ts).length = ts.length := by
  simp [pv_o]
/-- what holds of a heap in state u -/
def pv_H (V : PV) (u : UU) (H : Heap) : Prop := ∃ σ : Nat → va_E, (∀ k i, i < pv_bd V k → σ (pv_ad V k i) = pv_c V u k i) ∧ va_P (pv_D V) (pv_cl V) (va_pl (pv_L V) σ) H ∧ va_D (pv_A V) (va_pl (pv_L V) σ)
/-- numbers and addresses go together -/
def pv_ok (V : PV) : Prop := (∀ k i k2 i2, i < pv_bd V k → i2 < pv_bd V k2 → pv_ad V k i = pv_ad V k2 i2 → k2 = k ∧ i2 = i) ∧ (∀ k i, i < pv_bd V k → pv_ad V k i ∈ pv_L V) ∧
  (∀ k c ty k2, pv_sh V k = .inr (c, ty, k2) → ∃ t : Nat, (pv_tys V)[t]? = some (pv_ca V k, ty)) ∧ (∀ k, pv_ln V k < 2 ^ 31)
theorem pv_new {V : PV} {u w : UU} {σ : Nat → va_E} {k i : Nat} {e : va_E} (hV : pv_ok V) (hi : i < pv_bd V k) (hσ : ∀ k i, i < pv_bd V k → σ (pv_ad V k i) = pv_c V u k i) (he : e = pv_c V w k i) (ho : ∀ k2 i2, i2 < pv_bd V k2 → ¬ (k2 = k ∧ i2 = i) → pv_c V w k2 i2 = pv_c V u k2 i2) :
    ∀ k2 i2, i2 < pv_bd V k2 → va_up σ (pv_ad V k i) e (pv_ad V k2 i2) = pv_c V w k2 i2 := by
  intro k2 i2 h2
  by_cases h : pv_ad V k2 i2 = pv_ad V k i
  · obtain ⟨rfl, rfl⟩ := hV.1 k i k2 i2 hi h2 h.symm
    rw [va_up_self, he]
  · rw [va_up_ne _ _ h, hσ k2 i2 h2, ho k2 i2 h2 (fun q => h (by rw [q.1, q.2]))]
/-- the tables' words on classes, arrays, and the one call between nest mates -/
def pv_K (V : PV) (T : State) : Prop := va_K (pv_D V) (pv_cl V) (pv_tys V) T ∧ va_Nw (Cond.methodLinkNest "SlottedMesh$Loop" 29 ⟨"SlottedMesh", "nearest", "(III)I"⟩ "SlottedMesh") T
theorem pv_K.moved {V : PV} {s t : State} (hW : s.WarmedH t.vm) (h : pv_K V s) : pv_K V t := ⟨va_K.moved hW.alike h.1, va_Nw.warmM hW h.2⟩
/-! the judgement -/
abbrev OX := (Program × Launch × Env × Room) × (State × MethodId × Array Value × List Frame) × (Method × Code)
def ow_Q (V : PV) (r : Option Value) (u' : UU) : Array Value → State → Outcome → State → Prop := fun _ st oc t => (oc = .returned r ∧ pv_H V u' t.heap ∧ pv_K V t) ∧ va_F (pv_A V) st t
def ow (X : OX) (V : PV) (r : Option Value) (u' u : UU) (loc : List (Nat × Value)) (pc : Nat) (st : List Value) : Prop :=
  ∀ (H : Heap) (locs : List Loc) (ls : Array Slot), lv_has ls X.2.2.2.maxLocals loc → pv_H V u H → va_S (pv_A V) X.2.1.1.heap H locs →
    W X.1.1 X.1.2.1 X.1.2.2.1 X.1.2.2.2 X.2.1.1 X.2.1.2.1 X.2.1.2.2.1 X.2.1.2.2.2 X.2.2.1 X.2.2.2 H locs 0 0 (MQ X.2.1.2.2.2 (ow_Q V r u') X.2.1.2.2.1 X.2.1.1 0 0 (pv_A V)) (F0 X.2.1.2.1 pc ls st)
def ox (X : OX) (V : PV) (rm : Room) (cc : ByteArray) (nL : Nat) (own : String) (Ts : List Cond) (ret : Option FieldType) : Prop :=
  CallFix X.1.1 X.2.1.2.1 X.2.2.2 cc nL X.2.1.1 X.2.1.2.2.1 Ts own ∧ pv_K V X.2.1.1 ∧ pv_ok V ∧ X.2.2.1.locks = false ∧ X.2.2.1.sig.returnType = ret ∧ X.1.2.2.2 = rm
/-- a method's contract: from state u, with the arguments as, it returns r, and the state is u' -/
def Ct (l : Launch) (V : PV) (y : MethodName) (ws : List Cond) (rm : Room) (as : List Value) (u : UU) (r : Option Value) (u' : UU) : Prop :=
  Met l y ws rm (va_Pc as fun T => pv_H V u T.heap ∧ pv_K V T) (ow_Q V r u') 0 0 (pv_A V)
/-- the kit's Met.ofW, for a method that no row of the natives' table replaces (java.lang.Math's) -/
theorem met_of {l : Launch} {y : MethodName} {ws ws' : List Cond} {rm : Room} {Pc : Array Value → State → Prop} {Qc : Array Value → State → Outcome → State → Prop} {mc ms : Nat} {free : Addr → Prop} {cc : ByteArray} {maxL : Nat} {ret : Option FieldType}
    (hy : plainFor y = true) (hw : ws = Cond.code y cc maxL ret :: ws')
    (body : ∀ p e s m args below meth c s₁, BodyLoose p l y (headSpec ws rm) cc maxL ret e s m args below meth c s₁ → c.maxLocals = maxL → Pc args s →
      W p l e (headSpec ws rm).room s m args below meth c s.heap [] 0 0 (MQ below Qc args s mc ms free) (entryFrame m args maxL)) : Met l y ws rm Pc Qc mc ms free := by
  refine MetFree.of_bodySF (code := cc) (maxLocals := maxL) (ret := ret) hy ?_ ?_
  · intro args s m h hn
    obtain ⟨meth, c, h1, h2, h3, h4, h5, h6, -, -⟩ := Cond.code_spec hn (atoms_spec (ws := ws) h _ (by rw [hw]; exact List.mem_cons_self))
    exact ⟨meth, c, h1, h2, h3, h4, h5, h6⟩
  · intro p e s m args below meth c s₁ B hml hP _
    have hh0 : s₁.heap = s.heap := by rw [B.state]; rfl
    obtain ⟨t, a1, o, b1, b2, b3⟩ := body p e s m args below meth c s₁ B hml hP s₁ hh0 (Stand.of_body B)
    exact ⟨t, o, a1, b1, b2, ⟨b3.1, b3.2⟩⟩
theorem ct_of {l : Launch} {V : PV} {y : MethodName} {ws ws' : List Cond} {rm : Room} {as : List Value} {u : UU} {r : Option Value} {u' : UU} {cc : ByteArray} {nL : Nat} {ret : Option FieldType} (hV : pv_ok V) (hy : plainFor y = true) (hw : ws = Cond.code y cc nL ret :: ws') (hn : (lg_sl as).length ≤ nL)
    (walk : ∀ X : OX, ox X V rm cc nL y.cls ws ret → ow X V r u' u (lv_args 0 as) 0 []) : Ct l V y ws rm as u r u' := by
  refine met_of (cc := cc) (maxL := nL) (ret := ret) hy hw ?_
  intro p e s m args below meth c s₁ B hml hv
  obtain ⟨rfl, hH, hK⟩ := hv
  have hl := lv_entry as (n := nL) hn
  rw [lg_entry_eq]
  have hown : s.vm.findClass y.cls = some m.cls := findClass_of_methodNamed B.named
  exact walk ((p, l, e, rm), (s, m, as.toArray, below), (meth, c)) ⟨⟨B.exec, B.bytes, hml, hown, atoms_spec (ws := ws) B.pre⟩, hK, hV, B.notSynchronized, B.returns, rfl⟩ s.heap [] _ (by rw [hml]; exact hl) hH va_S.rf
section OW
variable {X : OX} {V : PV} {rm : Room} {cc : ByteArray} {nL : Nat} {own : String} {Ts : List Cond} {ret : Option FieldType} {r : Option Value} {u' u : UU} {loc : List (Nat × Value)} {pc : Nat} {st : List Value}
/-- a local, by its number -/
def lc_at (l : List (Nat × Value)) (i : Nat) : Option Value := (l.find? (fun q => q.1 == i)).map (·.2)
theorem lc_has {ls : Array Slot} {n : Nat} {l : List (Nat × Value)} {i : Nat} {v : Value} (h : lv_has ls n l) (hi : lc_at l i = some v) : ls[i]? = some (.val v) := by
  unfold lc_at at hi
  cases hf : l.find? (fun q => q.1 == i) with
  | none => rw [hf] at hi; cases hi
  | some q =>
    rw [hf] at hi
    have h1 := List.find?_some hf
    have h2 := List.mem_of_find?_eq_some hf
    have h3 := h.2.2 q h2
    have e1 : q.1 = i := by simpa using h1
    have e2 : q.2 = v := by simpa using hi
    rw [e1, e2] at h3
    exact h3
/-- the locals behind a store: each place keeps its row -/
def lc_set : List (Nat × Value) → Nat → Value → List (Nat × Value)
  | [], i, v => [(i, v)]
  | q :: l, i, v => if q.1 = i then (i, v) :: l.filter (fun q => !(q.1 == i)) else q :: lc_set l i v
theorem lc_set_mem {l : List (Nat × Value)} {i : Nat} {v : Value} {q : Nat × Value} (h : q ∈ lc_set l i v) : q = (i, v) ∨ (q ∈ l ∧ q.1 ≠ i) := by
  induction l with
  | nil => simp [lc_set] at h; exact Or.inl h
  | cons a l ih =>
    unfold lc_set at h
    split at h
    next e =>
      rcases List.mem_cons.mp h with h | h
      · exact Or.inl h
      · obtain ⟨h1, h2⟩ := List.mem_filter.mp h
        exact Or.inr ⟨List.mem_cons_of_mem _ h1, by simpa using h2⟩
    next e =>
      rcases List.mem_cons.mp h with h | h
      · subst h; exact Or.inr ⟨List.mem_cons_self, e⟩
      · rcases ih h with h | h
        · exact Or.inl h
        · exact Or.inr ⟨List.mem_cons_of_mem _ h.1, h.2⟩
/-- no long lies just ahead of place i -/
def lc_free (l : List (Nat × Value)) (i : Nat) : Bool := l.all fun q => !(q.1 + 1 == i && q.2.category == 2)
theorem lc_store {ls : Array Slot} {n : Nat} {l : List (Nat × Value)} {i : Nat} {v : Value} (hf : lc_free l i = true) (h : lv_has ls n ((i, v) :: l.filter (fun q => !(q.1 == i) && !(q.1 + 1 == i && q.2.category == 2)))) : lv_has ls n (lc_set l i v) := by
  refine ⟨h.1, h.2.1, fun q hq => ?_⟩
  rcases lc_set_mem hq with rfl | ⟨h1, h2⟩
  · exact h.2.2 _ List.mem_cons_self
  · refine h.2.2 _ (List.mem_cons_of_mem _ (List.mem_filter.mpr ⟨h1, ?_⟩))
    have h3 := List.all_eq_true.mp hf q h1
    rw [h3, Bool.and_true]
    simpa using h2
/-- fewer locals, or in another order -/
theorem ow_loc {l2 : List (Nat × Value)} (h : ∀ q ∈ l2, q ∈ loc) (k : ow X V r u' u l2 pc st) : ow X V r u' u loc pc st :=
  fun H locs ls hl hH hS => k H locs ls ⟨hl.1, hl.2.1, fun q hq => hl.2.2 q (h q hq)⟩ hH hS
theorem ow_st {st2 : List Value} (h : st = st2) (k : ow X V r u' u loc pc st2) : ow X V r u' u loc pc st := h ▸ k
theorem ow_u {u2 : UU} (h : u = u2) (k : ow X V r u' u2 loc pc st) : ow X V r u' u loc pc st := h ▸ k
theorem ow_val {x y : Int32} (h : x = y) (k : ow X V r u' u loc pc (.int y :: st)) : ow X V r u' u loc pc (.int x :: st) := h ▸ k
theorem ow_val2 {x y : Int32} {a : Value} (h : x = y) (k : ow X V r u' u loc pc (a :: .int y :: st)) : ow X V r u' u loc pc (a :: .int x :: st) := h ▸ k
/-! constants, locals, stack -/
theorem ow_iconst (hX : ox X V rm cc nL own Ts ret) {n : Int} {v : Int32} (hd : decode cc pc = .ok (.iconst n, 1)) (hv : Int32.ofInt n = v) (k : ow X V r u' u loc (pc + 1) (.int v :: st)) : ow X V r u' u loc pc st :=
  fun H locs ls hl hH hS => lv_iconst hX.1.1 hX.1.2.1 hd hv (k H locs ls hl hH hS)
theorem ow_bipush (hX : ox X V rm cc nL own Ts ret) {n : Int} {v : Int32} (hd : decode cc pc = .ok (.bipush n, 2)) (hv : (Int8.ofInt n).toInt32 = v) (k : ow X V r u' u loc (pc + 2) (.int v :: st)) : ow X V r u' u loc pc st :=
  fun H locs ls hl hH hS => lv_bipush hX.1.1 hX.1.2.1 hd hv (k H locs ls hl hH hS)
theorem ow_sipush (hX : ox X V rm cc nL own Ts ret) {n : Int} {v : Int32} (hd : decode cc pc = .ok (.sipush n, 3)) (hv : (Int16.ofInt n).toInt32 = v) (k : ow X V r u' u loc (pc + 3) (.int v :: st)) : ow X V r u' u loc pc st :=
  fun H locs ls hl hH hS => lv_sipush hX.1.1 hX.1.2.1 hd hv (k H locs ls hl hH hS)
theorem ow_lconst (hX : ox X V rm cc nL own Ts ret) {n : Fin 2} {v : Int64} (hd : decode cc pc = .ok (.lconst n, 1)) (hv : Int64.ofNat (n : Nat) = v) (k : ow X V r u' u loc (pc + 1) (.long v :: st)) : ow X V r u' u loc pc st :=
  fun H locs ls hl hH hS => lv_lconst hX.1.1 hX.1.2.1 hd hv (k H locs ls hl hH hS)
theorem ow_iload_n (hX : ox X V rm cc nL own Ts ret) {n : Fin 4} {x : Int32} (hd : decode cc pc = .ok (.iload_n n, 1)) (hl : lc_at loc n = some (.int x)) (k : ow X V r u' u loc (pc + 1) (.int x :: st)) : ow X V r u' u loc pc st :=
  fun H locs ls h hH hS => lv_iload_n hX.1.1 hX.1.2.1 hd rfl (lc_has h hl) (k H locs ls h hH hS)
theorem ow_iload (hX : ox X V rm cc nL own Ts ret) {n : Nat} {x : Int32} (hd : decode cc pc = .ok (.iload n, 2)) (hl : lc_at loc n = some (.int x)) (k : ow X V r u' u loc (pc + 2) (.int x :: st)) : ow X V r u' u loc pc st :=
  fun H locs ls h hH hS => lv_iload hX.1.1 hX.1.2.1 hd (lc_has h hl) (k H locs ls h hH hS)
theorem ow_lload_n (hX : ox X V rm cc nL own Ts ret) {n : Fin 4} {x : Int64} (hd : decode cc pc = .ok (.lload_n n, 1)) (hl : lc_at loc n = some (.long x)) (k : ow X V r u' u loc (pc + 1) (.long x :: st)) : ow X V r u' u loc pc st :=
  fun H locs ls h hH hS => lv_lload_n hX.1.1 hX.1.2.1 hd rfl (lc_has h hl) (k H locs ls h hH hS)
theorem ow_lload (hX : ox X V rm cc nL own Ts ret) {n : Nat} {x : Int64} (hd : decode cc pc = .ok (.lload n, 2)) (hl : lc_at loc n = some (.long x)) (k : ow X V r u' u loc (pc + 2) (.long x :: st)) : ow X V r u' u loc pc st :=
  fun H locs ls h hH hS => lv_lload hX.1.1 hX.1.2.1 hd (lc_has h hl) (k H locs ls h hH hS)
theorem ow_aload_n (hX : ox X V rm cc nL own Ts ret) {n : Fin 4} {x : Nat} (hd : decode cc pc = .ok (.aload_n n, 1)) (hl : lc_at loc n = some (.ref x)) (k : ow X V r u' u loc (pc + 1) (.ref x :: st)) : ow X V r u' u loc pc st :=
  fun H locs ls h hH hS => lv_aload_n hX.1.1 hX.1.2.1 hd rfl (lc_has h hl) (k H locs ls h hH hS)
theorem ow_aload (hX : ox X V rm cc nL own Ts ret) {n : Nat} {x : Nat} (hd : decode cc pc = .ok (.aload n, 2)) (hl : lc_at loc n = some (.ref x)) (k : ow X V r u' u loc (pc + 2) (.ref x :: st)) : ow X V r u' u loc pc st :=
  fun H locs ls h hH hS => lv_aload hX.1.1 hX.1.2.1 hd (lc_has h hl) (k H locs ls h hH hS)
theorem ow_istore_n (hX : ox X V rm cc nL own Ts ret) {n : Fin 4} {x : Int32} {l2 : List (Nat × Value)} (hd : decode cc pc = .ok (.istore_n n, 1)) (hn : (n : Nat) < nL) (hf : lc_free loc n = true) (hl : lc_set loc n (.int x) = l2) (k : ow X V r u' u l2 (pc + 1) st) : ow X V r u' u loc pc (.int x :: st) :=
  fun H locs ls h hH hS => lv_istore_n hX.1.1 hX.1.2.1 hd rfl h (by rw [hX.1.2.2.1]; exact hn) rfl (fun ls2 h2 => k H locs ls2 (hl ▸ lc_store hf h2) hH hS)
theorem ow_istore (hX : ox X V rm cc nL own Ts ret) {n : Nat} {x : Int32} {l2 : List (Nat × Value)} (hd : decode cc pc = .ok (.istore n, 2)) (hn : n < nL) (hf : lc_free loc n = true) (hl : lc_set loc n (.int x) = l2) (k : ow X V r u' u l2 (pc + 2) st) : ow X V r u' u loc pc (.int x :: st) :=
  fun H locs ls h hH hS => lv_istore hX.1.1 hX.1.2.1 hd h (by rw [hX.1.2.2.1]; exact hn) rfl (fun ls2 h2 => k H locs ls2 (hl ▸ lc_store hf h2) hH hS)
theorem ow_astore_n (hX : ox X V rm cc nL own Ts ret) {n : Fin 4} {x : Nat} {l2 : List (Nat × Value)} (hd : decode cc pc = .ok (.astore_n n, 1)) (hn : (n : Nat) < nL) (hf : lc_free loc n = true) (hl : lc_set loc n (.ref x) = l2) (k : ow X V r u' u l2 (pc + 1) st) : ow X V r u' u loc pc (.ref x :: st) :=
  fun H locs ls h hH hS => lv_astore_n hX.1.1 hX.1.2.1 hd rfl h (by rw [hX.1.2.2.1]; exact hn) rfl (fun ls2 h2 => k H locs ls2 (hl ▸ lc_store hf h2) hH hS)
theorem ow_astore (hX : ox X V rm cc nL own Ts ret) {n : Nat} {x : Nat} {l2 : List (Nat × Value)} (hd : decode cc pc = .ok (.astore n, 2)) (hn : n < nL) (hf : lc_free loc n = true) (hl : lc_set loc n (.ref x) = l2) (k : ow X V r u' u l2 (pc + 2) st) : ow X V r u' u loc pc (.ref x :: st) :=
  fun H locs ls h hH hS => lv_astore hX.1.1 hX.1.2.1 hd h (by rw [hX.1.2.2.1]; exact hn) rfl (fun ls2 h2 => k H locs ls2 (hl ▸ lc_store hf h2) hH hS)
theorem ow_iinc (hX : ox X V rm cc nL own Ts ret) {n : Nat} {d : Int} {x v : Int32} {l2 : List (Nat × Value)} (hd : decode cc pc = .ok (.iinc n d, 3)) (hx : lc_at loc n = some (.int x)) (hv : x + Int32.ofInt d = v) (hn : n < nL) (hf : lc_free loc n = true) (hl : lc_set loc n (.int v) = l2) (k : ow X V r u' u l2 (pc + 3) st) : ow X V r u' u loc pc st := by
  intro H locs ls h hH hS
  have hx2 : lv_has ls X.2.2.2.maxLocals ((n, .int x) :: loc) := ⟨h.1, h.2.1, fun q hq => by
    rcases List.mem_cons.mp hq with rfl | hq
    · exact lc_has h hx
    · exact h.2.2 q hq⟩
  refine lv_iinc (k := 0) hX.1.1 hX.1.2.1 hd hx2 rfl hv (by rw [hX.1.2.2.1]; exact hn) rfl (fun ls2 h2 => k H locs ls2 (hl ▸ lc_store hf ?_) hH hS)
  refine ⟨h2.1, h2.2.1, fun q hq => h2.2.2 q ?_⟩
  rcases List.mem_cons.mp hq with rfl | hq
  · exact List.mem_cons_self
  · exact List.mem_cons_of_mem _ (List.mem_filter.mpr ⟨List.mem_cons_of_mem _ (List.mem_filter.mp hq).1, (List.mem_filter.mp hq).2⟩)
theorem ow_dup (hX : ox X V rm cc nL own Ts ret) {a : Value} (hd : decode cc pc = .ok (.dup, 1)) (ha : a.category = 1) (k : ow X V r u' u loc (pc + 1) (a :: a :: st)) : ow X V r u' u loc pc (a :: st) :=
  fun H locs ls h hH hS => lv_dup hX.1.1 hX.1.2.1 hd ha (k H locs ls h hH hS)
theorem ow_pop (hX : ox X V rm cc nL own Ts ret) {a : Value} (hd : decode cc pc = .ok (.pop, 1)) (ha : a.category = 1) (k : ow X V r u' u loc (pc + 1) st) : ow X V r u' u loc pc (a :: st) :=
  fun H locs ls h hH hS => lv_pop hX.1.1 hX.1.2.1 hd ha (k H locs ls h hH hS)
theorem ow_dup_x1 (hX : ox X V rm cc nL own Ts ret) {a b : Value} (hd : decode cc pc = .ok (.dup_x1, 1)) (ha : a.category = 1) (hb : b.category = 1) (k : ow X V r u' u loc (pc + 1) (a :: b :: a :: st)) : ow X V r u' u loc pc (a :: b :: st) :=
  fun H locs ls h hH hS => lv_dup_x1 hX.1.1 hX.1.2.1 hd ha hb (k H locs ls h hH hS)
theorem ow_dup2 (hX : ox X V rm cc nL own Ts ret) {a b : Value} (hd : decode cc pc = .ok (.dup2, 1)) (ha : a.category = 1) (hb : b.category = 1) (k : ow X V r u' u loc (pc + 1) (a :: b :: a :: b :: st)) : ow X V r u' u loc pc (a :: b :: st) :=
  fun H locs ls h hH hS => lv_dup2_11 hX.1.1 hX.1.2.1 hd ha hb (k H locs ls h hH hS)
/-! arithmetic -/
theorem ow_iadd (hX : ox X V rm cc nL own Ts ret) {x y : Int32} (hd : decode cc pc = .ok (.iadd, 1)) (k : ow X V r u' u loc (pc + 1) (.int (x + y) :: st)) : ow X V r u' u loc pc (.int y :: .int x :: st) :=
  fun H locs ls h hH hS => lv_iadd hX.1.1 hX.1.2.1 hd (k H locs ls h hH hS)
theorem ow_addn (hX : ox X V rm cc nL own Ts ret) {a b : Nat} (hd : decode cc pc = .ok (.iadd, 1)) (k : ow X V r u' u loc (pc + 1) (.int (nI (a + b)) :: st)) : ow X V r u' u loc pc (.int (nI b) :: .int (nI a) :: st) :=
  ow_iadd hX hd (by rw [nI_add]; exact k)
theorem ow_isub (hX : ox X V rm cc nL own Ts ret) {x y : Int32} (hd : decode cc pc = .ok (.isub, 1)) (k : ow X V r u' u loc (pc + 1) (.int (x - y) :: st)) : ow X V r u' u loc pc (.int y :: .int x :: st) :=
  fun H locs ls h hH hS => lv_isub hX.1.1 hX.1.2.1 hd (k H locs ls h hH hS)
theorem ow_subn (hX : ox X V rm cc nL own Ts ret) {a b : Nat} (hd : decode cc pc = .ok (.isub, 1)) (hab : b ≤ a) (k : ow X V r u' u loc (pc + 1) (.int (nI (a - b)) :: st)) : ow X V r u' u loc pc (.int (nI b) :: .int (nI a) :: st) :=
  ow_isub hX hd (by rw [pk_sub hab]; exact k)
theorem ow_imul (hX : ox X V rm cc nL own Ts ret) {x y : Int32} (hd : decode cc pc = .ok (.imul, 1)) (k : ow X V r u' u loc (pc + 1) (.int (x * y) :: st)) : ow X V r u' u loc pc (.int y :: .int x :: st) :=
  fun H locs ls h hH hS => lv_imul hX.1.1 hX.1.2.1 hd (k H locs ls h hH hS)
theorem ow_muln (hX : ox X V rm cc nL own Ts ret) {a b : Nat} (hd : decode cc pc = .ok (.imul, 1)) (k : ow X V r u' u loc (pc + 1) (.int (nI (a * b)) :: st)) : ow X V r u' u loc pc (.int (nI b) :: .int (nI a) :: st) :=
  ow_imul hX hd (by rw [pk_mul]; exact k)
theorem ow_ineg (hX : ox X V rm cc nL own Ts ret) {x : Int32} (hd : decode cc pc = .ok (.ineg, 1)) (k : ow X V r u' u loc (pc + 1) (.int (-x) :: st)) : ow X V r u' u loc pc (.int x :: st) :=
  fun H locs ls h hH hS => lv_ineg hX.1.1 hX.1.2.1 hd (k H locs ls h hH hS)
theorem ow_iand (hX : ox X V rm cc nL own Ts ret) {x y : Int32} (hd : decode cc pc = .ok (.iand, 1)) (k : ow X V r u' u loc (pc + 1) (.int (x &&& y) :: st)) : ow X V r u' u loc pc (.int y :: .int x :: st) :=
  fun H locs ls h hH hS => lv_iand hX.1.1 hX.1.2.1 hd (k H locs ls h hH hS)
theorem ow_ixor (hX : ox X V rm cc nL own Ts ret) {x y : Int32} (hd : decode cc pc = .ok (.ixor, 1)) (k : ow X V r u' u loc (pc + 1) (.int (x ^^^ y) :: st)) : ow X V r u' u loc pc (.int y :: .int x :: st) :=
  fun H locs ls h hH hS => lv_ixor hX.1.1 hX.1.2.1 hd (k H locs ls h hH hS)
theorem ow_ishr (hX : ox X V rm cc nL own Ts ret) {x y : Int32} (hd : decode cc pc = .ok (.ishr, 1)) (k : ow X V r u' u loc (pc + 1) (.int (x >>> (y &&& 31)) :: st)) : ow X V r u' u loc pc (.int y :: .int x :: st) :=
  fun H locs ls h hH hS => lv_ishr hX.1.1 hX.1.2.1 hd (k H locs ls h hH hS)
theorem ow_idiv (hX : ox X V rm cc nL own Ts ret) {x y : Int32} (hd : decode cc pc = .ok (.idiv, 1)) (hy : ¬ y = 0) (k : ow X V r u' u loc (pc + 1) (.int (x / y) :: st)) : ow X V r u' u loc pc (.int y :: .int x :: st) :=
  fun H locs ls h hH hS => lv_idiv hX.1.1 hX.1.2.1 hd hy (k H locs ls h hH hS)
theorem ow_divn (hX : ox X V rm cc nL own Ts ret) {a b : Nat} (hd : decode cc pc = .ok (.idiv, 1)) (ha : a < 2 ^ 31) (h0 : 0 < b) (hb : b < 2 ^ 31) (k : ow X V r u' u loc (pc + 1) (.int (nI (a / b)) :: st)) : ow X V r u' u loc pc (.int (nI b) :: .int (nI a) :: st) :=
  ow_idiv hX hd (nI_ne0 h0 hb) (by rw [pk_div ha h0 hb]; exact k)
theorem ow_irem (hX : ox X V rm cc nL own Ts ret) {x y : Int32} (hd : decode cc pc = .ok (.irem, 1)) (hy : ¬ y = 0) (k : ow X V r u' u loc (pc + 1) (.int (x - x / y * y) :: st)) : ow X V r u' u loc pc (.int y :: .int x :: st) :=
  fun H locs ls h hH hS => lv_irem hX.1.1 hX.1.2.1 hd hy (k H locs ls h hH hS)
theorem ow_remn (hX : ox X V rm cc nL own Ts ret) {a b : Nat} (hd : decode cc pc = .ok (.irem, 1)) (ha : a < 2 ^ 31) (h0 : 0 < b) (hb : b < 2 ^ 31) (k : ow X V r u' u loc (pc + 1) (.int (nI (a % b)) :: st)) : ow X V r u' u loc pc (.int (nI b) :: .int (nI a) :: st) :=
  ow_irem hX hd (nI_ne0 h0 hb) (by rw [pk_rem ha h0 hb]; exact k)
theorem ow_land (hX : ox X V rm cc nL own Ts ret) {x y : Int64} (hd : decode cc pc = .ok (.land, 1)) (k : ow X V r u' u loc (pc + 1) (.long (x &&& y) :: st)) : ow X V r u' u loc pc (.long y :: .long x :: st) :=
  fun H locs ls h hH hS => lv_land hX.1.1 hX.1.2.1 hd (k H locs ls h hH hS)
theorem ow_lshr (hX : ox X V rm cc nL own Ts ret) {x : Int64} {y : Int32} (hd : decode cc pc = .ok (.lshr, 1)) (k : ow X V r u' u loc (pc + 1) (.long (x >>> (y.toInt64 &&& 63)) :: st)) : ow X V r u' u loc pc (.int y :: .long x :: st) :=
  fun H locs ls h hH hS => lv_lshr hX.1.1 hX.1.2.1 hd rfl (k H locs ls h hH hS)
theorem ow_lushr (hX : ox X V rm cc nL own Ts ret) {x : Int64} {y : Int32} (hd : decode cc pc = .ok (.lushr, 1)) (k : ow X V r u' u loc (pc + 1) (.long ((x.toUInt64 >>> (y.toInt64.toUInt64 &&& Int64.toUInt64 63)).toInt64) :: st)) : ow X V r u' u loc pc (.int y :: .long x :: st) :=
  fun H locs ls h hH hS => lv_lushr hX.1.1 hX.1.2.1 hd rfl (k H locs ls h hH hS)
theorem ow_lcmp (hX : ox X V rm cc nL own Ts ret) {x y : Int64} (hd : decode cc pc = .ok (.lcmp, 1)) (k : ow X V r u' u loc (pc + 1) (.int (lg_cmp x y) :: st)) : ow X V r u' u loc pc (.long y :: .long x :: st) :=
  fun H locs ls h hH hS => W.lcmp hX.1.1 hX.1.2.1 hd (k H locs ls h hH hS)
/-! branches -/
theorem ow_goto (hX : ox X V rm cc nL own Ts ret) {off : Int} {tgt : Nat} (hd : decode cc pc = .ok (.goto off, 3)) (ht : (pc : Int) + off = (tgt : Int)) (k : ow X V r u' u loc tgt st) : ow X V r u' u loc pc st :=
  fun H locs ls h hH hS => lv_goto hX.1.1 hX.1.2.1 hd ht (k H locs ls h hH hS)
theorem ow_if_eq (hX : ox X V rm cc nL own Ts ret) {x : Int32} {off : Int} {tgt : Nat} (hd : decode cc pc = .ok (.ifCond .eq off, 3)) (ht : (pc : Int) + off = (tgt : Int)) (kt : x = 0 → ow X V r u' u loc tgt st) (kf : ¬ x = 0 → ow X V r u' u loc (pc + 3) st) : ow X V r u' u loc pc (.int x :: st) :=
  fun H locs ls h hH hS => lv_if_eq hX.1.1 hX.1.2.1 hd ht (fun q => kt q H locs ls h hH hS) (fun q => kf q H locs ls h hH hS)
theorem ow_ic_eq (hX : ox X V rm cc nL own Ts ret) {x y : Int32} {off : Int} {tgt : Nat} (hd : decode cc pc = .ok (.if_icmp .eq off, 3)) (ht : (pc : Int) + off = (tgt : Int)) (kt : x = y → ow X V r u' u loc tgt st) (kf : ¬ x = y → ow X V r u' u loc (pc + 3) st) : ow X V r u' u loc pc (.int y :: .int x :: st) :=
  fun H locs ls h hH hS => lv_icmp_eq hX.1.1 hX.1.2.1 hd ht (fun q => kt q H locs ls h hH hS) (fun q => kf q H locs ls h hH hS)
theorem ow_nc_eq (hX : ox X V rm cc nL own Ts ret) {a b : Nat} {off : Int} {tgt : Nat} (hd : decode cc pc = .ok (.if_icmp .eq off, 3)) (ht : (pc : Int) + off = (tgt : Int)) (ha : a < 2 ^ 31) (hb : b < 2 ^ 31) (kt : a = b → ow X V r u' u loc tgt st) (kf : ¬ a = b → ow X V r u' u loc (pc + 3) st) : ow X V r u' u loc pc (.int (nI b) :: .int (nI a) :: st) :=
  ow_ic_eq hX hd ht (fun q => kt (by simp only [nI_eq ha hb, nI_eq hb ha, nI_ltI ha hb, nI_ltI hb ha, nI_leI ha hb, nI_leI hb ha] at q; omega)) (fun q => kf (by simp only [nI_eq ha hb, nI_eq hb ha, nI_ltI ha hb, nI_ltI hb ha, nI_leI ha hb, nI_leI hb ha] at q; omega))
theorem ow_nz_eq (hX : ox X V rm cc nL own Ts ret) {a : Nat} {off : Int} {tgt : Nat} (hd : decode cc pc = .ok (.ifCond .eq off, 3)) (ht : (pc : Int) + off = (tgt : Int)) (ha : a < 2 ^ 31) (kt : a = 0 → ow X V r u' u loc tgt st) (kf : ¬ a = 0 → ow X V r u' u loc (pc + 3) st) : ow X V r u' u loc pc (.int (nI a) :: st) :=
  ow_if_eq hX hd ht (fun q => kt (by rw [← nI_0] at q; simp only [nI_eq ha (show 0 < 2 ^ 31 by decide), nI_ltI (show 0 < 2 ^ 31 by decide) ha, nI_leI ha (show 0 < 2 ^ 31 by decide)] at q; omega)) (fun q => kf (by rw [← nI_0] at q; simp only [nI_eq ha (show 0 < 2 ^ 31 by decide), nI_ltI (show 0 < 2 ^ 31 by decide) ha, nI_leI ha (show 0 < 2 ^ 31 by decide)] at q; omega))
theorem ow_if_ne (hX : ox X V rm cc nL own Ts ret) {x : Int32} {off : Int} {tgt : Nat} (hd : decode cc pc = .ok (.ifCond .ne off, 3)) (ht : (pc : Int) + off = (tgt : Int)) (kt : ¬ x = 0 → ow X V r u' u loc tgt st) (kf : x = 0 → ow X V r u' u loc (pc + 3) st) : ow X V r u' u loc pc (.int x :: st) :=
  fun H locs ls h hH hS => lv_if_ne hX.1.1 hX.1.2.1 hd ht (fun q => kt q H locs ls h hH hS) (fun q => kf q H locs ls h hH hS)
theorem ow_ic_ne (hX : ox X V rm cc nL own Ts ret) {x y : Int32} {off : Int} {tgt : Nat} (hd : decode cc pc = .ok (.if_icmp .ne off, 3)) (ht : (pc : Int) + off = (tgt : Int)) (kt : ¬ x = y → ow X V r u' u loc tgt st) (kf : x = y → ow X V r u' u loc (pc + 3) st) : ow X V r u' u loc pc (.int y :: .int x :: st) :=
  fun H locs ls h hH hS => lv_icmp_ne hX.1.1 hX.1.2.1 hd ht (fun q => kt q H locs ls h hH hS) (fun q => kf q H locs ls h hH hS)
theorem ow_nc_ne (hX : ox X V rm cc nL own Ts ret) {a b : Nat} {off : Int} {tgt : Nat} (hd : decode cc pc = .ok (.if_icmp .ne off, 3)) (ht : (pc : Int) + off = (tgt : Int)) (ha : a < 2 ^ 31) (hb : b < 2 ^ 31) (kt : ¬ a = b → ow X V r u' u loc tgt st) (kf : a = b → ow X V r u' u loc (pc + 3) st) : ow X V r u' u loc pc (.int (nI b) :: .int (nI a) :: st) :=
  ow_ic_ne hX hd ht (fun q => kt (by simp only [nI_eq ha hb, nI_eq hb ha, nI_ltI ha hb, nI_ltI hb ha, nI_leI ha hb, nI_leI hb ha] at q; omega)) (fun q => kf (by simp only [nI_eq ha hb, nI_eq hb ha, nI_ltI ha hb, nI_ltI hb ha, nI_leI ha hb, nI_leI hb ha] at q; omega))
theorem ow_nz_ne (hX : ox X V rm cc nL own Ts ret) {a : Nat} {off : Int} {tgt : Nat} (hd : decode cc pc = .ok (.ifCond .ne off, 3)) (ht : (pc : Int) + off = (tgt : Int)) (ha : a < 2 ^ 31) (kt : ¬ a = 0 → ow X V r u' u loc tgt st) (kf : a = 0 → ow X V r u' u loc (pc + 3) st) : ow X V r u' u loc pc (.int (nI a) :: st) :=
  ow_if_ne hX hd ht (fun q => kt (by rw [← nI_0] at q; simp only [nI_eq ha (show 0 < 2 ^ 31 by decide), nI_ltI (show 0 < 2 ^ 31 by decide) ha, nI_leI ha (show 0 < 2 ^ 31 by decide)] at q; omega)) (fun q => kf (by rw [← nI_0] at q; simp only [nI_eq ha (show 0 < 2 ^ 31 by decide), nI_ltI (show 0 < 2 ^ 31 by decide) ha, nI_leI ha (show 0 < 2 ^ 31 by decide)] at q; omega))
theorem ow_if_lt (hX : ox X V rm cc nL own Ts ret) {x : Int32} {off : Int} {tgt : Nat} (hd : decode cc pc = .ok (.ifCond .lt off, 3)) (ht : (pc : Int) + off = (tgt : Int)) (kt : x < 0 → ow X V r u' u loc tgt st) (kf : ¬ x < 0 → ow X V r u' u loc (pc + 3) st) : ow X V r u' u loc pc (.int x :: st) :=
  fun H locs ls h hH hS => lv_if_lt hX.1.1 hX.1.2.1 hd ht (fun q => kt q H locs ls h hH hS) (fun q => kf q H locs ls h hH hS)
theorem ow_ic_lt (hX : ox X V rm cc nL own Ts ret) {x y : Int32} {off : Int} {tgt : Nat} (hd : decode cc pc = .ok (.if_icmp .lt off, 3)) (ht : (pc : Int) + off = (tgt : Int)) (kt : x < y → ow X V r u' u loc tgt st) (kf : ¬ x < y → ow X V r u' u loc (pc + 3) st) : ow X V r u' u loc pc (.int y :: .int x :: st) :=
  fun H locs ls h hH hS => lv_icmp_lt hX.1.1 hX.1.2.1 hd ht (fun q => kt q H locs ls h hH hS) (fun q => kf q H locs ls h hH hS)
theorem ow_nc_lt (hX : ox X V rm cc nL own Ts ret) {a b : Nat} {off : Int} {tgt : Nat} (hd : decode cc pc = .ok (.if_icmp .lt off, 3)) (ht : (pc : Int) + off = (tgt : Int)) (ha : a < 2 ^ 31) (hb : b < 2 ^ 31) (kt : a < b → ow X V r u' u loc tgt st) (kf : b ≤ a → ow X V r u' u loc (pc + 3) st) : ow X V r u' u loc pc (.int (nI b) :: .int (nI a) :: st) :=
  ow_ic_lt hX hd ht (fun q => kt (by simp only [nI_eq ha hb, nI_eq hb ha, nI_ltI ha hb, nI_ltI hb ha, nI_leI ha hb, nI_leI hb ha] at q; omega)) (fun q => kf (by simp only [nI_eq ha hb, nI_eq hb ha, nI_ltI ha hb, nI_ltI hb ha, nI_leI ha hb, nI_leI hb ha] at q; omega))
theorem ow_nz_lt (hX : ox X V rm cc nL own Ts ret) {a : Nat} {off : Int} (hd : decode cc pc = .ok (.ifCond .lt off, 3)) {tgt : Nat} (ht : (pc : Int) + off = (tgt : Int)) (ha : a < 2 ^ 31) (kf : ow X V r u' u loc (pc + 3) st) : ow X V r u' u loc pc (.int (nI a) :: st) :=
  ow_if_lt hX hd ht (fun q => absurd q (nI_pos ha)) (fun _ => kf)
theorem ow_if_ge (hX : ox X V rm cc nL own Ts ret) {x : Int32} {off : Int} {tgt : Nat} (hd : decode cc pc = .ok (.ifCond .ge off, 3)) (ht : (pc : Int) + off = (tgt : Int)) (kt : 0 ≤ x → ow X V r u' u loc tgt st) (kf : ¬ 0 ≤ x → ow X V r u' u loc (pc + 3) st) : ow X V r u' u loc pc (.int x :: st) :=
  fun H locs ls h hH hS => lv_if_ge hX.1.1 hX.1.2.1 hd ht (fun q => kt q H locs ls h hH hS) (fun q => kf q H locs ls h hH hS)
theorem ow_ic_ge (hX : ox X V rm cc nL own Ts ret) {x y : Int32} {off : Int} {tgt : Nat} (hd : decode cc pc = .ok (.if_icmp .ge off, 3)) (ht : (pc : Int) + off = (tgt : Int)) (kt : y ≤ x → ow X V r u' u loc tgt st) (kf : ¬ y ≤ x → ow X V r u' u loc (pc + 3) st) : ow X V r u' u loc pc (.int y :: .int x :: st) :=
  fun H locs ls h hH hS => lv_icmp_ge hX.1.1 hX.1.2.1 hd ht (fun q => kt q H locs ls h hH hS) (fun q => kf q H locs ls h hH hS)
theorem ow_nc_ge (hX : ox X V rm cc nL own Ts ret) {a b : Nat} {off : Int} {tgt : Nat} (hd : decode cc pc = .ok (.if_icmp .ge off, 3)) (ht : (pc : Int) + off = (tgt : Int)) (ha : a < 2 ^ 31) (hb : b < 2 ^ 31) (kt : b ≤ a → ow X V r u' u loc tgt st) (kf : a < b → ow X V r u' u loc (pc + 3) st) : ow X V r u' u loc pc (.int (nI b) :: .int (nI a) :: st) :=
  ow_ic_ge hX hd ht (fun q => kt (by simp only [nI_eq ha hb, nI_eq hb ha, nI_ltI ha hb, nI_ltI hb ha, nI_leI ha hb, nI_leI hb ha] at q; omega)) (fun q => kf (by simp only [nI_eq ha hb, nI_eq hb ha, nI_ltI ha hb, nI_ltI hb ha, nI_leI ha hb, nI_leI hb ha] at q; omega))
theorem ow_nz_ge (hX : ox X V rm cc nL own Ts ret) {a : Nat} {off : Int} (hd : decode cc pc = .ok (.ifCond .ge off, 3)) {tgt : Nat} (ht : (pc : Int) + off = (tgt : Int)) (ha : a < 2 ^ 31) (kt : ow X V r u' u loc tgt st) : ow X V r u' u loc pc (.int (nI a) :: st) :=
  ow_if_ge hX hd ht (fun _ => kt) (fun q => absurd (nI_pos' ha) q)
theorem ow_if_gt (hX : ox X V rm cc nL own Ts ret) {x : Int32} {off : Int} {tgt : Nat} (hd : decode cc pc = .ok (.ifCond .gt off, 3)) (ht : (pc : Int) + off = (tgt : Int)) (kt : 0 < x → ow X V r u' u loc tgt st) (kf : ¬ 0 < x → ow X V r u' u loc (pc + 3) st) : ow X V r u' u loc pc (.int x :: st) :=
  fun H locs ls h hH hS => lv_if_gt hX.1.1 hX.1.2.1 hd ht (fun q => kt q H locs ls h hH hS) (fun q => kf q H locs ls h hH hS)
theorem ow_ic_gt (hX : ox X V rm cc nL own Ts ret) {x y : Int32} {off : Int} {tgt : Nat} (hd : decode cc pc = .ok (.if_icmp .gt off, 3)) (ht : (pc : Int) + off = (tgt : Int)) (kt : y < x → ow X V r u' u loc tgt st) (kf : ¬ y < x → ow X V r u' u loc (pc + 3) st) : ow X V r u' u loc pc (.int y :: .int x :: st) :=
  fun H locs ls h hH hS => lv_icmp_gt hX.1.1 hX.1.2.1 hd ht (fun q => kt q H locs ls h hH hS) (fun q => kf q H locs ls h hH hS)
theorem ow_nc_gt (hX : ox X V rm cc nL own Ts ret) {a b : Nat} {off : Int} {tgt : Nat} (hd : decode cc pc = .ok (.if_icmp .gt off, 3)) (ht : (pc : Int) + off = (tgt : Int)) (ha : a < 2 ^ 31) (hb : b < 2 ^ 31) (kt : b < a → ow X V r u' u loc tgt st) (kf : a ≤ b → ow X V r u' u loc (pc + 3) st) : ow X V r u' u loc pc (.int (nI b) :: .int (nI a) :: st) :=
  ow_ic_gt hX hd ht (fun q => kt (by simp only [nI_eq ha hb, nI_eq hb ha, nI_ltI ha hb, nI_ltI hb ha, nI_leI ha hb, nI_leI hb ha] at q; omega)) (fun q => kf (by simp only [nI_eq ha hb, nI_eq hb ha, nI_ltI ha hb, nI_ltI hb ha, nI_leI ha hb, nI_leI hb ha] at q; omega))
theorem ow_nz_gt (hX : ox X V rm cc nL own Ts ret) {a : Nat} {off : Int} {tgt : Nat} (hd : decode cc pc = .ok (.ifCond .gt off, 3)) (ht : (pc : Int) + off = (tgt : Int)) (ha : a < 2 ^ 31) (kt : 0 < a → ow X V r u' u loc tgt st) (kf : a = 0 → ow X V r u' u loc (pc + 3) st) : ow X V r u' u loc pc (.int (nI a) :: st) :=
  ow_if_gt hX hd ht (fun q => kt (by rw [← nI_0] at q; simp only [nI_eq ha (show 0 < 2 ^ 31 by decide), nI_ltI (show 0 < 2 ^ 31 by decide) ha, nI_leI ha (show 0 < 2 ^ 31 by decide)] at q; omega)) (fun q => kf (by rw [← nI_0] at q; simp only [nI_eq ha (show 0 < 2 ^ 31 by decide), nI_ltI (show 0 < 2 ^ 31 by decide) ha, nI_leI ha (show 0 < 2 ^ 31 by decide)] at q; omega))
theorem ow_if_le (hX : ox X V rm cc nL own Ts ret) {x : Int32} {off : Int} {tgt : Nat} (hd : decode cc pc = .ok (.ifCond .le off, 3)) (ht : (pc : Int) + off = (tgt : Int)) (kt : x ≤ 0 → ow X V r u' u loc tgt st) (kf : ¬ x ≤ 0 → ow X V r u' u loc (pc + 3) st) : ow X V r u' u loc pc (.int x :: st) :=
  fun H locs ls h hH hS => lv_if_le hX.1.1 hX.1.2.1 hd ht (fun q => kt q H locs ls h hH hS) (fun q => kf q H locs ls h hH hS)
theorem ow_ic_le (hX : ox X V rm cc nL own Ts ret) {x y : Int32} {off : Int} {tgt : Nat} (hd : decode cc pc = .ok (.if_icmp .le off, 3)) (ht : (pc : Int) + off = (tgt : Int)) (kt : x ≤ y → ow X V r u' u loc tgt st) (kf : ¬ x ≤ y → ow X V r u' u loc (pc + 3) st) : ow X V r u' u loc pc (.int y :: .int x :: st) :=
  fun H locs ls h hH hS => lv_icmp_le hX.1.1 hX.1.2.1 hd ht (fun q => kt q H locs ls h hH hS) (fun q => kf q H locs ls h hH hS)
theorem ow_nc_le (hX : ox X V rm cc nL own Ts ret) {a b : Nat} {off : Int} {tgt : Nat} (hd : decode cc pc = .ok (.if_icmp .le off, 3)) (ht : (pc : Int) + off = (tgt : Int)) (ha : a < 2 ^ 31) (hb : b < 2 ^ 31) (kt : a ≤ b → ow X V r u' u loc tgt st) (kf : b < a → ow X V r u' u loc (pc + 3) st) : ow X V r u' u loc pc (.int (nI b) :: .int (nI a) :: st) :=
  ow_ic_le hX hd ht (fun q => kt (by simp only [nI_eq ha hb, nI_eq hb ha, nI_ltI ha hb, nI_ltI hb ha, nI_leI ha hb, nI_leI hb ha] at q; omega)) (fun q => kf (by simp only [nI_eq ha hb, nI_eq hb ha, nI_ltI ha hb, nI_ltI hb ha, nI_leI ha hb, nI_leI hb ha] at q; omega))
theorem ow_nz_le (hX : ox X V rm cc nL own Ts ret) {a : Nat} {off : Int} {tgt : Nat} (hd : decode cc pc = .ok (.ifCond .le off, 3)) (ht : (pc : Int) + off = (tgt : Int)) (ha : a < 2 ^ 31) (kt : a ≤ 0 → ow X V r u' u loc tgt st) (kf : 0 < a → ow X V r u' u loc (pc + 3) st) : ow X V r u' u loc pc (.int (nI a) :: st) :=
  ow_if_le hX hd ht (fun q => kt (by rw [← nI_0] at q; simp only [nI_eq ha (show 0 < 2 ^ 31 by decide), nI_ltI (show 0 < 2 ^ 31 by decide) ha, nI_leI ha (show 0 < 2 ^ 31 by decide)] at q; omega)) (fun q => kf (by rw [← nI_0] at q; simp only [nI_eq ha (show 0 < 2 ^ 31 by decide), nI_ltI (show 0 < 2 ^ 31 by decide) ha, nI_leI ha (show 0 < 2 ^ 31 by decide)] at q; omega))
theorem ow_tableOut (hX : ox X V rm cc nL own Ts ret) {dflt lo hi : Int} {offs : Array Int} {len : Nat} {x : Int32} {tgt : Nat} (hd : decode cc pc = .ok (.tableswitch dflt lo hi offs, len)) (hx : x.toInt < lo ∨ hi < x.toInt) (ht : (pc : Int) + dflt = (tgt : Int)) (k : ow X V r u' u loc tgt st) : ow X V r u' u loc pc (.int x :: st) :=
  fun H locs ls h hH hS => lv_tableOut hX.1.1 hX.1.2.1 hd hx ht (k H locs ls h hH hS)
theorem ow_tableIn (hX : ox X V rm cc nL own Ts ret) {dflt lo hi : Int} {offs : Array Int} {len : Nat} {x : Int32} {off : Int} {tgt : Nat} (hd : decode cc pc = .ok (.tableswitch dflt lo hi offs, len)) (h1 : ¬ x.toInt < lo) (h2 : ¬ hi < x.toInt) (ho : offs[(x.toInt - lo).toNat]? = some off) (ht : (pc : Int) + off = (tgt : Int)) (k : ow X V r u' u loc tgt st) : ow X V r u' u loc pc (.int x :: st) :=
  fun H locs ls h hH hS => lv_tableIn hX.1.1 hX.1.2.1 hd h1 h2 ho ht (k H locs ls h hH hS)
theorem ow_lookup (hX : ox X V rm cc nL own Ts ret) {dflt : Int} {ps : Array (Int × Int)} {len : Nat} {x : Int32} {off : Int} {tgt : Nat} (hd : decode cc pc = .ok (.lookupswitch dflt ps, len)) (hp : (ps.toList.zip (ps.toList.drop 1)).all (fun (a, next) => a.1 < next.1) = true) (ho : Op.lookupswitch.offset ps.toList dflt x.toInt = off) (ht : (pc : Int) + off = (tgt : Int)) (k : ow X V r u' u loc tgt st) : ow X V r u' u loc pc (.int x :: st) :=
  fun H locs ls h hH hS => lv_lookup hX.1.1 hX.1.2.1 hd hp ho ht (k H locs ls h hH hS)
/-! returns -/
theorem ow_iret (hX : ox X V rm cc nL own Ts (some .int)) {v : Int32} (hd : decode cc pc = .ok (.ireturn, 1)) (e : r = some (.int v)) (eu : u' = u) : ow X V r u' u loc pc [.int v] := by
  intro H locs ls h hH hS
  subst e; subst eu
  exact W.iret hX.1.1 hX.1.2.1 hX.2.2.2.2.1 (fun t ht hW => ⟨⟨rfl, by rw [ht]; exact hH, hX.2.1.moved hW⟩, hS.F ht⟩) hS.2.2 hd hX.2.2.2.1
theorem ow_zret (hX : ox X V rm cc nL own Ts (some .boolean)) {v : Int32} (hd : decode cc pc = .ok (.ireturn, 1)) (hn : narrow .boolean (.int v) = .int v) (e : r = some (.int v)) (eu : u' = u) : ow X V r u' u loc pc [.int v] := by
  intro H locs ls h hH hS
  subst e; subst eu
  exact W.zret hX.1.1 hX.1.2.1 hX.2.2.2.2.1 hn (fun t ht hW => ⟨⟨rfl, by rw [ht]; exact hH, hX.2.1.moved hW⟩, hS.F ht⟩) hS.2.2 hd hX.2.2.2.1
theorem ow_vret (hX : ox X V rm cc nL own Ts none) (hd : decode cc pc = .ok (.return_, 1)) (e : r = none) (eu : u' = u) : ow X V r u' u loc pc [] := by
  intro H locs ls h hH hS
  subst e; subst eu
  exact W.vret hX.1.1 hX.1.2.1 hX.2.2.2.2.1 (fun t ht hW => ⟨⟨rfl, by rw [ht]; exact hH, hX.2.1.moved hW⟩, hS.F ht⟩) hS.2.2 hd hX.2.2.2.1
theorem nb_01 {b : Nat} (h : b ≤ 1) : narrow .boolean (.int (nI b)) = .int (nI b) := by
  rcases (by omega : b = 0 ∨ b = 1) with rfl | rfl <;> rfl
theorem vn_01 {b : Nat} (h : b ≤ 1) : vp_nar .boolean (nI b) = nI b := by
  unfold vp_nar; rw [nb_01 h]
/-! fields -/
/-- kind k is class C, number ci, with fields T of the kinds ts -/
def kd (V : PV) (Ts : List Cond) (k ci N : Nat) (C : String) (T : u_T) (ts : List (Nat × Nat)) : Prop :=
  pv_sh V k = .inl (ci, ts) ∧ (pv_cl V)[ci]? = some (C, T, N) ∧ ts.length = N ∧ (∀ w ∈ u_ws C T N, w ∈ Ts) ∧ (∀ j, j < N → (T j).1 = C) ∧ (∃ ty0 : Nat → FieldType, ∀ j, j < N → parseFieldDescriptor (T j).2.2.1 = some (ty0 j)) ∧ ∀ a, a < N → ∀ b, b < N → a ≠ b → (T a).2.1 ≠ (T b).2.1
theorem ow_get (hX : ox X V rm cc nL own Ts ret) {k i ci N index : Nat} {C : String} {T : u_T} {ts : List (Nat × Nat)} {t : Nat × Nat} {v : Value} (hk : kd V Ts k ci N C T ts) (j : Nat) (hd : decode cc pc = .ok (.getfield index, 3)) (hl : Cond.fieldLink own index C (T j).2.1 (T j).2.2.1 ∈ Ts) (ht : ts[j]? = some t) (hi : i < pv_bd V k) (hv : pv_f V u k i j t = v)
    (kk : ow X V r u' u loc (pc + 3) (v :: st)) : ow X V r u' u loc pc (.ref (pv_ad V k i) :: st) := by
  intro H locs ls h hH hS
  obtain ⟨hs, hc, hN, hin, hT, -, -⟩ := hk
  have hj : j < N := by rw [← hN]; exact (List.getElem?_eq_some_iff.mp ht).1
  have hH' := hH
  obtain ⟨σ, hσ, hP, hD⟩ := hH
  obtain ⟨q0, hq⟩ := va_pl_get (X := []) (f := σ) (hX.2.2.1.2.1 k i hi)
  rw [List.nil_append, hσ k i hi, pv_c_o hs] at hq
  exact va_get hX.1.1 hX.1.2.1 hX.1.2.2.2.2 hin hX.1.2.2.2.1 hX.2.1.1 hP q0 hq hc j hj (hX.1.2.2.2.2 _ hl) (fun x hx => by rw [hT j hj] at hx; exact hx) (by rw [pv_o_at ht, hv]) hd (kk H locs ls h hH' hS)
theorem ow_put (hX : ox X V rm cc nL own Ts ret) {k i ci N index : Nat} {C : String} {T : u_T} {ts : List (Nat × Nat)} {t : Nat × Nat} {v : Value} {w : UU} {ty : FieldType} (hk : kd V Ts k ci N C T ts) (j : Nat) (hd : decode cc pc = .ok (.putfield index, 3)) (hl : Cond.fieldLink own index C (T j).2.1 (T j).2.2.1 ∈ Ts) (ht : ts[j]? = some t) (hi : i < pv_bd V k)
    (hfin : (T j).2.2.2 = false) (hp : parseFieldDescriptor (T j).2.2.1 = some ty) (hn : narrow ty v = v) (hfit : fits ty v = true) (hw1 : pv_f V w k i j t = v) (hw2 : ∀ a, a ≠ j → ∀ t2, pv_f V w k i a t2 = pv_f V u k i a t2) (hw3 : ∀ k2 i2, i2 < pv_bd V k2 → ¬ (k2 = k ∧ i2 = i) → pv_c V w k2 i2 = pv_c V u k2 i2)
    (kk : ow X V r u' w loc (pc + 3) st) : ow X V r u' u loc pc (v :: .ref (pv_ad V k i) :: st) := by
  intro H locs ls h hH hS
  obtain ⟨hs, hc, hN, hin, hT, ⟨ty0, hty⟩, hnm⟩ := hk
  have hj : j < N := by rw [← hN]; exact (List.getElem?_eq_some_iff.mp ht).1
  obtain ⟨σ, hσ, hP, hD⟩ := hH
  obtain ⟨q0, hq0⟩ := va_pl_get (X := []) (f := σ) (hX.2.2.1.2.1 k i hi)
  have hq := hq0
  rw [List.nil_append, hσ k i hi, pv_c_o hs] at hq
  refine va_put hX.1.1 hX.1.2.1 hX.1.2.2.2.2 hin ty0 hty hnm hX.1.2.2.2.1 hX.2.1.1 hP hD hS q0 hq hc j hj (hX.1.2.2.2.2 _ hl) (fun x hx => by rw [hT j hj] at hx; exact hx) hfin hp hn hfit (by rw [pv_o_len, hN]; exact hj) hd (fun H1 locs1 hP1 hD1 hS1 => kk H1 locs1 ls h ?_ hS1)
  have e1 := va_pl_set (X := []) (e := .inr (ci, (pv_o V u k i ts).set j v)) hD (hX.2.2.1.2.1 k i hi) hq0
  simp only [List.nil_append] at e1
  rw [e1] at hP1 hD1
  refine ⟨_, pv_new hX.2.2.1 hi hσ ?_ hw3, hP1, hD1⟩
  rw [pv_c_o hs]
  congr 2
  unfold pv_o
  refine pv_set _ _ _ _ _ ?_ (fun a ha => hw2 a ha _)
  rw [List.getD, ht]
  exact hw1
theorem ow_gN (hX : ox X V rm cc nL own Ts ret) {k i ci N index z : Nat} {C : String} {T : u_T} {ts : List (Nat × Nat)} (hk : kd V Ts k ci N C T ts) (j : Nat) (hd : decode cc pc = .ok (.getfield index, 3)) (hl : Cond.fieldLink own index C (T j).2.1 (T j).2.2.1 ∈ Ts) (ht : ts[j]? = some (0, z)) (hi : i < pv_bd V k)
    (kk : ow X V r u' u loc (pc + 3) (.int (nI (u.1 k i j)) :: st)) : ow X V r u' u loc pc (.ref (pv_ad V k i) :: st) := ow_get hX hk j hd hl ht hi rfl kk
theorem ow_gI (hX : ox X V rm cc nL own Ts ret) {k i ci N index z : Nat} {C : String} {T : u_T} {ts : List (Nat × Nat)} (hk : kd V Ts k ci N C T ts) (j : Nat) (hd : decode cc pc = .ok (.getfield index, 3)) (hl : Cond.fieldLink own index C (T j).2.1 (T j).2.2.1 ∈ Ts) (ht : ts[j]? = some (1, z)) (hi : i < pv_bd V k)
    (kk : ow X V r u' u loc (pc + 3) (.int (u.2.1 k i j) :: st)) : ow X V r u' u loc pc (.ref (pv_ad V k i) :: st) := ow_get hX hk j hd hl ht hi rfl kk
theorem ow_gL (hX : ox X V rm cc nL own Ts ret) {k i ci N index z : Nat} {C : String} {T : u_T} {ts : List (Nat × Nat)} (hk : kd V Ts k ci N C T ts) (j : Nat) (hd : decode cc pc = .ok (.getfield index, 3)) (hl : Cond.fieldLink own index C (T j).2.1 (T j).2.2.1 ∈ Ts) (ht : ts[j]? = some (2, z)) (hi : i < pv_bd V k)
    (kk : ow X V r u' u loc (pc + 3) (.long (u.2.2.1 k i j) :: st)) : ow X V r u' u loc pc (.ref (pv_ad V k i) :: st) := ow_get hX hk j hd hl ht hi rfl kk
theorem ow_gR (hX : ox X V rm cc nL own Ts ret) {k i ci N index z : Nat} {C : String} {T : u_T} {ts : List (Nat × Nat)} (hk : kd V Ts k ci N C T ts) (j : Nat) (hd : decode cc pc = .ok (.getfield index, 3)) (hl : Cond.fieldLink own index C (T j).2.1 (T j).2.2.1 ∈ Ts) (ht : ts[j]? = some (3, z)) (hi : i < pv_bd V k)
    (kk : ow X V r u' u loc (pc + 3) (.ref (pv_ad V z i) :: st)) : ow X V r u' u loc pc (.ref (pv_ad V k i) :: st) := ow_get hX hk j hd hl ht hi rfl kk
theorem ow_gE (hX : ox X V rm cc nL own Ts ret) {k i ci N index z : Nat} {C : String} {T : u_T} {ts : List (Nat × Nat)} (hk : kd V Ts k ci N C T ts) (j : Nat) (hd : decode cc pc = .ok (.getfield index, 3)) (hl : Cond.fieldLink own index C (T j).2.1 (T j).2.2.1 ∈ Ts) (ht : ts[j]? = some (4, z)) (hi : i < pv_bd V k)
    (kk : ow X V r u' u loc (pc + 3) (.ref (pv_ad V z (2 * i)) :: st)) : ow X V r u' u loc pc (.ref (pv_ad V k i) :: st) := ow_get hX hk j hd hl ht hi rfl kk
theorem ow_gO (hX : ox X V rm cc nL own Ts ret) {k i ci N index z : Nat} {C : String} {T : u_T} {ts : List (Nat × Nat)} (hk : kd V Ts k ci N C T ts) (j : Nat) (hd : decode cc pc = .ok (.getfield index, 3)) (hl : Cond.fieldLink own index C (T j).2.1 (T j).2.2.1 ∈ Ts) (ht : ts[j]? = some (5, z)) (hi : i < pv_bd V k)
    (kk : ow X V r u' u loc (pc + 3) (.ref (pv_ad V z (2 * i + 1)) :: st)) : ow X V r u' u loc pc (.ref (pv_ad V k i) :: st) := ow_get hX hk j hd hl ht hi rfl kk
theorem ow_gM (hX : ox X V rm cc nL own Ts ret) {k i ci N index z : Nat} {C : String} {T : u_T} {ts : List (Nat × Nat)} (hk : kd V Ts k ci N C T ts) (j : Nat) (hd : decode cc pc = .ok (.getfield index, 3)) (hl : Cond.fieldLink own index C (T j).2.1 (T j).2.2.1 ∈ Ts) (ht : ts[j]? = some (6, z)) (hi : i < pv_bd V k)
    (kk : ow X V r u' u loc (pc + 3) (.ref (pv_ad V z (u.2.2.2 j)) :: st)) : ow X V r u' u loc pc (.ref (pv_ad V k i) :: st) := ow_get hX hk j hd hl ht hi rfl kk
theorem ow_gS (hX : ox X V rm cc nL own Ts ret) {k i ci N index z : Nat} {C : String} {T : u_T} {ts : List (Nat × Nat)} (hk : kd V Ts k ci N C T ts) (j : Nat) (hd : decode cc pc = .ok (.getfield index, 3)) (hl : Cond.fieldLink own index C (T j).2.1 (T j).2.2.1 ∈ Ts) (ht : ts[j]? = some (7, z)) (hi : i < pv_bd V k)
    (kk : ow X V r u' u loc (pc + 3) (.int (nI i) :: st)) : ow X V r u' u loc pc (.ref (pv_ad V k i) :: st) := ow_get hX hk j hd hl ht hi rfl kk
theorem ow_gK (hX : ox X V rm cc nL own Ts ret) {k i ci N index z : Nat} {C : String} {T : u_T} {ts : List (Nat × Nat)} (hk : kd V Ts k ci N C T ts) (j : Nat) (hd : decode cc pc = .ok (.getfield index, 3)) (hl : Cond.fieldLink own index C (T j).2.1 (T j).2.2.1 ∈ Ts) (ht : ts[j]? = some (8, z)) (hi : i < pv_bd V k)
    (kk : ow X V r u' u loc (pc + 3) (.int (nI z) :: st)) : ow X V r u' u loc pc (.ref (pv_ad V k i) :: st) := ow_get hX hk j hd hl ht hi rfl kk
theorem pf_un_ne {V : PV} {u : UU} {k i j v a : Nat} (h : a ≠ j) (t : Nat × Nat) : pv_f V (un u k i j v) k i a t = pv_f V u k i a t := by
  unfold pv_f
  rw [un_1, un_2, if_neg (fun q => h q.2.2)]
theorem pf_ui_ne {V : PV} {u : UU} {k i j a : Nat} {v : Int32} (h : a ≠ j) (t : Nat × Nat) : pv_f V (ui u k i j v) k i a t = pv_f V u k i a t := by
  unfold pv_f
  rw [ui_1, ui_2, ui_3, if_neg (fun q => h q.2.2)]
theorem pf_ul_ne {V : PV} {u : UU} {k i j a : Nat} {v : Int64} (h : a ≠ j) (t : Nat × Nat) : pv_f V (ul u k i j v) k i a t = pv_f V u k i a t := by
  unfold pv_f
  rw [ul_1, ul_2, ul_3, ul_4, if_neg (fun q => h q.2.2)]
theorem ow_pN (hX : ox X V rm cc nL own Ts ret) {k i ci N index z v : Nat} {C : String} {T : u_T} {ts : List (Nat × Nat)} (hk : kd V Ts k ci N C T ts) (j : Nat) (hd : decode cc pc = .ok (.putfield index, 3)) (hl : Cond.fieldLink own index C (T j).2.1 (T j).2.2.1 ∈ Ts) (ht : ts[j]? = some (0, z)) (hi : i < pv_bd V k) (hfin : (T j).2.2.2 = false) (hp : parseFieldDescriptor (T j).2.2.1 = some .int)
    (kk : ow X V r u' (un u k i j v) loc (pc + 3) st) : ow X V r u' u loc pc (.int (nI v) :: .ref (pv_ad V k i) :: st) :=
  ow_put hX hk j hd hl ht hi hfin hp rfl rfl (by show Value.int (nI ((un u k i j v).1 k i j)) = _; rw [un_1, if_pos ⟨rfl, rfl, rfl⟩]) (fun a ha t => pf_un_ne ha t) (fun _ _ _ h => pv_un_ne h) kk
theorem ow_pZ (hX : ox X V rm cc nL own Ts ret) {k i ci N index z v : Nat} {C : String} {T : u_T} {ts : List (Nat × Nat)} (hk : kd V Ts k ci N C T ts) (j : Nat) (hd : decode cc pc = .ok (.putfield index, 3)) (hl : Cond.fieldLink own index C (T j).2.1 (T j).2.2.1 ∈ Ts) (ht : ts[j]? = some (0, z)) (hi : i < pv_bd V k) (hfin : (T j).2.2.2 = false) (hp : parseFieldDescriptor (T j).2.2.1 = some .boolean) (hv : v ≤ 1)
    (kk : ow X V r u' (un u k i j v) loc (pc + 3) st) : ow X V r u' u loc pc (.int (nI v) :: .ref (pv_ad V k i) :: st) :=
  ow_put hX hk j hd hl ht hi hfin hp (nb_01 hv) (by rcases (by omega : v = 0 ∨ v = 1) with rfl | rfl <;> rfl) (by show Value.int (nI ((un u k i j v).1 k i j)) = _; rw [un_1, if_pos ⟨rfl, rfl, rfl⟩]) (fun a ha t => pf_un_ne ha t) (fun _ _ _ h => pv_un_ne h) kk
theorem ow_pI (hX : ox X V rm cc nL own Ts ret) {k i ci N index z : Nat} {v : Int32} {C : String} {T : u_T} {ts : List (Nat × Nat)} (hk : kd V Ts k ci N C T ts) (j : Nat) (hd : decode cc pc = .ok (.putfield index, 3)) (hl : Cond.fieldLink own index C (T j).2.1 (T j).2.2.1 ∈ Ts) (ht : ts[j]? = some (1, z)) (hi : i < pv_bd V k) (hfin : (T j).2.2.2 = false) (hp : parseFieldDescriptor (T j).2.2.1 = some .int)
    (kk : ow X V r u' (ui u k i j v) loc (pc + 3) st) : ow X V r u' u loc pc (.int v :: .ref (pv_ad V k i) :: st) :=
  ow_put hX hk j hd hl ht hi hfin hp rfl rfl (by show Value.int ((ui u k i j v).2.1 k i j) = _; rw [ui_2, if_pos ⟨rfl, rfl, rfl⟩]) (fun a ha t => pf_ui_ne ha t) (fun _ _ _ h => pv_ui_ne h) kk
theorem ow_pL (hX : ox X V rm cc nL own Ts ret) {k i ci N index z : Nat} {v : Int64} {C : String} {T : u_T} {ts : List (Nat × Nat)} (hk : kd V Ts k ci N C T ts) (j : Nat) (hd : decode cc pc = .ok (.putfield index, 3)) (hl : Cond.fieldLink own index C (T j).2.1 (T j).2.2.1 ∈ Ts) (ht : ts[j]? = some (2, z)) (hi : i < pv_bd V k) (hfin : (T j).2.2.2 = false) (hp : parseFieldDescriptor (T j).2.2.1 = some .long)
    (kk : ow X V r u' (ul u k i j v) loc (pc + 3) st) : ow X V r u' u loc pc (.long v :: .ref (pv_ad V k i) :: st) :=
  ow_put hX hk j hd hl ht hi hfin hp rfl rfl (by show Value.long ((ul u k i j v).2.2.1 k i j) = _; rw [ul_3, if_pos ⟨rfl, rfl, rfl⟩]) (fun a ha t => pf_ul_ne ha t) (fun _ _ _ h => pv_ul_ne h) kk
/-- a reference that moves: the one cell of its kind holds such -/
theorem ow_pM (hX : ox X V rm cc nL own Ts ret) {k i ci N index z v : Nat} {C C2 : String} {T : u_T} {ts : List (Nat × Nat)} (hk : kd V Ts k ci N C T ts) (j : Nat) (hd : decode cc pc = .ok (.putfield index, 3)) (hl : Cond.fieldLink own index C (T j).2.1 (T j).2.2.1 ∈ Ts) (ht : ts[j]? = some (6, z)) (hi : i < pv_bd V k) (hfin : (T j).2.2.2 = false) (hp : parseFieldDescriptor (T j).2.2.1 = some (.object C2))
    (hone : ∀ i2, i2 < pv_bd V k → i2 = i) (hno : ∀ k2 ci2 ts2, pv_sh V k2 = .inl (ci2, ts2) → k2 ≠ k → ∀ t ∈ ts2, t.1 ≠ 6)
    (kk : ow X V r u' (ur u j v) loc (pc + 3) st) : ow X V r u' u loc pc (.ref (pv_ad V z v) :: .ref (pv_ad V k i) :: st) := by
  refine ow_put (w := ur u j v) hX hk j hd hl ht hi hfin hp rfl rfl ?_ (fun a ha t => ?_) (fun k2 i2 hb hne => ?_) kk
  · show Value.ref (pv_ad V z ((ur u j v).2.2.2 j)) = _
    rw [ur_4, if_pos rfl]
  · unfold pv_f
    rw [ur_1, ur_2, ur_3, ur_4, if_neg ha]
  · have hkk : k2 ≠ k := fun e => by subst e; exact hne ⟨rfl, hone i2 hb⟩
    cases hsh : pv_sh V k2 with
    | inl q =>
      obtain ⟨ci2, ts2⟩ := q
      rw [pv_c_o hsh, pv_c_o hsh]
      congr 2
      unfold pv_o
      apply List.map_congr_left
      intro a ha
      have hal : a < ts2.length := List.mem_range.mp ha
      have e : ts2.getD a (0, 0) = ts2[a] := by simp [List.getD, hal]
      have h6 : (ts2.getD a (0, 0)).1 ≠ 6 := by rw [e]; exact hno k2 ci2 ts2 hsh hkk _ (List.getElem_mem hal)
      clear e
      generalize ts2.getD a (0, 0) = t at h6
      obtain ⟨t1, t2⟩ := t
      unfold pv_f
      dsimp only at h6 ⊢
      split <;> first | rfl | (exfalso; exact h6 rfl)
    | inr q =>
      obtain ⟨c0, ty, k3⟩ := q
      unfold pv_c
      rw [hsh]
      split <;> first | rfl | (rename_i h9; cases h9)
/-! arrays -/
theorem ow_cell (hX : ox X V rm cc nL own Ts ret) {H : Heap} {k i : Nat} (hi : i < pv_bd V k) (hH : pv_H V u H) : ∃ (σ : Nat → va_E) (q0 : Nat), (∀ k i, i < pv_bd V k → σ (pv_ad V k i) = pv_c V u k i) ∧ va_P (pv_D V) (pv_cl V) (va_pl (pv_L V) σ) H ∧ va_D (pv_A V) (va_pl (pv_L V) σ) ∧ (va_pl (pv_L V) σ)[q0]? = some (pv_ad V k i, pv_c V u k i) ∧ ∀ e, (va_pl (pv_L V) σ).set q0 (pv_ad V k i, e) = va_pl (pv_L V) (va_up σ (pv_ad V k i) e) := by
  obtain ⟨σ, hσ, hP, hD⟩ := hH
  obtain ⟨q0, hq0⟩ := va_pl_get (X := []) (f := σ) (hX.2.2.1.2.1 k i hi)
  refine ⟨σ, q0, hσ, hP, hD, by rw [← hσ k i hi]; exact hq0, fun e => ?_⟩
  have e1 := va_pl_set (X := []) (e := e) hD (hX.2.2.1.2.1 k i hi) hq0
  simpa only [List.nil_append] using e1
theorem ow_len (hX : ox X V rm cc nL own Ts ret) {k i z c : Nat} {ty : FieldType} (hs : pv_sh V k = .inr (c, ty, z)) (hc : c < 4) (hd : decode cc pc = .ok (.arraylength, 1)) (hi : i < pv_bd V k) (kk : ow X V r u' u loc (pc + 1) (.int (nI (pv_ln V k)) :: st)) : ow X V r u' u loc pc (.ref (pv_ad V k i) :: st) := by
  intro H locs ls h hH hS
  obtain ⟨σ, q0, hσ, hP, hD, hq, -⟩ := ow_cell hX hi hH
  obtain ⟨t0, ht0⟩ := hX.2.2.1.2.2.1 k c ty z hs
  rcases (by omega : c = 0 ∨ c = 1 ∨ c = 2 ∨ c = 3) with rfl | rfl | rfl | rfl
  · rw [pv_c_0 hs] at hq
    exact va_alen hX.1.1 hX.1.2.1 hX.2.1.1 hP q0 t0 hq ht0 rfl hd (kk H locs ls h hH hS)
  · rw [pv_c_1 hs] at hq
    exact va_alen hX.1.1 hX.1.2.1 hX.2.1.1 hP q0 t0 hq ht0 rfl hd (kk H locs ls h hH hS)
  · rw [pv_c_2 hs] at hq
    exact va_alen hX.1.1 hX.1.2.1 hX.2.1.1 hP q0 t0 hq ht0 rfl hd (kk H locs ls h hH hS)
  · rw [pv_c_3 hs] at hq
    exact va_alen hX.1.1 hX.1.2.1 hX.2.1.1 hP q0 t0 hq ht0 rfl hd (kk H locs ls h hH hS)
theorem ow_aN (hX : ox X V rm cc nL own Ts ret) {k i z j : Nat} (hs : pv_sh V k = .inr (0, .int, z)) (hd : decode cc pc = .ok (.iaload, 1)) (hi : i < pv_bd V k) (hj : j < pv_ln V k) (kk : ow X V r u' u loc (pc + 1) (.int (nI (u.1 k i j)) :: st)) : ow X V r u' u loc pc (.int (nI j) :: .ref (pv_ad V k i) :: st) := by
  intro H locs ls h hH hS
  obtain ⟨σ, q0, hσ, hP, hD, hq, -⟩ := ow_cell hX hi hH
  obtain ⟨t0, ht0⟩ := hX.2.2.1.2.2.1 k _ _ z hs
  have hln := hX.2.2.1.2.2.2 k
  rw [pv_c_0 hs] at hq
  refine va_iald hX.1.1 hX.1.2.1 hX.2.1.1 hP q0 t0 hq ht0 (vp_in_nI hj hln) hd ?_
  rw [nI_clamp (by omega)]
  exact kk H locs ls h hH hS
theorem ow_aZ (hX : ox X V rm cc nL own Ts ret) {k i z j : Nat} (hs : pv_sh V k = .inr (0, .boolean, z)) (hd : decode cc pc = .ok (.baload, 1)) (hi : i < pv_bd V k) (hj : j < pv_ln V k) (kk : ow X V r u' u loc (pc + 1) (.int (nI (u.1 k i j)) :: st)) : ow X V r u' u loc pc (.int (nI j) :: .ref (pv_ad V k i) :: st) := by
  intro H locs ls h hH hS
  obtain ⟨σ, q0, hσ, hP, hD, hq, -⟩ := ow_cell hX hi hH
  obtain ⟨t0, ht0⟩ := hX.2.2.1.2.2.1 k _ _ z hs
  have hln := hX.2.2.1.2.2.2 k
  rw [pv_c_0 hs] at hq
  refine va_zald hX.1.1 hX.1.2.1 hX.2.1.1 hP q0 t0 hq ht0 (vp_in_nI hj hln) hd ?_
  rw [nI_clamp (by omega)]
  exact kk H locs ls h hH hS
theorem ow_aI (hX : ox X V rm cc nL own Ts ret) {k i z j : Nat} (hs : pv_sh V k = .inr (1, .int, z)) (hd : decode cc pc = .ok (.iaload, 1)) (hi : i < pv_bd V k) (hj : j < pv_ln V k) (kk : ow X V r u' u loc (pc + 1) (.int (u.2.1 k i j) :: st)) : ow X V r u' u loc pc (.int (nI j) :: .ref (pv_ad V k i) :: st) := by
  intro H locs ls h hH hS
  obtain ⟨σ, q0, hσ, hP, hD, hq, -⟩ := ow_cell hX hi hH
  obtain ⟨t0, ht0⟩ := hX.2.2.1.2.2.1 k _ _ z hs
  have hln := hX.2.2.1.2.2.2 k
  rw [pv_c_1 hs] at hq
  refine va_iald hX.1.1 hX.1.2.1 hX.2.1.1 hP q0 t0 hq ht0 (vp_in_nI hj hln) hd ?_
  rw [nI_clamp (by omega)]
  exact kk H locs ls h hH hS
theorem ow_aL (hX : ox X V rm cc nL own Ts ret) {k i z j : Nat} (hs : pv_sh V k = .inr (2, .long, z)) (hd : decode cc pc = .ok (.laload, 1)) (hi : i < pv_bd V k) (hj : j < pv_ln V k) (kk : ow X V r u' u loc (pc + 1) (.long (u.2.2.1 k i j) :: st)) : ow X V r u' u loc pc (.int (nI j) :: .ref (pv_ad V k i) :: st) := by
  intro H locs ls h hH hS
  obtain ⟨σ, q0, hσ, hP, hD, hq, -⟩ := ow_cell hX hi hH
  obtain ⟨t0, ht0⟩ := hX.2.2.1.2.2.1 k _ _ z hs
  have hln := hX.2.2.1.2.2.2 k
  rw [pv_c_2 hs] at hq
  refine va_lald hX.1.1 hX.1.2.1 hX.2.1.1 hP q0 t0 hq ht0 (vp_in_nI hj hln) hd ?_
  rw [nI_clamp (by omega)]
  exact kk H locs ls h hH hS
theorem ow_aR (hX : ox X V rm cc nL own Ts ret) {k i z j : Nat} {C : String} (hs : pv_sh V k = .inr (3, .object C, z)) (hd : decode cc pc = .ok (.aaload, 1)) (hi : i < pv_bd V k) (hj : j < pv_ln V k) (kk : ow X V r u' u loc (pc + 1) (.ref (pv_ad V z j) :: st)) : ow X V r u' u loc pc (.int (nI j) :: .ref (pv_ad V k i) :: st) := by
  intro H locs ls h hH hS
  obtain ⟨σ, q0, hσ, hP, hD, hq, -⟩ := ow_cell hX hi hH
  obtain ⟨t0, ht0⟩ := hX.2.2.1.2.2.1 k _ _ z hs
  have hln := hX.2.2.1.2.2.2 k
  rw [pv_c_3 hs] at hq
  refine va_aldq hX.1.1 hX.1.2.1 hX.2.1.1 hP q0 t0 hq ht0 (vp_in_nI hj hln) hd ?_
  rw [nI_clamp (by omega)]
  exact kk H locs ls h hH hS
theorem ow_sN (hX : ox X V rm cc nL own Ts ret) {k i z j v : Nat} (hs : pv_sh V k = .inr (0, .int, z)) (hd : decode cc pc = .ok (.iastore, 1)) (hi : i < pv_bd V k) (hj : j < pv_ln V k) (kk : ow X V r u' (un u k i j v) loc (pc + 1) st) : ow X V r u' u loc pc (.int (nI v) :: .int (nI j) :: .ref (pv_ad V k i) :: st) := by
  intro H locs ls h hH hS
  obtain ⟨σ, q0, hσ, hP, hD, hq, hset⟩ := ow_cell hX hi hH
  obtain ⟨t0, ht0⟩ := hX.2.2.1.2.2.1 k _ _ z hs
  have hln := hX.2.2.1.2.2.2 k
  rw [pv_c_0 hs] at hq
  refine va_iast hX.1.1 hX.1.2.1 hX.2.1.1 hP hD hS q0 t0 hq ht0 (vp_in_nI hj hln) hd (fun H1 locs1 hP1 hD1 hS1 => kk H1 locs1 ls h ?_ hS1)
  rw [hset] at hP1 hD1
  refine ⟨_, pv_new hX.2.2.1 hi hσ ?_ (fun _ _ _ q => pv_un_ne q), hP1, hD1⟩
  rw [pv_c_0 hs, nI_clamp (by omega)]
  congr 4
  funext a
  by_cases ha : a = j
  · subst ha; simp [upd, un_1]
  · simp [upd, un_1, ha]
theorem ow_sZ (hX : ox X V rm cc nL own Ts ret) {k i z j v : Nat} (hs : pv_sh V k = .inr (0, .boolean, z)) (hd : decode cc pc = .ok (.bastore, 1)) (hi : i < pv_bd V k) (hj : j < pv_ln V k) (hv : v ≤ 1) (kk : ow X V r u' (un u k i j v) loc (pc + 1) st) : ow X V r u' u loc pc (.int (nI v) :: .int (nI j) :: .ref (pv_ad V k i) :: st) := by
  intro H locs ls h hH hS
  obtain ⟨σ, q0, hσ, hP, hD, hq, hset⟩ := ow_cell hX hi hH
  obtain ⟨t0, ht0⟩ := hX.2.2.1.2.2.1 k _ _ z hs
  have hln := hX.2.2.1.2.2.2 k
  rw [pv_c_0 hs] at hq
  refine va_zast hX.1.1 hX.1.2.1 hX.2.1.1 hP hD hS q0 t0 hq ht0 (vp_in_nI hj hln) hd (fun H1 locs1 hP1 hD1 hS1 => kk H1 locs1 ls h ?_ hS1)
  rw [hset] at hP1 hD1
  refine ⟨_, pv_new hX.2.2.1 hi hσ ?_ (fun _ _ _ q => pv_un_ne q), hP1, hD1⟩
  rw [pv_c_0 hs, nI_clamp (by omega), vn_01 hv]
  congr 4
  funext a
  by_cases ha : a = j
  · subst ha; simp [upd, un_1]
  · simp [upd, un_1, ha]
theorem ow_sI (hX : ox X V rm cc nL own Ts ret) {k i z j : Nat} {v : Int32} (hs : pv_sh V k = .inr (1, .int, z)) (hd : decode cc pc = .ok (.iastore, 1)) (hi : i < pv_bd V k) (hj : j < pv_ln V k) (kk : ow X V r u' (ui u k i j v) loc (pc + 1) st) : ow X V r u' u loc pc (.int v :: .int (nI j) :: .ref (pv_ad V k i) :: st) := by
  intro H locs ls h hH hS
  obtain ⟨σ, q0, hσ, hP, hD, hq, hset⟩ := ow_cell hX hi hH
  obtain ⟨t0, ht0⟩ := hX.2.2.1.2.2.1 k _ _ z hs
  have hln := hX.2.2.1.2.2.2 k
  rw [pv_c_1 hs] at hq
  refine va_iast hX.1.1 hX.1.2.1 hX.2.1.1 hP hD hS q0 t0 hq ht0 (vp_in_nI hj hln) hd (fun H1 locs1 hP1 hD1 hS1 => kk H1 locs1 ls h ?_ hS1)
  rw [hset] at hP1 hD1
  refine ⟨_, pv_new hX.2.2.1 hi hσ ?_ (fun _ _ _ q => pv_ui_ne q), hP1, hD1⟩
  rw [pv_c_1 hs, nI_clamp (by omega)]
  congr 4
  funext a
  by_cases ha : a = j
  · subst ha; simp [upd, ui_2]
  · simp [upd, ui_2, ha]
theorem ow_sL (hX : ox X V rm cc nL own Ts ret) {k i z j : Nat} {v : Int64} (hs : pv_sh V k = .inr (2, .long, z)) (hd : decode cc pc = .ok (.lastore, 1)) (hi : i < pv_bd V k) (hj : j < pv_ln V k) (kk : ow X V r u' (ul u k i j v) loc (pc + 1) st) : ow X V r u' u loc pc (.long v :: .int (nI j) :: .ref (pv_ad V k i) :: st) := by
  intro H locs ls h hH hS
  obtain ⟨σ, q0, hσ, hP, hD, hq, hset⟩ := ow_cell hX hi hH
  obtain ⟨t0, ht0⟩ := hX.2.2.1.2.2.1 k _ _ z hs
  have hln := hX.2.2.1.2.2.2 k
  rw [pv_c_2 hs] at hq
  refine va_last hX.1.1 hX.1.2.1 hX.2.1.1 hP hD hS q0 t0 hq ht0 (vp_in_nI hj hln) hd (fun H1 locs1 hP1 hD1 hS1 => kk H1 locs1 ls h ?_ hS1)
  rw [hset] at hP1 hD1
  refine ⟨_, pv_new hX.2.2.1 hi hσ ?_ (fun _ _ _ q => pv_ul_ne q), hP1, hD1⟩
  rw [pv_c_2 hs, nI_clamp (by omega)]
  congr 5
  funext a
  by_cases ha : a = j
  · subst ha; simp [vp_updL, ul_3]
  · simp [vp_updL, ul_3, ha]
/-! calls -/
theorem ow_blind (as : List Value) : FrameBlind (va_Pc as fun T => pv_H V u T.heap ∧ pv_K V T) :=
  fun a U g mk q => ⟨q.1, q.2.1, va_K.moved (u := U) (U := U.calling g mk a) (Vm.Alike.refl U.vm) q.2.2.1, va_Nw.same rfl rfl q.2.2.2⟩
theorem ow_back {r1 : Option Value} {u1 : UU} {H : Heap} {locs : List Loc} {ls : Array Slot} {rest : List Value} {a : Array Value} (h : lv_has ls X.2.2.2.maxLocals loc) (hS : va_S (pv_A V) X.2.1.1.heap H locs)
    (hr : va_Run X.1.1 X.1.2.1 X.1.2.2.1 X.1.2.2.2 X.2.1.1 X.2.1.2.1 X.2.1.2.2.1 X.2.1.2.2.2 X.2.2.1 X.2.2.2 H locs 0 0 0 0 (F0 X.2.1.2.1 pc ls st) rest (ow_Q V r1 u1 a) (pv_A V))
    (kk : ow X V r u' u1 loc (pc + 3) (r1.toList ++ rest)) : W X.1.1 X.1.2.1 X.1.2.2.1 X.1.2.2.2 X.2.1.1 X.2.1.2.1 X.2.1.2.2.1 X.2.1.2.2.2 X.2.2.1 X.2.2.2 H locs 0 0 (MQ X.2.1.2.2.2 (ow_Q V r u') X.2.1.2.2.1 X.2.1.1 0 0 (pv_A V)) (F0 X.2.1.2.1 pc ls st) := by
  intro T hT X0
  obtain ⟨v, st₀, t, T', L, h0, X', hL, e1, e2, ⟨⟨hv, hH1, hK1⟩, hz, hk⟩, hgo⟩ := hr T hT X0
  cases hv
  rw [h0] at hz hk
  obtain ⟨t2, a1, b1⟩ := kk T'.heap (locs ++ L) ls h (by rw [e1]; exact hH1) ⟨Nat.le_trans hS.1 (by rw [e1]; exact hz), fun q h1 h2 => by rw [e1, hk q (Nat.lt_of_lt_of_le h1 hS.1) h2]; exact hS.2.1 q h1 h2, fun q hq => by
    rcases List.mem_append.mp hq with h | h
    · exact hS.2.2 q h
    · exact hL q h⟩ T' rfl X'
  exact ⟨t2, hgo t2 a1, b1⟩
theorem ow_recv (hX : ox X V rm cc nL own Ts ret) {H : Heap} {k i ci N : Nat} {C : String} {T : u_T} {ts : List (Nat × Nat)} (hk : kd V Ts k ci N C T ts) (hi : i < pv_bd V k) (hH : pv_H V u H) : ∃ cellB : Cell, H[pv_ad V k i]? = some cellB ∧ cellB.vm.isStatics = false ∧ X.2.1.1.vm.findClass C = some cellB.cls := by
  obtain ⟨σ, q0, hσ, hP, hD, hq, -⟩ := ow_cell hX hi hH
  rw [pv_c_o hk.1] at hq
  obtain ⟨rr, h1, cell, q1, q2, q3, -⟩ := hP q0 _ hq
  exact ⟨cell, q1, by rw [q3]; rfl, by rw [q2]; exact (hX.2.1.1.1 ci _ hk.2.1).2.1⟩
variable {y : MethodName} {bytes : ByteArray} {maxL n index : Nat} {ret1 : Option FieldType} {ws1 : List Cond} {rm1 : Room} {As rest : List Value} {r1 : Option Value} {u1 : UU}
theorem ow_callV (hX : ox X V rm cc nL own Ts ret) {k i ci N : Nat} {C : String} {T : u_T} {ts : List (Nat × Nat)} (hk : kd V Ts k ci N C T ts) (hi : i < pv_bd V k) (hM : Ct X.1.2.1 V y ws1 rm1 (.ref (pv_ad V k i) :: As) u r1 u1) (cw : CallW X.1.2.2.2 X.2.1.1 X.2.1.2.2.1 own C index y bytes maxL ret1 ws1 rm1 0 0 n) (hn : As.length = n) (hst : (rest.map fun v => v.category).sum ≤ 8) (hd : decode cc pc = .ok (.invokevirtual index, 3)) (he : st = As.reverse ++ .ref (pv_ad V k i) :: rest)
    (kk : ow X V r u' u1 loc (pc + 3) (r1.toList ++ rest)) : ow X V r u' u loc pc st := by
  intro H locs ls h hH hS
  subst he
  exact ow_back h hS (va_runV hX.1 hM cw ⟨ow_blind _, ow_recv hX hk hi hH, fun U hU hW => ⟨rfl, by rw [hU]; exact hH, hX.2.1.moved hW⟩⟩ rfl hn (h.1.trans hX.1.2.2.1) rfl (lv_room hst) hd ⟨Nat.zero_le _, Nat.zero_le _⟩) kk
theorem ow_callS (hX : ox X V rm cc nL own Ts ret) (hM : Ct X.1.2.1 V y ws1 rm1 As u r1 u1) (cw : CallB X.1.2.2.2 X.2.1.1 X.2.1.2.2.1 own index y bytes maxL ret1 ws1 rm1 0 0 n ∧ (Cond.static y).before X.2.1.2.2.1 X.2.1.1 = true) (hn : As.length = n) (hst : (rest.map fun v => v.category).sum ≤ 8) (hd : decode cc pc = .ok (.invokestatic index, 3)) (he : st = As.reverse ++ rest)
    (kk : ow X V r u' u1 loc (pc + 3) (r1.toList ++ rest)) : ow X V r u' u loc pc st := by
  intro H locs ls h hH hS
  subst he
  exact ow_back h hS (va_runS hX.1 hM cw ⟨ow_blind _, fun U hU hW => ⟨rfl, by rw [hU]; exact hH, hX.2.1.moved hW⟩⟩ rfl hn (h.1.trans hX.1.2.2.1) rfl (lv_room hst) hd ⟨Nat.zero_le _, Nat.zero_le _⟩) kk
theorem ow_callSN (hX : ox X V rm cc nL own Ts ret) {host : String} (hM : Ct X.1.2.1 V y ws1 rm1 As u r1 u1) (cw : va_CN X.1.2.2.2 X.2.1.1 X.2.1.2.2.1 own index y host bytes maxL ret1 ws1 rm1 0 0 n ∧ (Cond.static y).before X.2.1.2.2.1 X.2.1.1 = true ∧ True) (hn : As.length = n) (hst : (rest.map fun v => v.category).sum ≤ 8) (hd : decode cc pc = .ok (.invokestatic index, 3)) (he : st = As.reverse ++ rest)
    (kk : ow X V r u' u1 loc (pc + 3) (r1.toList ++ rest)) : ow X V r u' u loc pc st := by
  intro H locs ls h hH hS
  subst he
  exact ow_back h hS (va_runSN hX.1 hM cw ⟨ow_blind _, fun U hU hW => ⟨rfl, by rw [hU]; exact hH, hX.2.1.moved hW⟩⟩ rfl hn (h.1.trans hX.1.2.2.1) rfl (lv_room hst) hd ⟨Nat.zero_le _, Nat.zero_le _⟩) kk
/-! Math -/
theorem ow_max (hX : ox X V rm cc nL own Ts ret) {x z : Int32} (hd : decode cc pc = .ok (.invokestatic index, 3)) (h1 : Cond.methodLink own index Lib.Math.max.name ∈ Ts) (h2 : Cond.static Lib.Math.max.name ∈ Ts) (h3 : Cond.initialized "java/lang/Math" ∈ Ts) (h4 : Cond.code Lib.Math.max.name Lib.Math.max.code 2 (some .int) ∈ Ts) (hf : 1 ≤ rm.frames) (hlo : (st.map fun v => v.category).sum + 13 ≤ rm.locals)
    (kk : ow X V r u' u loc (pc + 3) (.int (if x < z then z else x) :: st)) : ow X V r u' u loc pc (.int z :: .int x :: st) :=
  fun H locs ls h hH hS => va_mmax hX.1.1 hX.1.2.1 h.1.symm hX.1.2.2.2.1 (hX.1.2.2.2.2 _ h1) (hX.1.2.2.2.2 _ h2) (hX.1.2.2.2.2 _ h3) (hX.1.2.2.2.2 _ h4) (by rw [hX.2.2.2.2.2]; exact hf) (by rw [hX.2.2.2.2.2]; exact hlo) (Nat.zero_le _) (Nat.zero_le _) hd (kk H locs ls h hH hS)
theorem ow_min (hX : ox X V rm cc nL own Ts ret) {x z : Int32} (hd : decode cc pc = .ok (.invokestatic index, 3)) (h1 : Cond.methodLink own index Lib.Math.min.name ∈ Ts) (h2 : Cond.static Lib.Math.min.name ∈ Ts) (h3 : Cond.initialized "java/lang/Math" ∈ Ts) (h4 : Cond.code Lib.Math.min.name Lib.Math.min.code 2 (some .int) ∈ Ts) (hf : 1 ≤ rm.frames) (hlo : (st.map fun v => v.category).sum + 13 ≤ rm.locals)
    (kk : ow X V r u' u loc (pc + 3) (.int (if z < x then z else x) :: st)) : ow X V r u' u loc pc (.int z :: .int x :: st) :=
  fun H locs ls h hH hS => va_mmin hX.1.1 hX.1.2.1 h.1.symm hX.1.2.2.2.1 (hX.1.2.2.2.2 _ h1) (hX.1.2.2.2.2 _ h2) (hX.1.2.2.2.2 _ h3) (hX.1.2.2.2.2 _ h4) (by rw [hX.2.2.2.2.2]; exact hf) (by rw [hX.2.2.2.2.2]; exact hlo) (Nat.zero_le _) (Nat.zero_le _) hd (kk H locs ls h hH hS)
theorem ow_abs (hX : ox X V rm cc nL own Ts ret) {x : Int32} (hd : decode cc pc = .ok (.invokestatic index, 3)) (h1 : Cond.methodLink own index Lib.Math.abs.name ∈ Ts) (h2 : Cond.static Lib.Math.abs.name ∈ Ts) (h3 : Cond.initialized "java/lang/Math" ∈ Ts) (h4 : Cond.code Lib.Math.abs.name Lib.Math.abs.code 1 (some .int) ∈ Ts) (hf : 1 ≤ rm.frames) (hlo : (st.map fun v => v.category).sum + 13 ≤ rm.locals)
    (kk : ow X V r u' u loc (pc + 3) (.int (if 0 ≤ x then x else 0 - x) :: st)) : ow X V r u' u loc pc (.int x :: st) :=
  fun H locs ls h hH hS => va_mabs hX.1.1 hX.1.2.1 h.1.symm hX.1.2.2.2.1 (hX.1.2.2.2.2 _ h1) (hX.1.2.2.2.2 _ h2) (hX.1.2.2.2.2 _ h3) (hX.1.2.2.2.2 _ h4) (by rw [hX.2.2.2.2.2]; exact hf) (by rw [hX.2.2.2.2.2]; exact hlo) (Nat.zero_le _) (Nat.zero_le _) hd (kk H locs ls h hH hS)
end OW
/-! words and rooms -/
abbrev wz (y : MethodName) (cc : ByteArray) (nL : Nat) (ret : Option FieldType) : List Cond := Cond.code y cc nL ret :: gz
abbrev rd (d : Nat) : Room := { frames := d, cells := 0, slots := 0, locals := 40 * d }
theorem gw_in {w : Cond} (h : w ∈ gz) : w ∈ gz ∧ ((w.onTables && w.keeps) = true ∨ ∃ ty, w = .arrayClass ty) := ⟨h, good_of_word (List.mem_filter.mp h).2⟩
theorem gw_code {y : MethodName} {cc : ByteArray} {nL : Nat} {ret : Option FieldType} (h : Cond.code y cc nL ret ∈ gz) : GoodIn gz (wz y cc nL ret) := fun w hw => by
  rcases List.mem_cons.mp hw with rfl | hw
  · exact gw_in h
  · exact gw_in hw
theorem ct_mk {l : Launch} {V : PV} {y : MethodName} {rm : Room} {as : List Value} {u : UU} {r : Option Value} {u' : UU} {cc : ByteArray} {nL : Nat} {ret : Option FieldType} (hV : pv_ok V) (hy : plainFor y = true) (hn : (lg_sl as).length ≤ nL)
    (walk : ∀ X : OX, ox X V rm cc nL y.cls gz ret → ow X V r u' u (lv_args 0 as) 0 []) : Ct l V y (wz y cc nL ret) rm as u r u' :=
  ct_of hV hy rfl hn (fun X hX => walk X ⟨⟨hX.1.1, hX.1.2.1, hX.1.2.2.1, hX.1.2.2.2.1, fun w hw => hX.1.2.2.2.2 w (List.mem_cons_of_mem _ hw)⟩, hX.2⟩)
/-- what a call of an instance method, of a static one, needs of the tables -/
def mv (C : String) (y : MethodName) (bytes : ByteArray) (maxL : Nat) (ret : Option FieldType) (n : Nat) : Prop := Cond.instanceMethod y ∈ gz ∧ Cond.selects C y y ∈ gz ∧ Cond.initialized C ∈ gz ∧ Cond.code y bytes maxL ret ∈ gz ∧ (y.cls = C ∧ y.cls ≠ "java/lang/invoke/MethodHandle" ∧ y.cls ≠ "java/lang/invoke/VarHandle" ∧ (parseMethodDescriptor y.desc).map (fun d => d.parameters.length) = some n)
def ms (y : MethodName) (bytes : ByteArray) (maxL : Nat) (ret : Option FieldType) (n : Nat) : Prop := Cond.static y ∈ gz ∧ Cond.initialized y.cls ∈ gz ∧ Cond.code y bytes maxL ret ∈ gz ∧ (y.cls ≠ "java/lang/invoke/MethodHandle" ∧ y.cls ≠ "java/lang/invoke/VarHandle" ∧ (parseMethodDescriptor y.desc).map (fun d => d.parameters.length) = some n)
section CW
variable {X : OX} {V : PV} {rm rm1 : Room} {cc bytes : ByteArray} {nL maxL index n : Nat} {own C : String} {ret ret1 : Option FieldType} {y : MethodName} {r r1 : Option Value} {u' u u1 : UU} {loc : List (Nat × Value)} {pc : Nat} {st As rest : List Value}
theorem cw_V (hX : ox X V rm cc nL own gz ret) (h : mv C y bytes maxL ret1 n) (hl : Cond.methodLink own index y ∈ gz) (hz : rm1.cells = 0 ∧ rm1.slots = 0) (hR : rm1.frames + 1 ≤ rm.frames ∧ 8 + (maxL + 11) + rm1.locals ≤ rm.locals) :
    CallW X.1.2.2.2 X.2.1.1 X.2.1.2.2.1 own C index y bytes maxL ret1 (wz y bytes maxL ret1) rm1 0 0 n := by
  rw [hX.2.2.2.2.2]
  refine cwV n hX.1.2.2.2.2 (fun w hw => ?_) rfl hz.1 hz.2 h.2.2.2.2 hR
  unfold wsV at hw
  rcases List.mem_append.mp hw with hw | hw
  · simp only [List.mem_cons, List.not_mem_nil, or_false] at hw
    rcases hw with rfl | rfl | rfl | rfl
    · exact gw_in hl
    · exact gw_in h.1
    · exact gw_in h.2.1
    · exact gw_in h.2.2.1
  · exact gw_code h.2.2.2.1 w hw
theorem cw_S (hX : ox X V rm cc nL own gz ret) (h : ms y bytes maxL ret1 n) (hl : Cond.methodLink own index y ∈ gz) (hz : rm1.cells = 0 ∧ rm1.slots = 0) (hR : rm1.frames + 1 ≤ rm.frames ∧ 8 + (maxL + 11) + rm1.locals ≤ rm.locals) :
    CallB X.1.2.2.2 X.2.1.1 X.2.1.2.2.1 own index y bytes maxL ret1 (wz y bytes maxL ret1) rm1 0 0 n ∧ (Cond.static y).before X.2.1.2.2.1 X.2.1.1 = true := by
  rw [hX.2.2.2.2.2]
  exact ⟨callB_of n hX.1.2.2.2.2 (gw_code h.2.2.1) rfl hz.1 hz.2 (hX.1.2.2.2.2 _ h.2.1) (hX.1.2.2.2.2 _ hl) h.2.2.2 hR, hX.1.2.2.2.2 _ h.1⟩
theorem cw_N (hX : ox X V rm cc nL "SlottedMesh$Loop" gz ret) (h : ms ⟨"SlottedMesh", "nearest", "(III)I"⟩ bytes maxL ret1 n) (hz : rm1.cells = 0 ∧ rm1.slots = 0) (hR : rm1.frames + 1 ≤ rm.frames ∧ 8 + (maxL + 11) + rm1.locals ≤ rm.locals) :
    va_CN X.1.2.2.2 X.2.1.1 X.2.1.2.2.1 "SlottedMesh$Loop" 29 ⟨"SlottedMesh", "nearest", "(III)I"⟩ "SlottedMesh" bytes maxL ret1 (wz ⟨"SlottedMesh", "nearest", "(III)I"⟩ bytes maxL ret1) rm1 0 0 n ∧ (Cond.static ⟨"SlottedMesh", "nearest", "(III)I"⟩).before X.2.1.2.2.1 X.2.1.1 = true ∧ True := by
  rw [hX.2.2.2.2.2]
  exact ⟨va_cnB n hX.1.2.2.2.2 (gw_code h.2.2.1) rfl hz.1 hz.2 hX.2.1.2 (hX.1.2.2.2.2 _ h.2.1) h.2.2.2 hR, hX.1.2.2.2.2 _ h.1, trivial⟩
end CW
end
section
/-! the class's heap: kinds of cells (by program, wip/whole/gen/shape.py) -/
abbrev YY : Type := va_G × List (ClassId × FieldType) × (Nat → Nat → Nat) × (Nat → ClassId) × List Nat
def shC (s c : Nat) : Nat → KS := fun k => match k with
  | 0 => .inl (5, [(8, s), (8, c), (3, 1), (3, 2), (3, 3), (6, 15), (6, 15), (0, 0), (1, 0)])
  | 1 => .inr (3, .object "SlottedMesh$Node", 4)
  | 2 => .inr (3, .object "SlottedMesh$Channel", 5)
  | 3 => .inr (3, .object "SlottedMesh$Loop", 6)
  | 4 => .inl (3, [(7, 0), (3, 7), (4, 8), (5, 8), (3, 9), (3, 10), (0, 0), (0, 0), (1, 0), (1, 0), (0, 0), (0, 0), (1, 0), (1, 0)])
  | 5 => .inl (0, [(2, 0), (2, 0)])
  | 6 => .inl (2, [(3, 11), (0, 0), (1, 0), (1, 0), (1, 0), (1, 0)])
  | 7 => .inr (0, .boolean, 0)
  | 8 => .inl (1, [(3, 12), (3, 13), (3, 14), (0, 0)])
  | 9 => .inr (1, .int, 0)
  | 10 => .inr (1, .int, 0)
  | 11 => .inr (1, .int, 0)
  | 12 => .inr (0, .int, 0)
  | 13 => .inr (1, .int, 0)
  | 14 => .inr (1, .int, 0)
  | 15 => .inl (4, [(8, s), (8, c), (3, 16), (3, 17), (3, 18), (3, 19), (3, 20), (0, 0), (0, 0)])
  | 16 => .inr (1, .int, 0)
  | 17 => .inr (1, .int, 0)
  | 18 => .inr (1, .int, 0)
  | 19 => .inr (0, .int, 0)
  | _ => .inr (0, .int, 0)
def lnC (n s c : Nat) : Nat → Nat := fun k => match k with
  | 1 => n
  | 2 => c
  | 3 => n
  | 7 => n
  | 9 => n
  | 10 => n
  | 11 => 3
  | 12 => 4
  | 13 => 4
  | 14 => 4
  | 16 => n
  | 17 => n
  | 18 => n
  | 19 => n
  | 20 => s * c
  | _ => 0
def bdC (n c : Nat) : Nat → Nat := fun k => match k with
  | 0 => 1
  | 1 => 1
  | 2 => 1
  | 3 => 1
  | 4 => n
  | 5 => c
  | 6 => n
  | 7 => n
  | 8 => 2 * n
  | 9 => n
  | 10 => n
  | 11 => n
  | 12 => 2 * n
  | 13 => 2 * n
  | 14 => 2 * n
  | 15 => 2
  | 16 => 2
  | 17 => 2
  | 18 => 2
  | 19 => 2
  | 20 => 2
  | _ => 0
abbrev vC (Y : YY) (n s c : Nat) : PV := ((Y.1, vCl, Y.2.1), (shC s c, Y.2.2.1, Y.2.2.2.1, lnC n s c), (bdC n c, Y.2.2.2.2))
theorem kd_S (Y : YY) (n s c : Nat) : kd (vC Y n s c) gz 0 5 9 R_S T_S [(8, s), (8, c), (3, 1), (3, 2), (3, 3), (6, 15), (6, 15), (0, 0), (1, 0)] := ⟨rfl, rfl, rfl, uw_S, tc_S, ⟨tp_S, tp_S_ok⟩, nm_S⟩
theorem kd_N (Y : YY) (n s c : Nat) : kd (vC Y n s c) gz 4 3 14 R_N T_N [(7, 0), (3, 7), (4, 8), (5, 8), (3, 9), (3, 10), (0, 0), (0, 0), (1, 0), (1, 0), (0, 0), (0, 0), (1, 0), (1, 0)] := ⟨rfl, rfl, rfl, uw_N, tc_N, ⟨tp_N, tp_N_ok⟩, nm_N⟩
theorem kd_H (Y : YY) (n s c : Nat) : kd (vC Y n s c) gz 5 0 2 R_H T_H [(2, 0), (2, 0)] := ⟨rfl, rfl, rfl, uw_H, tc_H, ⟨tp_H, tp_H_ok⟩, nm_H⟩
theorem kd_O (Y : YY) (n s c : Nat) : kd (vC Y n s c) gz 6 2 6 R_O T_O [(3, 11), (0, 0), (1, 0), (1, 0), (1, 0), (1, 0)] := ⟨rfl, rfl, rfl, uw_O, tc_O, ⟨tp_O, tp_O_ok⟩, nm_O⟩
theorem kd_F (Y : YY) (n s c : Nat) : kd (vC Y n s c) gz 8 1 4 R_F T_F [(3, 12), (3, 13), (3, 14), (0, 0)] := ⟨rfl, rfl, rfl, uw_F, tc_F, ⟨tp_F, tp_F_ok⟩, nm_F⟩
theorem kd_P (Y : YY) (n s c : Nat) : kd (vC Y n s c) gz 15 4 9 R_P T_P [(8, s), (8, c), (3, 16), (3, 17), (3, 18), (3, 19), (3, 20), (0, 0), (0, 0)] := ⟨rfl, rfl, rfl, uw_P, tc_P, ⟨tp_P, tp_P_ok⟩, nm_P⟩
theorem shC_no6 {s c : Nat} : ∀ k2 ci2 ts2, shC s c k2 = .inl (ci2, ts2) → k2 ≠ 0 → ∀ t ∈ ts2, t.1 ≠ 6 := by
  intro k2 ci2 ts2 h hk
  unfold shC at h
  split at h <;> first | (exfalso; exact hk rfl) | (cases h; done) | (obtain ⟨rfl, rfl⟩ := Prod.mk.inj (Sum.inl.inj h); intro t ht; simp only [List.mem_cons, List.not_mem_nil, or_false] at ht; rcases ht with rfl | rfl | rfl | rfl | rfl | rfl | rfl | rfl | rfl | rfl | rfl | rfl | rfl | rfl <;> simp) | (obtain ⟨rfl, rfl⟩ := Prod.mk.inj (Sum.inl.inj h); intro t ht; simp only [List.mem_cons, List.not_mem_nil, or_false] at ht; rcases ht with rfl | rfl | rfl | rfl | rfl | rfl | rfl | rfl | rfl <;> simp) | (obtain ⟨rfl, rfl⟩ := Prod.mk.inj (Sum.inl.inj h); intro t ht; simp only [List.mem_cons, List.not_mem_nil, or_false] at ht; rcases ht with rfl | rfl | rfl | rfl | rfl | rfl <;> simp) | (obtain ⟨rfl, rfl⟩ := Prod.mk.inj (Sum.inl.inj h); intro t ht; simp only [List.mem_cons, List.not_mem_nil, or_false] at ht; rcases ht with rfl | rfl | rfl | rfl <;> simp) | (obtain ⟨rfl, rfl⟩ := Prod.mk.inj (Sum.inl.inj h); intro t ht; simp only [List.mem_cons, List.not_mem_nil, or_false] at ht; rcases ht with rfl | rfl <;> simp)
/-! the model's -/
def shM (n s c : Nat) : Nat → KS := fun k => match k with
  | 0 => .inl (6, [(8, n), (8, s), (8, c), (0, 0), (1, 0), (3, 1), (3, 2), (3, 3), (3, 4), (3, 5), (3, 6), (3, 7), (0, 0), (3, 8), (3, 9), (3, 10), (3, 11), (3, 12), (3, 13), (3, 14), (3, 15), (3, 16), (3, 17), (3, 18), (3, 19), (3, 20), (3, 21), (3, 22), (3, 23), (3, 24), (3, 25), (3, 26), (3, 27), (3, 28)])
  | 1 => .inr (0, .boolean, 0)
  | 2 => .inr (0, .boolean, 0)
  | 3 => .inr (0, .boolean, 0)
  | 4 => .inr (1, .int, 0)
  | 5 => .inr (1, .int, 0)
  | 6 => .inr (2, .long, 0)
  | 7 => .inr (2, .long, 0)
  | 8 => .inr (0, .int, 0)
  | 9 => .inr (1, .int, 0)
  | 10 => .inr (0, .int, 0)
  | 11 => .inr (0, .int, 0)
  | 12 => .inr (1, .int, 0)
  | 13 => .inr (0, .int, 0)
  | 14 => .inr (0, .int, 0)
  | 15 => .inr (0, .int, 0)
  | 16 => .inr (1, .int, 0)
  | 17 => .inr (1, .int, 0)
  | 18 => .inr (0, .int, 0)
  | 19 => .inr (0, .int, 0)
  | 20 => .inr (1, .int, 0)
  | 21 => .inr (1, .int, 0)
  | 22 => .inr (1, .int, 0)
  | 23 => .inr (0, .int, 0)
  | 24 => .inr (1, .int, 0)
  | 25 => .inr (1, .int, 0)
  | 26 => .inr (1, .int, 0)
  | 27 => .inr (1, .int, 0)
  | _ => .inr (1, .int, 0)
def lnM : Nat → Nat := fun k => match k with
  | 1 => 36
  | 2 => 6
  | 3 => 6
  | 4 => 6
  | 5 => 6
  | 6 => 4
  | 7 => 4
  | 8 => 6
  | 9 => 12
  | 10 => 96
  | 11 => 6
  | 12 => 12
  | 13 => 96
  | 14 => 12
  | 15 => 48
  | 16 => 48
  | 17 => 48
  | 18 => 6
  | 19 => 6
  | 20 => 72
  | 21 => 6
  | 22 => 18
  | 23 => 6
  | 24 => 6
  | 25 => 6
  | 26 => 6
  | 27 => 6
  | 28 => 6
  | _ => 0
def bdM : Nat → Nat := fun k => if k ≤ 28 then 1 else 0
abbrev vM (Y : YY) (n s c : Nat) : PV := ((Y.1, vCl, Y.2.1), (shM n s c, Y.2.2.1, Y.2.2.2.1, lnM), (bdM, Y.2.2.2.2))
theorem kd_M (Y : YY) (n s c : Nat) : kd (vM Y n s c) gz 0 6 34 R_M T_M [(8, n), (8, s), (8, c), (0, 0), (1, 0), (3, 1), (3, 2), (3, 3), (3, 4), (3, 5), (3, 6), (3, 7), (0, 0), (3, 8), (3, 9), (3, 10), (3, 11), (3, 12), (3, 13), (3, 14), (3, 15), (3, 16), (3, 17), (3, 18), (3, 19), (3, 20), (3, 21), (3, 22), (3, 23), (3, 24), (3, 25), (3, 26), (3, 27), (3, 28)] := ⟨rfl, rfl, rfl, uw_M, tc_M, ⟨tp_M, tp_M_ok⟩, nm_M⟩
/-! methods: what their calls need of the tables -/
theorem mz_S_pair : mv "SlottedMesh" ⟨"SlottedMesh", "pair", "(IIZ)Z"⟩ b_S_pair 4 (some .boolean) 3 := ⟨kw_230, kw_231, kw_1, kw_232, by decide +kernel⟩
theorem mz_S_plan : mv "SlottedMesh" ⟨"SlottedMesh", "plan", "()I"⟩ b_S_plan 3 (some .int) 0 := ⟨kw_238, kw_239, kw_1, kw_240, by decide +kernel⟩
theorem mz_S_start : mv "SlottedMesh" ⟨"SlottedMesh", "start", "(I)Z"⟩ b_S_start 2 (some .boolean) 1 := ⟨kw_309, kw_310, kw_1, kw_311, by decide +kernel⟩
theorem mz_S_stop : mv "SlottedMesh" ⟨"SlottedMesh", "stop", "(I)Z"⟩ b_S_stop 2 (some .boolean) 1 := ⟨kw_313, kw_314, kw_1, kw_315, by decide +kernel⟩
theorem mz_S_drift : mv "SlottedMesh" ⟨"SlottedMesh", "drift", "(II)Z"⟩ b_S_drift 3 (some .boolean) 2 := ⟨kw_326, kw_327, kw_1, kw_328, by decide +kernel⟩
theorem mz_S_radio : mv "SlottedMesh" ⟨"SlottedMesh", "radio", "(IJJ)Z"⟩ b_S_radio 6 (some .boolean) 3 := ⟨kw_333, kw_334, kw_1, kw_335, by decide +kernel⟩
theorem mz_S_sample : mv "SlottedMesh" ⟨"SlottedMesh", "sample", "(II)I"⟩ b_S_sample 4 (some .int) 2 := ⟨kw_341, kw_342, kw_1, kw_343, by decide +kernel⟩
theorem mz_S_control : mv "SlottedMesh" ⟨"SlottedMesh", "control", "(IIII)Z"⟩ b_S_control 5 (some .boolean) 4 := ⟨kw_349, kw_350, kw_1, kw_351, by decide +kernel⟩
theorem mz_S_run : mv "SlottedMesh" ⟨"SlottedMesh", "run", "(I)I"⟩ b_S_run 3 (some .int) 1 := ⟨kw_353, kw_354, kw_1, kw_355, by decide +kernel⟩
theorem mz_S_rank : mv "SlottedMesh" ⟨"SlottedMesh", "rank", "(I)I"⟩ b_S_rank 2 (some .int) 1 := ⟨kw_452, kw_453, kw_1, kw_454, by decide +kernel⟩
theorem mz_S_parent : mv "SlottedMesh" ⟨"SlottedMesh", "parent", "(II)I"⟩ b_S_parent 3 (some .int) 2 := ⟨kw_456, kw_457, kw_1, kw_458, by decide +kernel⟩
theorem mz_S_cell : mv "SlottedMesh" ⟨"SlottedMesh", "cell", "(II)I"⟩ b_S_cell 3 (some .int) 2 := ⟨kw_460, kw_461, kw_1, kw_462, by decide +kernel⟩
theorem mz_S_current : mv "SlottedMesh" ⟨"SlottedMesh", "current", "(I)Z"⟩ b_S_current 2 (some .boolean) 1 := ⟨kw_464, kw_465, kw_1, kw_466, by decide +kernel⟩
theorem mz_S_offset : mv "SlottedMesh" ⟨"SlottedMesh", "offset", "(I)I"⟩ b_S_offset 2 (some .int) 1 := ⟨kw_468, kw_469, kw_1, kw_470, by decide +kernel⟩
theorem mz_S_count : mv "SlottedMesh" ⟨"SlottedMesh", "count", "(II)I"⟩ b_S_count 3 (some .int) 2 := ⟨kw_472, kw_473, kw_1, kw_474, by decide +kernel⟩
theorem mz_S_cached : mv "SlottedMesh" ⟨"SlottedMesh", "cached", "(II)I"⟩ b_S_cached 3 (some .int) 2 := ⟨kw_476, kw_477, kw_1, kw_478, by decide +kernel⟩
theorem mz_S_latest : mv "SlottedMesh" ⟨"SlottedMesh", "latest", "(I)I"⟩ b_S_latest 2 (some .int) 1 := ⟨kw_480, kw_481, kw_1, kw_482, by decide +kernel⟩
theorem mz_S_actuator : mv "SlottedMesh" ⟨"SlottedMesh", "actuator", "(I)I"⟩ b_S_actuator 2 (some .int) 1 := ⟨kw_484, kw_485, kw_1, kw_486, by decide +kernel⟩
theorem mz_S_sent : mv "SlottedMesh" ⟨"SlottedMesh", "sent", "()I"⟩ b_S_sent 1 (some .int) 0 := ⟨kw_488, kw_489, kw_1, kw_490, by decide +kernel⟩
theorem mz_S_nearest : ms ⟨"SlottedMesh", "nearest", "(III)I"⟩ b_S_nearest 3 (some .int) 3 := ⟨kw_19, kw_1, kw_20, by decide +kernel⟩
theorem mz_S_isWithin : ms ⟨"SlottedMesh", "isWithin", "(III)Z"⟩ b_S_isWithin 3 (some .boolean) 3 := ⟨kw_330, kw_1, kw_331, by decide +kernel⟩
theorem mz_S_isNode : mv "SlottedMesh" ⟨"SlottedMesh", "isNode", "(I)Z"⟩ b_S_isNode 2 (some .boolean) 1 := ⟨kw_235, ks_0, kw_1, kw_236, by decide +kernel⟩
theorem mz_S_isFieldNode : mv "SlottedMesh" ⟨"SlottedMesh", "isFieldNode", "(I)Z"⟩ b_S_isFieldNode 2 (some .boolean) 1 := ⟨kw_318, ks_10, kw_1, kw_319, by decide +kernel⟩
theorem mz_S_isChannel : mv "SlottedMesh" ⟨"SlottedMesh", "isChannel", "(I)Z"⟩ b_S_isChannel 2 (some .boolean) 1 := ⟨kw_338, ks_11, kw_1, kw_339, by decide +kernel⟩
theorem mz_S_driftClocks : mv "SlottedMesh" ⟨"SlottedMesh", "driftClocks", "()V"⟩ b_S_driftClocks 2 none 0 := ⟨kw_358, ks_12, kw_1, kw_359, by decide +kernel⟩
theorem mz_S_playCells : mv "SlottedMesh" ⟨"SlottedMesh", "playCells", "(I)V"⟩ b_S_playCells 7 none 1 := ⟨kw_365, ks_13, kw_1, kw_366, by decide +kernel⟩
theorem mz_S_advertise : mv "SlottedMesh" ⟨"SlottedMesh", "advertise", "(LSlottedMesh$Node;LSlottedMesh$Channel;)V"⟩ b_S_advertise 4 none 2 := ⟨kw_373, ks_14, kw_1, kw_374, by decide +kernel⟩
theorem mz_S_answerAdvert : mv "SlottedMesh" ⟨"SlottedMesh", "answerAdvert", "(LSlottedMesh$Node;LSlottedMesh$Node;)V"⟩ b_S_answerAdvert 3 none 2 := ⟨kw_385, ks_15, kw_1, kw_386, by decide +kernel⟩
theorem mz_S_hears : mv "SlottedMesh" ⟨"SlottedMesh", "hears", "(LSlottedMesh$Node;LSlottedMesh$Node;LSlottedMesh$Channel;)Z"⟩ b_S_hears 4 (some .boolean) 3 := ⟨kw_400, ks_17, kw_1, kw_401, by decide +kernel⟩
theorem mz_S_sendUp : mv "SlottedMesh" ⟨"SlottedMesh", "sendUp", "(LSlottedMesh$Node;LSlottedMesh$Node;LSlottedMesh$Channel;)V"⟩ b_S_sendUp 5 none 3 := ⟨kw_396, ks_16, kw_1, kw_397, by decide +kernel⟩
theorem mz_S_settleUp : mv "SlottedMesh" ⟨"SlottedMesh", "settleUp", "(LSlottedMesh$FrameRow;LSlottedMesh$Node;)Z"⟩ b_S_settleUp 5 (some .boolean) 2 := ⟨kw_404, ks_18, kw_1, kw_405, by decide +kernel⟩
theorem mz_S_cacheSample : mv "SlottedMesh" ⟨"SlottedMesh", "cacheSample", "(III)V"⟩ b_S_cacheSample 4 none 3 := ⟨kw_408, ks_19, kw_1, kw_409, by decide +kernel⟩
theorem mz_S_sendDown : mv "SlottedMesh" ⟨"SlottedMesh", "sendDown", "(LSlottedMesh$Node;LSlottedMesh$Node;LSlottedMesh$Channel;)V"⟩ b_S_sendDown 6 none 3 := ⟨kw_437, ks_20, kw_1, kw_438, by decide +kernel⟩
theorem mz_S_settleDown : ms ⟨"SlottedMesh", "settleDown", "(LSlottedMesh$FrameRow;LSlottedMesh$Node;)Z"⟩ b_S_settleDown 4 (some .boolean) 2 := ⟨kw_444, kw_1, kw_445, by decide +kernel⟩
theorem mz_M_noNode : mv "SlottedMeshModel" ⟨"SlottedMeshModel", "noNode", "(I)Z"⟩ b_M_noNode 2 (some .boolean) 1 := ⟨kw_611, ks_21, kw_8, kw_612, by decide +kernel⟩
theorem mz_M_pair : mv "SlottedMeshModel" ⟨"SlottedMeshModel", "pair", "(IIZ)Z"⟩ b_M_pair 4 (some .boolean) 3 := ⟨kw_606, kw_607, kw_8, kw_608, by decide +kernel⟩
theorem mz_M_ranks : mv "SlottedMeshModel" ⟨"SlottedMeshModel", "ranks", "()Z"⟩ b_M_ranks 4 (some .boolean) 0 := ⟨kw_619, ks_22, kw_8, kw_620, by decide +kernel⟩
theorem mz_M_findParents : mv "SlottedMeshModel" ⟨"SlottedMeshModel", "findParents", "()V"⟩ b_M_findParents 4 none 0 := ⟨kw_623, ks_23, kw_8, kw_624, by decide +kernel⟩
theorem mz_M_first : ms ⟨"SlottedMeshModel", "first", "(I)I"⟩ b_M_first 1 (some .int) 1 := ⟨kw_638, kw_8, kw_639, by decide +kernel⟩
theorem mz_M_second : ms ⟨"SlottedMeshModel", "second", "(I)I"⟩ b_M_second 1 (some .int) 1 := ⟨kw_641, kw_8, kw_642, by decide +kernel⟩
theorem mz_M_placeAdvert : mv "SlottedMeshModel" ⟨"SlottedMeshModel", "placeAdvert", "(I)Z"⟩ b_M_placeAdvert 4 (some .boolean) 1 := ⟨kw_631, ks_25, kw_8, kw_632, by decide +kernel⟩
theorem mz_M_place : mv "SlottedMeshModel" ⟨"SlottedMeshModel", "place", "(I)Z"⟩ b_M_place 8 (some .boolean) 1 := ⟨kw_635, ks_26, kw_8, kw_636, by decide +kernel⟩
theorem mz_M_placeAll : mv "SlottedMeshModel" ⟨"SlottedMeshModel", "placeAll", "()Z"⟩ b_M_placeAll 6 (some .boolean) 0 := ⟨kw_627, ks_24, kw_8, kw_628, by decide +kernel⟩
theorem mz_M_plan : mv "SlottedMeshModel" ⟨"SlottedMeshModel", "plan", "()I"⟩ b_M_plan 3 (some .int) 0 := ⟨kw_614, kw_615, kw_8, kw_616, by decide +kernel⟩
theorem mz_M_start : mv "SlottedMeshModel" ⟨"SlottedMeshModel", "start", "(I)Z"⟩ b_M_start 2 (some .boolean) 1 := ⟨kw_644, kw_645, kw_8, kw_646, by decide +kernel⟩
theorem mz_M_stop : mv "SlottedMeshModel" ⟨"SlottedMeshModel", "stop", "(I)Z"⟩ b_M_stop 3 (some .boolean) 1 := ⟨kw_648, kw_649, kw_8, kw_650, by decide +kernel⟩
theorem mz_M_drift : mv "SlottedMeshModel" ⟨"SlottedMeshModel", "drift", "(II)Z"⟩ b_M_drift 3 (some .boolean) 2 := ⟨kw_652, kw_653, kw_8, kw_654, by decide +kernel⟩
theorem mz_M_radio : mv "SlottedMeshModel" ⟨"SlottedMeshModel", "radio", "(IJJ)Z"⟩ b_M_radio 6 (some .boolean) 3 := ⟨kw_656, kw_657, kw_8, kw_658, by decide +kernel⟩
theorem mz_M_add : mv "SlottedMeshModel" ⟨"SlottedMeshModel", "add", "(IIII)V"⟩ b_M_add 6 none 4 := ⟨kw_665, ks_27, kw_8, kw_666, by decide +kernel⟩
theorem mz_M_leave : mv "SlottedMeshModel" ⟨"SlottedMeshModel", "leave", "(I)V"⟩ b_M_leave 3 none 1 := ⟨kw_704, ks_34, kw_8, kw_705, by decide +kernel⟩
theorem mz_M_sample : mv "SlottedMeshModel" ⟨"SlottedMeshModel", "sample", "(II)I"⟩ b_M_sample 3 (some .int) 2 := ⟨kw_660, kw_661, kw_8, kw_662, by decide +kernel⟩
theorem mz_M_control : mv "SlottedMeshModel" ⟨"SlottedMeshModel", "control", "(IIII)Z"⟩ b_M_control 5 (some .boolean) 4 := ⟨kw_668, kw_669, kw_8, kw_670, by decide +kernel⟩
theorem mz_M_within : ms ⟨"SlottedMeshModel", "within", "(II)I"⟩ b_M_within 2 (some .int) 2 := ⟨kw_715, kw_8, kw_716, by decide +kernel⟩
theorem mz_M_cache : mv "SlottedMeshModel" ⟨"SlottedMeshModel", "cache", "(III)V"⟩ b_M_cache 7 none 3 := ⟨kw_712, ks_36, kw_8, kw_713, by decide +kernel⟩
theorem mz_M_bit : ms ⟨"SlottedMeshModel", "bit", "(JI)Z"⟩ b_M_bit 3 (some .boolean) 2 := ⟨kw_684, kw_8, kw_685, by decide +kernel⟩
theorem mz_M_close : mv "SlottedMeshModel" ⟨"SlottedMeshModel", "close", "(II)Z"⟩ b_M_close 4 (some .boolean) 2 := ⟨kw_688, ks_30, kw_8, kw_689, by decide +kernel⟩
theorem mz_M_advert : mv "SlottedMeshModel" ⟨"SlottedMeshModel", "advert", "(I)V"⟩ b_M_advert 3 none 1 := ⟨kw_681, ks_29, kw_8, kw_682, by decide +kernel⟩
theorem mz_M_hears : mv "SlottedMeshModel" ⟨"SlottedMeshModel", "hears", "(III)Z"⟩ b_M_hears 4 (some .boolean) 3 := ⟨kw_700, ks_33, kw_8, kw_701, by decide +kernel⟩
theorem mz_M_up : mv "SlottedMeshModel" ⟨"SlottedMeshModel", "up", "(III)V"⟩ b_M_up 7 none 3 := ⟨kw_708, ks_35, kw_8, kw_709, by decide +kernel⟩
theorem mz_M_below : mv "SlottedMeshModel" ⟨"SlottedMeshModel", "below", "(II)Z"⟩ b_M_below 5 (some .boolean) 2 := ⟨kw_696, ks_32, kw_8, kw_697, by decide +kernel⟩
theorem mz_M_down : mv "SlottedMeshModel" ⟨"SlottedMeshModel", "down", "(III)V"⟩ b_M_down 8 none 3 := ⟨kw_692, ks_31, kw_8, kw_693, by decide +kernel⟩
theorem mz_M_slot : mv "SlottedMeshModel" ⟨"SlottedMeshModel", "slot", "()V"⟩ b_M_slot 6 none 0 := ⟨kw_677, ks_28, kw_8, kw_678, by decide +kernel⟩
theorem mz_M_run : mv "SlottedMeshModel" ⟨"SlottedMeshModel", "run", "(I)I"⟩ b_M_run 3 (some .int) 1 := ⟨kw_672, kw_673, kw_8, kw_674, by decide +kernel⟩
theorem mz_M_rank : mv "SlottedMeshModel" ⟨"SlottedMeshModel", "rank", "(I)I"⟩ b_M_rank 2 (some .int) 1 := ⟨kw_718, kw_719, kw_8, kw_720, by decide +kernel⟩
theorem mz_M_parent : mv "SlottedMeshModel" ⟨"SlottedMeshModel", "parent", "(II)I"⟩ b_M_parent 3 (some .int) 2 := ⟨kw_722, kw_723, kw_8, kw_724, by decide +kernel⟩
theorem mz_M_cell : mv "SlottedMeshModel" ⟨"SlottedMeshModel", "cell", "(II)I"⟩ b_M_cell 3 (some .int) 2 := ⟨kw_726, kw_727, kw_8, kw_728, by decide +kernel⟩
theorem mz_M_current : mv "SlottedMeshModel" ⟨"SlottedMeshModel", "current", "(I)Z"⟩ b_M_current 2 (some .boolean) 1 := ⟨kw_730, kw_731, kw_8, kw_732, by decide +kernel⟩
theorem mz_M_offset : mv "SlottedMeshModel" ⟨"SlottedMeshModel", "offset", "(I)I"⟩ b_M_offset 2 (some .int) 1 := ⟨kw_734, kw_735, kw_8, kw_736, by decide +kernel⟩
theorem mz_M_count : mv "SlottedMeshModel" ⟨"SlottedMeshModel", "count", "(II)I"⟩ b_M_count 3 (some .int) 2 := ⟨kw_738, kw_739, kw_8, kw_740, by decide +kernel⟩
theorem mz_M_cached : mv "SlottedMeshModel" ⟨"SlottedMeshModel", "cached", "(II)I"⟩ b_M_cached 3 (some .int) 2 := ⟨kw_742, kw_743, kw_8, kw_744, by decide +kernel⟩
theorem mz_M_latest : mv "SlottedMeshModel" ⟨"SlottedMeshModel", "latest", "(I)I"⟩ b_M_latest 2 (some .int) 1 := ⟨kw_746, kw_747, kw_8, kw_748, by decide +kernel⟩
theorem mz_M_actuator : mv "SlottedMeshModel" ⟨"SlottedMeshModel", "actuator", "(I)I"⟩ b_M_actuator 2 (some .int) 1 := ⟨kw_750, kw_751, kw_8, kw_752, by decide +kernel⟩
theorem mz_M_sent : mv "SlottedMeshModel" ⟨"SlottedMeshModel", "sent", "()I"⟩ b_M_sent 1 (some .int) 0 := ⟨kw_754, kw_755, kw_8, kw_756, by decide +kernel⟩
theorem mz_H_carriesFrame : mv "SlottedMesh$Channel" ⟨"SlottedMesh$Channel", "carriesFrame", "(I)Z"⟩ b_H_carriesFrame 2 (some .boolean) 1 := ⟨kw_376, kw_377, kw_6, kw_378, by decide +kernel⟩
theorem mz_H_carriesConfirmation : mv "SlottedMesh$Channel" ⟨"SlottedMesh$Channel", "carriesConfirmation", "(I)Z"⟩ b_H_carriesConfirmation 2 (some .boolean) 1 := ⟨kw_424, kw_425, kw_6, kw_426, by decide +kernel⟩
theorem mz_H_bitAt : ms ⟨"SlottedMesh$Channel", "bitAt", "(JI)Z"⟩ b_H_bitAt 3 (some .boolean) 2 := ⟨kw_380, kw_6, kw_381, by decide +kernel⟩
theorem mz_F_append : mv "SlottedMesh$FrameRow" ⟨"SlottedMesh$FrameRow", "append", "(III)Z"⟩ b_F_append 4 (some .boolean) 3 := ⟨kw_345, kw_346, kw_4, kw_347, by decide +kernel⟩
theorem mz_F_dropFirst : mv "SlottedMesh$FrameRow" ⟨"SlottedMesh$FrameRow", "dropFirst", "()V"⟩ b_F_dropFirst 2 none 0 := ⟨kw_432, kw_433, kw_4, kw_434, by decide +kernel⟩
theorem mz_F_clear : mv "SlottedMesh$FrameRow" ⟨"SlottedMesh$FrameRow", "clear", "()V"⟩ b_F_clear 1 none 0 := ⟨kw_305, kw_306, kw_4, kw_307, by decide +kernel⟩
theorem mz_O_keep : mv "SlottedMesh$Loop" ⟨"SlottedMesh$Loop", "keep", "(I)V"⟩ b_O_keep 3 none 1 := ⟨kw_411, kw_412, kw_5, kw_413, by decide +kernel⟩
theorem mz_O_nextCommand : mv "SlottedMesh$Loop" ⟨"SlottedMesh$Loop", "nextCommand", "(I)I"⟩ b_O_nextCommand 4 (some .int) 1 := ⟨kw_416, kw_417, kw_5, kw_418, by decide +kernel⟩
theorem mz_N_enterPlan : mv "SlottedMesh$Node" ⟨"SlottedMesh$Node", "enterPlan", "()V"⟩ b_N_enterPlan 1 none 0 := ⟨kw_301, kw_302, kw_3, kw_303, by decide +kernel⟩
theorem mz_N_switchOff : mv "SlottedMesh$Node" ⟨"SlottedMesh$Node", "switchOff", "()V"⟩ b_N_switchOff 2 none 0 := ⟨kw_321, kw_322, kw_3, kw_323, by decide +kernel⟩
theorem mz_N_clockIsCloseTo : mv "SlottedMesh$Node" ⟨"SlottedMesh$Node", "clockIsCloseTo", "(LSlottedMesh$Node;)Z"⟩ b_N_clockIsCloseTo 2 (some .boolean) 1 := ⟨kw_388, kw_389, kw_3, kw_390, by decide +kernel⟩
theorem mz_N_failUp : mv "SlottedMesh$Node" ⟨"SlottedMesh$Node", "failUp", "()V"⟩ b_N_failUp 1 none 0 := ⟨kw_428, kw_429, kw_3, kw_430, by decide +kernel⟩
theorem mz_N_failDown : mv "SlottedMesh$Node" ⟨"SlottedMesh$Node", "failDown", "()V"⟩ b_N_failDown 1 none 0 := ⟨kw_447, kw_448, kw_3, kw_449, by decide +kernel⟩
theorem mz_P_kindOf : ms ⟨"SlottedMesh$Plan", "kindOf", "(I)I"⟩ b_P_kindOf 1 (some .int) 1 := ⟨kw_289, kw_7, kw_290, by decide +kernel⟩
theorem mz_P_fromOf : ms ⟨"SlottedMesh$Plan", "fromOf", "(I)I"⟩ b_P_fromOf 1 (some .int) 1 := ⟨kw_295, kw_7, kw_296, by decide +kernel⟩
theorem mz_P_toOf : ms ⟨"SlottedMesh$Plan", "toOf", "(I)I"⟩ b_P_toOf 1 (some .int) 1 := ⟨kw_298, kw_7, kw_299, by decide +kernel⟩
theorem mz_P_codeAt : mv "SlottedMesh$Plan" ⟨"SlottedMesh$Plan", "codeAt", "(II)I"⟩ b_P_codeAt 3 (some .int) 2 := ⟨kw_269, kw_270, kw_7, kw_271, by decide +kernel⟩
theorem mz_P_make : mv "SlottedMesh$Plan" ⟨"SlottedMesh$Plan", "make", "([LSlottedMesh$Node;)Z"⟩ b_P_make 2 (some .boolean) 1 := ⟨kw_242, kw_243, kw_7, kw_244, by decide +kernel⟩
theorem mz_P_leadsUp : mv "SlottedMesh$Plan" ⟨"SlottedMesh$Plan", "leadsUp", "(II)Z"⟩ b_P_leadsUp 5 (some .boolean) 2 := ⟨kw_440, kw_441, kw_7, kw_442, by decide +kernel⟩
theorem mz_P_findRanks : mv "SlottedMesh$Plan" ⟨"SlottedMesh$Plan", "findRanks", "([LSlottedMesh$Node;)Z"⟩ b_P_findRanks 5 (some .boolean) 1 := ⟨kw_250, ks_1, kw_7, kw_251, by decide +kernel⟩
theorem mz_P_findParents : mv "SlottedMesh$Plan" ⟨"SlottedMesh$Plan", "findParents", "([LSlottedMesh$Node;)V"⟩ b_P_findParents 3 none 1 := ⟨kw_258, ks_3, kw_7, kw_259, by decide +kernel⟩
theorem mz_P_nextNearOfRank : mv "SlottedMesh$Plan" ⟨"SlottedMesh$Plan", "nextNearOfRank", "(LSlottedMesh$Node;II)I"⟩ b_P_nextNearOfRank 5 (some .int) 3 := ⟨kw_254, ks_2, kw_7, kw_255, by decide +kernel⟩
theorem mz_P_placeAdverts : mv "SlottedMesh$Plan" ⟨"SlottedMesh$Plan", "placeAdverts", "()Z"⟩ b_P_placeAdverts 2 (some .boolean) 0 := ⟨kw_262, ks_4, kw_7, kw_263, by decide +kernel⟩
theorem mz_P_placeAdvert : mv "SlottedMesh$Plan" ⟨"SlottedMesh$Plan", "placeAdvert", "(I)Z"⟩ b_P_placeAdvert 3 (some .boolean) 1 := ⟨kw_266, ks_5, kw_7, kw_267, by decide +kernel⟩
theorem mz_P_fillSlot : mv "SlottedMesh$Plan" ⟨"SlottedMesh$Plan", "fillSlot", "(II)V"⟩ b_P_fillSlot 4 none 2 := ⟨kw_274, ks_6, kw_7, kw_275, by decide +kernel⟩
theorem mz_P_placeLinks : mv "SlottedMesh$Plan" ⟨"SlottedMesh$Plan", "placeLinks", "()Z"⟩ b_P_placeLinks 6 (some .boolean) 0 := ⟨kw_278, ks_7, kw_7, kw_279, by decide +kernel⟩
theorem mz_P_placeLink : mv "SlottedMesh$Plan" ⟨"SlottedMesh$Plan", "placeLink", "(III)Z"⟩ b_P_placeLink 6 (some .boolean) 3 := ⟨kw_282, ks_8, kw_7, kw_283, by decide +kernel⟩
theorem mz_P_freeChannel : mv "SlottedMesh$Plan" ⟨"SlottedMesh$Plan", "freeChannel", "(III)I"⟩ b_P_freeChannel 6 (some .int) 3 := ⟨kw_286, ks_9, kw_7, kw_287, by decide +kernel⟩
theorem mz_P_touches : ms ⟨"SlottedMesh$Plan", "touches", "(II)Z"⟩ b_P_touches 2 (some .boolean) 2 := ⟨kw_292, kw_7, kw_293, by decide +kernel⟩
theorem mz_L_cell : ms ⟨"SlottedMeshLaw", "cell", "([II)I"⟩ b_L_cell 2 (some .int) 2 := ⟨kw_492, kw_0, kw_493, by decide +kernel⟩
theorem mz_T_abs : ms ⟨"java/lang/Math", "abs", "(I)I"⟩ b_T_abs 1 (some .int) 1 := ⟨kw_392, kw_2, kw_393, by decide +kernel⟩
theorem mz_T_floorDiv : ms ⟨"java/lang/Math", "floorDiv", "(II)I"⟩ b_T_floorDiv 3 (some .int) 2 := ⟨kw_421, kw_2, kw_422, by decide +kernel⟩
theorem mz_T_floorMod : ms ⟨"java/lang/Math", "floorMod", "(II)I"⟩ b_T_floorMod 3 (some .int) 2 := ⟨kw_361, kw_2, kw_362, by decide +kernel⟩
theorem mz_T_max : ms ⟨"java/lang/Math", "max", "(II)I"⟩ b_T_max 2 (some .int) 2 := ⟨kw_25, kw_2, kw_26, by decide +kernel⟩
theorem mz_T_min : ms ⟨"java/lang/Math", "min", "(II)I"⟩ b_T_min 2 (some .int) 2 := ⟨kw_22, kw_2, kw_23, by decide +kernel⟩
theorem mz_A_fill : ms ⟨"java/util/Arrays", "fill", "([II)V"⟩ b_A_fill 4 none 2 := ⟨kw_246, kw_9, kw_247, by decide +kernel⟩
theorem ii_1 (a : Nat) : nI a + Int32.ofInt 1 = nI (a + 1) := nI_1 a
theorem ii_m1 {a : Nat} (h : 0 < a) : nI a + Int32.ofInt (-1) = nI (a - 1) := sb_m1 h
end
section
/-! FrameRow, Math, Arrays, Channel, Loop: contracts (by program, wip/whole/gen/c1.py) -/
/-- k rounds of a loop -/
def fo {α : Type} (f : Nat → α → α) (u : α) : Nat → α
  | 0 => u
  | k + 1 => f k (fo f u k)
/-- the first of j numbers from k on that p holds of -/
def fnd (p : Nat → Bool) : Nat → Nat → Option Nat
  | 0, _ => none
  | j + 1, k => if p k then some k else fnd p j (k + 1)
/-- an answer or -1 -/
def io (o : Option Nat) : Int32 := match o with
  | some k => nI k
  | none => -1
theorem nx_xor (a b : Nat) : nI a ^^^ nI b = nI (a ^^^ b) := by
  apply Int32.toBitVec_inj.1
  show BitVec.ofNat 32 a ^^^ BitVec.ofNat 32 b = BitVec.ofNat 32 (a ^^^ b)
  apply BitVec.eq_of_getLsbD_eq
  intro i hi
  simp [hi]
/-- append: the row r takes a frame if it has fewer than four -/
def kc_append (u : UU) (r e : Nat) (x v : Int32) : UU := if u.1 8 r 3 < 4 then un (ui (ui (un u 12 r (u.1 8 r 3) e) 13 r (u.1 8 r 3) x) 14 r (u.1 8 r 3) v) 8 r 3 (u.1 8 r 3 + 1) else u
/-- one step of the shift in dropFirst -/
def kc_sh (r : Nat) (k : Nat) (w : UU) : UU := ui (ui (un w 12 r k (w.1 12 r (k + 1))) 13 r k (w.2.1 13 r (k + 1))) 14 r k (w.2.1 14 r (k + 1))
def kc_drop (u : UU) (r : Nat) : UU := if u.1 8 r 3 = 0 then u else fo (kc_sh r) (un u 8 r 3 (u.1 8 r 3 - 1)) (u.1 8 r 3 - 1)
theorem kc_sh_size (r : Nat) (u : UU) (k : Nat) : (fo (kc_sh r) u k).1 8 r 3 = u.1 8 r 3 := by
  induction k with
  | zero => rfl
  | succ k ih =>
    show (kc_sh r k (fo (kc_sh r) u k)).1 8 r 3 = _
    rw [← ih]
    simp [kc_sh, ui_1, un_1]
set_option maxRecDepth 100000 in
set_option maxHeartbeats 4000000 in
theorem c_F_append (l : Launch) (Y : YY) (n s c : Nat) (hV : pv_ok (vC Y n s c)) (u : UU) (r e : Nat) (x v : Int32) (hr : r < 2 * n) (hs : u.1 8 r 3 ≤ 4) : Ct l (vC Y n s c) ⟨"SlottedMesh$FrameRow", "append", "(III)Z"⟩ (wz ⟨"SlottedMesh$FrameRow", "append", "(III)Z"⟩ b_F_append 4 (some .boolean)) (rd 0) [.ref (pv_ad (vC Y n s c) 8 r), .int (nI e), .int x, .int v] u (some (.int (nI (if u.1 8 r 3 < 4 then 1 else 0)))) (kc_append u r e x v) := by
  refine ct_mk hV (by decide +kernel) (Nat.le_of_ble_eq_true rfl) (fun X hX => ?_)
  have hX : ox X (vC Y n s c) (rd 0) b_F_append 4 "SlottedMesh$FrameRow" gz (some .boolean) := hX
  show ow X (vC Y n s c) (some (.int (nI (if u.1 8 r 3 < 4 then 1 else 0)))) (kc_append u r e x v) u [(0, .ref (pv_ad (vC Y n s c) 8 r)), (1, .int (nI e)), (2, .int x), (3, .int v)] 0 []
  refine ow_aload_n (pc := 0) hX d_F_append_0 rfl ?_
  refine ow_gN (pc := 1) hX (kd_F Y n s c) 3 d_F_append_1 kw_48 rfl (by show _ < 2 * n; first | assumption | omega) ?_
  refine ow_iconst (pc := 4) (v := nI 4) hX d_F_append_4 (by decide) ?_
  refine ow_nc_lt (pc := 5) (tgt := 10) hX d_F_append_5 (by decide) (by first | assumption | omega) (by first | assumption | omega) (fun h5 => ?_) (fun h5 => ?_)
  · skip
    have hlt : u.1 8 r 3 < 4 := by omega
    refine ow_aload_n (pc := 10) hX d_F_append_10 rfl ?_
    refine ow_gR (pc := 11) hX (kd_F Y n s c) 0 d_F_append_11 kw_42 rfl (by show _ < 2 * n; first | assumption | omega) ?_
    refine ow_aload_n (pc := 14) hX d_F_append_14 rfl ?_
    refine ow_gN (pc := 15) hX (kd_F Y n s c) 3 d_F_append_15 kw_48 rfl (by show _ < 2 * n; first | assumption | omega) ?_
    refine ow_iload_n (pc := 18) hX d_F_append_18 rfl ?_
    refine ow_sN (pc := 19) hX rfl d_F_append_19 (by show _ < 2 * n; first | assumption | omega) (by show _ < 4; first | assumption | omega) ?_
    refine ow_aload_n (pc := 20) hX d_F_append_20 rfl ?_
    refine ow_gR (pc := 21) hX (kd_F Y n s c) 1 d_F_append_21 kw_44 rfl (by show _ < 2 * n; first | assumption | omega) ?_
    refine ow_aload_n (pc := 24) hX d_F_append_24 rfl ?_
    refine ow_gN (pc := 25) hX (kd_F Y n s c) 3 d_F_append_25 kw_48 rfl (by show _ < 2 * n; first | assumption | omega) ?_
    try simp only [un_1, un_2, ui_1, ui_2, ui_3, ul_1, ul_2, ul_3, ul_4, ur_1, ur_2, ur_3, ur_4, Nat.reduceEqDiff, false_and, and_false, true_and, and_true, and_self, reduceIte]
    refine ow_iload_n (pc := 28) hX d_F_append_28 rfl ?_
    refine ow_sI (pc := 29) hX rfl d_F_append_29 (by show _ < 2 * n; first | assumption | omega) (by show _ < 4; first | assumption | omega) ?_
    refine ow_aload_n (pc := 30) hX d_F_append_30 rfl ?_
    refine ow_gR (pc := 31) hX (kd_F Y n s c) 2 d_F_append_31 kw_46 rfl (by show _ < 2 * n; first | assumption | omega) ?_
    refine ow_aload_n (pc := 34) hX d_F_append_34 rfl ?_
    refine ow_gN (pc := 35) hX (kd_F Y n s c) 3 d_F_append_35 kw_48 rfl (by show _ < 2 * n; first | assumption | omega) ?_
    try simp only [un_1, un_2, ui_1, ui_2, ui_3, ul_1, ul_2, ul_3, ul_4, ur_1, ur_2, ur_3, ur_4, Nat.reduceEqDiff, false_and, and_false, true_and, and_true, and_self, reduceIte]
    refine ow_iload_n (pc := 38) hX d_F_append_38 rfl ?_
    refine ow_sI (pc := 39) hX rfl d_F_append_39 (by show _ < 2 * n; first | assumption | omega) (by show _ < 4; first | assumption | omega) ?_
    refine ow_aload_n (pc := 40) hX d_F_append_40 rfl ?_
    refine ow_dup (pc := 41) hX d_F_append_41 rfl ?_
    refine ow_gN (pc := 42) hX (kd_F Y n s c) 3 d_F_append_42 kw_48 rfl (by show _ < 2 * n; first | assumption | omega) ?_
    try simp only [un_1, un_2, ui_1, ui_2, ui_3, ul_1, ul_2, ul_3, ul_4, ur_1, ur_2, ur_3, ur_4, Nat.reduceEqDiff, false_and, and_false, true_and, and_true, and_self, reduceIte]
    refine ow_iconst (pc := 45) (v := nI 1) hX d_F_append_45 (by decide) ?_
    refine ow_addn (pc := 46) hX d_F_append_46 ?_
    refine ow_pN (pc := 47) hX (kd_F Y n s c) 3 d_F_append_47 kw_48 rfl (by show _ < 2 * n; first | assumption | omega) rfl (by decide +kernel) ?_
    refine ow_iconst (pc := 50) (v := nI 1) hX d_F_append_50 (by decide) ?_
    exact ow_zret (pc := 51) hX d_F_append_51 (nb_01 (by first | decide | assumption | omega | exact kbit_le _ _)) (by first | rfl | ((try simp only [kc_append]); (repeat' split) <;> first | rfl | omega | (simp_all; done) | (simp_all; omega))) (by first | rfl | ((try simp only [kc_append]); (repeat' split) <;> first | rfl | omega | (simp_all; done) | (simp_all; omega)))
  · skip
    refine ow_iconst (pc := 8) (v := nI 0) hX d_F_append_8 (by decide) ?_
    exact ow_zret (pc := 9) hX d_F_append_9 (nb_01 (by first | decide | assumption | omega | exact kbit_le _ _)) (by first | rfl | ((try simp only [kc_append]); (repeat' split) <;> first | rfl | omega | (simp_all; done) | (simp_all; omega))) (by first | rfl | ((try simp only [kc_append]); (repeat' split) <;> first | rfl | omega | (simp_all; done) | (simp_all; omega)))
set_option maxRecDepth 100000 in
set_option maxHeartbeats 4000000 in
theorem w_F_dropFirst {X : OX} (Y : YY) (n s c : Nat) (hX : ox X (vC Y n s c) (rd 0) b_F_dropFirst 2 "SlottedMesh$FrameRow" gz none) (r : Nat) (hr : r < 2 * n) (u1 : UU) (m : Nat) (hm : u1.1 8 r 3 = m) (hm3 : m ≤ 3) : ∀ j k, k + j = m → ow X (vC Y n s c) none (fo (kc_sh r) u1 m) (fo (kc_sh r) u1 k) [(0, .ref (pv_ad (vC Y n s c) 8 r)), (1, .int (nI k))] 20 [] := by
  intro j
  induction j with
  | zero =>
    intro k hk
    refine ow_iload_n (pc := 20) hX d_F_dropFirst_20 rfl ?_
    refine ow_aload_n (pc := 21) hX d_F_dropFirst_21 rfl ?_
    refine ow_gN (pc := 22) hX (kd_F Y n s c) 3 d_F_dropFirst_22 kw_48 rfl (by show _ < 2 * n; first | assumption | omega) ?_
    rw [kc_sh_size, hm]
    refine ow_nc_ge (pc := 25) (tgt := 76) hX d_F_dropFirst_25 (by decide) (by first | assumption | omega) (by first | assumption | omega) (fun h25 => ?_) (fun h25 => ?_)
    · skip
      exact ow_vret (pc := 76) hX d_F_dropFirst_76 rfl (by rw [show m = k by omega])
    · skip
      exact absurd h25 (by omega)
  | succ j ih =>
    intro k hk
    refine ow_iload_n (pc := 20) hX d_F_dropFirst_20 rfl ?_
    refine ow_aload_n (pc := 21) hX d_F_dropFirst_21 rfl ?_
    refine ow_gN (pc := 22) hX (kd_F Y n s c) 3 d_F_dropFirst_22 kw_48 rfl (by show _ < 2 * n; first | assumption | omega) ?_
    rw [kc_sh_size, hm]
    refine ow_nc_ge (pc := 25) (tgt := 76) hX d_F_dropFirst_25 (by decide) (by first | assumption | omega) (by first | assumption | omega) (fun h25 => ?_) (fun h25 => ?_)
    · skip
      exact absurd h25 (by omega)
    · skip
      refine ow_aload_n (pc := 28) hX d_F_dropFirst_28 rfl ?_
      refine ow_gR (pc := 29) hX (kd_F Y n s c) 0 d_F_dropFirst_29 kw_42 rfl (by show _ < 2 * n; first | assumption | omega) ?_
      refine ow_iload_n (pc := 32) hX d_F_dropFirst_32 rfl ?_
      refine ow_aload_n (pc := 33) hX d_F_dropFirst_33 rfl ?_
      refine ow_gR (pc := 34) hX (kd_F Y n s c) 0 d_F_dropFirst_34 kw_42 rfl (by show _ < 2 * n; first | assumption | omega) ?_
      refine ow_iload_n (pc := 37) hX d_F_dropFirst_37 rfl ?_
      refine ow_iconst (pc := 38) (v := nI 1) hX d_F_dropFirst_38 (by decide) ?_
      refine ow_addn (pc := 39) hX d_F_dropFirst_39 ?_
      refine ow_aN (pc := 40) hX rfl d_F_dropFirst_40 (by show _ < 2 * n; first | assumption | omega) (by show _ < 4; first | assumption | omega) ?_
      refine ow_sN (pc := 41) hX rfl d_F_dropFirst_41 (by show _ < 2 * n; first | assumption | omega) (by show _ < 4; first | assumption | omega) ?_
      refine ow_aload_n (pc := 42) hX d_F_dropFirst_42 rfl ?_
      refine ow_gR (pc := 43) hX (kd_F Y n s c) 1 d_F_dropFirst_43 kw_44 rfl (by show _ < 2 * n; first | assumption | omega) ?_
      refine ow_iload_n (pc := 46) hX d_F_dropFirst_46 rfl ?_
      refine ow_aload_n (pc := 47) hX d_F_dropFirst_47 rfl ?_
      refine ow_gR (pc := 48) hX (kd_F Y n s c) 1 d_F_dropFirst_48 kw_44 rfl (by show _ < 2 * n; first | assumption | omega) ?_
      refine ow_iload_n (pc := 51) hX d_F_dropFirst_51 rfl ?_
      refine ow_iconst (pc := 52) (v := nI 1) hX d_F_dropFirst_52 (by decide) ?_
      refine ow_addn (pc := 53) hX d_F_dropFirst_53 ?_
      refine ow_aI (pc := 54) hX rfl d_F_dropFirst_54 (by show _ < 2 * n; first | assumption | omega) (by show _ < 4; first | assumption | omega) ?_
      try simp only [un_1, un_2, ui_1, ui_2, ui_3, ul_1, ul_2, ul_3, ul_4, ur_1, ur_2, ur_3, ur_4, Nat.reduceEqDiff, false_and, and_false, true_and, and_true, and_self, reduceIte]
      refine ow_sI (pc := 55) hX rfl d_F_dropFirst_55 (by show _ < 2 * n; first | assumption | omega) (by show _ < 4; first | assumption | omega) ?_
      refine ow_aload_n (pc := 56) hX d_F_dropFirst_56 rfl ?_
      refine ow_gR (pc := 57) hX (kd_F Y n s c) 2 d_F_dropFirst_57 kw_46 rfl (by show _ < 2 * n; first | assumption | omega) ?_
      refine ow_iload_n (pc := 60) hX d_F_dropFirst_60 rfl ?_
      refine ow_aload_n (pc := 61) hX d_F_dropFirst_61 rfl ?_
      refine ow_gR (pc := 62) hX (kd_F Y n s c) 2 d_F_dropFirst_62 kw_46 rfl (by show _ < 2 * n; first | assumption | omega) ?_
      refine ow_iload_n (pc := 65) hX d_F_dropFirst_65 rfl ?_
      refine ow_iconst (pc := 66) (v := nI 1) hX d_F_dropFirst_66 (by decide) ?_
      refine ow_addn (pc := 67) hX d_F_dropFirst_67 ?_
      refine ow_aI (pc := 68) hX rfl d_F_dropFirst_68 (by show _ < 2 * n; first | assumption | omega) (by show _ < 4; first | assumption | omega) ?_
      try simp only [un_1, un_2, ui_1, ui_2, ui_3, ul_1, ul_2, ul_3, ul_4, ur_1, ur_2, ur_3, ur_4, Nat.reduceEqDiff, false_and, and_false, true_and, and_true, and_self, reduceIte]
      refine ow_sI (pc := 69) hX rfl d_F_dropFirst_69 (by show _ < 2 * n; first | assumption | omega) (by show _ < 4; first | assumption | omega) ?_
      refine ow_iinc (pc := 70) (l2 := [(0, _), (1, _)]) hX d_F_dropFirst_70 rfl (ii_1 _) (by decide) rfl rfl ?_
      refine ow_goto (pc := 73) (tgt := 20) hX d_F_dropFirst_73 (by decide) ?_
      exact ih (k + 1) (by omega)
set_option maxRecDepth 100000 in
set_option maxHeartbeats 4000000 in
theorem c_F_dropFirst (l : Launch) (Y : YY) (n s c : Nat) (hV : pv_ok (vC Y n s c)) (u : UU) (r : Nat) (hr : r < 2 * n) (hs : u.1 8 r 3 ≤ 4) : Ct l (vC Y n s c) ⟨"SlottedMesh$FrameRow", "dropFirst", "()V"⟩ (wz ⟨"SlottedMesh$FrameRow", "dropFirst", "()V"⟩ b_F_dropFirst 2 none) (rd 0) [.ref (pv_ad (vC Y n s c) 8 r)] u none (kc_drop u r) := by
  refine ct_mk hV (by decide +kernel) (Nat.le_of_ble_eq_true rfl) (fun X hX => ?_)
  have hX : ox X (vC Y n s c) (rd 0) b_F_dropFirst 2 "SlottedMesh$FrameRow" gz none := hX
  show ow X (vC Y n s c) none (kc_drop u r) u [(0, .ref (pv_ad (vC Y n s c) 8 r))] 0 []
  refine ow_aload_n (pc := 0) hX d_F_dropFirst_0 rfl ?_
  refine ow_gN (pc := 1) hX (kd_F Y n s c) 3 d_F_dropFirst_1 kw_48 rfl (by show _ < 2 * n; first | assumption | omega) ?_
  refine ow_nz_ne (pc := 4) (tgt := 8) hX d_F_dropFirst_4 (by decide) (by first | assumption | omega) (fun h4 => ?_) (fun h4 => ?_)
  · skip
    refine ow_aload_n (pc := 8) hX d_F_dropFirst_8 rfl ?_
    refine ow_dup (pc := 9) hX d_F_dropFirst_9 rfl ?_
    refine ow_gN (pc := 10) hX (kd_F Y n s c) 3 d_F_dropFirst_10 kw_48 rfl (by show _ < 2 * n; first | assumption | omega) ?_
    refine ow_iconst (pc := 13) (v := nI 1) hX d_F_dropFirst_13 (by decide) ?_
    refine ow_subn (pc := 14) hX d_F_dropFirst_14 (by first | assumption | omega) ?_
    refine ow_pN (pc := 15) hX (kd_F Y n s c) 3 d_F_dropFirst_15 kw_48 rfl (by show _ < 2 * n; first | assumption | omega) rfl (by decide +kernel) ?_
    refine ow_iconst (pc := 18) (v := nI 0) hX d_F_dropFirst_18 (by decide) ?_
    refine ow_istore_n (pc := 19) (l2 := [(0, _), (1, _)]) hX d_F_dropFirst_19 (by decide) rfl rfl ?_
    have e : kc_drop u r = fo (kc_sh r) (un u 8 r 3 (u.1 8 r 3 - 1)) (u.1 8 r 3 - 1) := by unfold kc_drop; rw [if_neg h4]
    rw [e]
    exact w_F_dropFirst Y n s c hX r hr _ _ (by simp [un_1]) (by omega) (u.1 8 r 3 - 1) 0 (by omega)
  · skip
    exact ow_vret (pc := 7) hX d_F_dropFirst_7 rfl (by first | rfl | ((try simp only [kc_drop]); (repeat' split) <;> first | rfl | omega | (simp_all; done) | (simp_all; omega)))
set_option maxRecDepth 100000 in
set_option maxHeartbeats 4000000 in
theorem c_F_clear (l : Launch) (Y : YY) (n s c : Nat) (hV : pv_ok (vC Y n s c)) (u : UU) (r : Nat) (hr : r < 2 * n) : Ct l (vC Y n s c) ⟨"SlottedMesh$FrameRow", "clear", "()V"⟩ (wz ⟨"SlottedMesh$FrameRow", "clear", "()V"⟩ b_F_clear 1 none) (rd 0) [.ref (pv_ad (vC Y n s c) 8 r)] u none (un u 8 r 3 0) := by
  refine ct_mk hV (by decide +kernel) (Nat.le_of_ble_eq_true rfl) (fun X hX => ?_)
  have hX : ox X (vC Y n s c) (rd 0) b_F_clear 1 "SlottedMesh$FrameRow" gz none := hX
  show ow X (vC Y n s c) none (un u 8 r 3 0) u [(0, .ref (pv_ad (vC Y n s c) 8 r))] 0 []
  refine ow_aload_n (pc := 0) hX d_F_clear_0 rfl ?_
  refine ow_iconst (pc := 1) (v := nI 0) hX d_F_clear_1 (by decide) ?_
  refine ow_pN (pc := 2) hX (kd_F Y n s c) 3 d_F_clear_2 kw_48 rfl (by show _ < 2 * n; first | assumption | omega) rfl (by decide +kernel) ?_
  exact ow_vret (pc := 5) hX d_F_clear_5 rfl (by rfl)
/-- floorDiv by 16, as the JDK has it -/
def kfd (x : Int32) : Int32 := if 0 ≤ x ^^^ nI 16 then x / nI 16 else if x / nI 16 * nI 16 = x then x / nI 16 else x / nI 16 - nI 1
/-- nearest -/
def knear (v lo hi : Int32) : Int32 := if lo < (if v < hi then v else hi) then (if v < hi then v else hi) else lo
set_option maxRecDepth 100000 in
set_option maxHeartbeats 4000000 in
theorem c_T_floorMod (l : Launch) (Y : YY) (n s c : Nat) (hV : pv_ok (vC Y n s c)) (u : UU) (a b : Nat) (ha : a < 2 ^ 31) (h0 : 0 < b) (hb : b < 2 ^ 31) : Ct l (vC Y n s c) ⟨"java/lang/Math", "floorMod", "(II)I"⟩ (wz ⟨"java/lang/Math", "floorMod", "(II)I"⟩ b_T_floorMod 3 (some .int)) (rd 0) [.int (nI a), .int (nI b)] u (some (.int (nI (a % b)))) (u) := by
  refine ct_mk hV (by decide +kernel) (Nat.le_of_ble_eq_true rfl) (fun X hX => ?_)
  have hX : ox X (vC Y n s c) (rd 0) b_T_floorMod 3 "java/lang/Math" gz (some .int) := hX
  show ow X (vC Y n s c) (some (.int (nI (a % b)))) (u) u [(0, .int (nI a)), (1, .int (nI b))] 0 []
  have hx : a ^^^ b < 2 ^ 31 := Nat.xor_lt_two_pow ha hb
  refine ow_iload_n (pc := 0) hX d_T_floorMod_0 rfl ?_
  refine ow_iload_n (pc := 1) hX d_T_floorMod_1 rfl ?_
  refine ow_remn (pc := 2) hX d_T_floorMod_2 (by first | assumption | omega) (by first | assumption | omega) (by first | assumption | omega) ?_
  refine ow_istore_n (pc := 3) (l2 := [(0, _), (1, _), (2, _)]) hX d_T_floorMod_3 (by decide) rfl rfl ?_
  refine ow_iload_n (pc := 4) hX d_T_floorMod_4 rfl ?_
  refine ow_iload_n (pc := 5) hX d_T_floorMod_5 rfl ?_
  refine ow_ixor (pc := 6) hX d_T_floorMod_6 ?_
  rw [nx_xor]
  refine ow_nz_ge (pc := 7) (tgt := 18) hX d_T_floorMod_7 (by decide) (by first | assumption | omega) ?_
  refine ow_iload_n (pc := 18) hX d_T_floorMod_18 rfl ?_
  exact ow_iret (pc := 19) hX d_T_floorMod_19 (by rfl) (by rfl)
set_option maxRecDepth 100000 in
set_option maxHeartbeats 4000000 in
theorem c_T_floorDiv (l : Launch) (Y : YY) (n s c : Nat) (hV : pv_ok (vC Y n s c)) (u : UU) (x : Int32) : Ct l (vC Y n s c) ⟨"java/lang/Math", "floorDiv", "(II)I"⟩ (wz ⟨"java/lang/Math", "floorDiv", "(II)I"⟩ b_T_floorDiv 3 (some .int)) (rd 0) [.int x, .int (nI 16)] u (some (.int (kfd x))) (u) := by
  refine ct_mk hV (by decide +kernel) (Nat.le_of_ble_eq_true rfl) (fun X hX => ?_)
  have hX : ox X (vC Y n s c) (rd 0) b_T_floorDiv 3 "java/lang/Math" gz (some .int) := hX
  show ow X (vC Y n s c) (some (.int (kfd x))) (u) u [(0, .int x), (1, .int (nI 16))] 0 []
  refine ow_iload_n (pc := 0) hX d_T_floorDiv_0 rfl ?_
  refine ow_iload_n (pc := 1) hX d_T_floorDiv_1 rfl ?_
  refine ow_idiv (pc := 2) hX d_T_floorDiv_2 (by first | assumption | omega | decide) ?_
  refine ow_istore_n (pc := 3) (l2 := [(0, _), (1, _), (2, _)]) hX d_T_floorDiv_3 (by decide) rfl rfl ?_
  refine ow_iload_n (pc := 4) hX d_T_floorDiv_4 rfl ?_
  refine ow_iload_n (pc := 5) hX d_T_floorDiv_5 rfl ?_
  refine ow_ixor (pc := 6) hX d_T_floorDiv_6 ?_
  refine ow_if_ge (pc := 7) (tgt := 21) hX d_T_floorDiv_7 (by decide) (fun h7 => ?_) (fun h7 => ?_)
  · skip
    refine ow_iload_n (pc := 21) hX d_T_floorDiv_21 rfl ?_
    exact ow_iret (pc := 22) hX d_T_floorDiv_22 (by first | rfl | ((try simp only [kfd]); (repeat' split) <;> first | rfl | omega | (simp_all; done) | (simp_all; omega))) (by first | rfl | ((try simp only [kfd]); (repeat' split) <;> first | rfl | omega | (simp_all; done) | (simp_all; omega)))
  · skip
    refine ow_iload_n (pc := 10) hX d_T_floorDiv_10 rfl ?_
    refine ow_iload_n (pc := 11) hX d_T_floorDiv_11 rfl ?_
    refine ow_imul (pc := 12) hX d_T_floorDiv_12 ?_
    refine ow_iload_n (pc := 13) hX d_T_floorDiv_13 rfl ?_
    refine ow_ic_eq (pc := 14) (tgt := 21) hX d_T_floorDiv_14 (by decide) (fun h14 => ?_) (fun h14 => ?_)
    · skip
      refine ow_iload_n (pc := 21) hX d_T_floorDiv_21 rfl ?_
      exact ow_iret (pc := 22) hX d_T_floorDiv_22 (by first | rfl | ((try simp only [kfd]); (repeat' split) <;> first | rfl | omega | (simp_all; done) | (simp_all; omega))) (by first | rfl | ((try simp only [kfd]); (repeat' split) <;> first | rfl | omega | (simp_all; done) | (simp_all; omega)))
    · skip
      refine ow_iload_n (pc := 17) hX d_T_floorDiv_17 rfl ?_
      refine ow_iconst (pc := 18) (v := nI 1) hX d_T_floorDiv_18 (by decide) ?_
      refine ow_isub (pc := 19) hX d_T_floorDiv_19 ?_
      exact ow_iret (pc := 20) hX d_T_floorDiv_20 (by first | rfl | ((try simp only [kfd]); (repeat' split) <;> first | rfl | omega | (simp_all; done) | (simp_all; omega))) (by first | rfl | ((try simp only [kfd]); (repeat' split) <;> first | rfl | omega | (simp_all; done) | (simp_all; omega)))
set_option maxRecDepth 100000 in
set_option maxHeartbeats 4000000 in
theorem c_S_nearest (l : Launch) (Y : YY) (n s c : Nat) (hV : pv_ok (vC Y n s c)) (u : UU) (v lo hi : Int32) : Ct l (vC Y n s c) ⟨"SlottedMesh", "nearest", "(III)I"⟩ (wz ⟨"SlottedMesh", "nearest", "(III)I"⟩ b_S_nearest 3 (some .int)) (rd 1) [.int v, .int lo, .int hi] u (some (.int (knear v lo hi))) (u) := by
  refine ct_mk hV (by decide +kernel) (Nat.le_of_ble_eq_true rfl) (fun X hX => ?_)
  have hX : ox X (vC Y n s c) (rd 1) b_S_nearest 3 "SlottedMesh" gz (some .int) := hX
  show ow X (vC Y n s c) (some (.int (knear v lo hi))) (u) u [(0, .int v), (1, .int lo), (2, .int hi)] 0 []
  refine ow_iload_n (pc := 0) hX d_S_nearest_0 rfl ?_
  refine ow_iload_n (pc := 1) hX d_S_nearest_1 rfl ?_
  refine ow_iload_n (pc := 2) hX d_S_nearest_2 rfl ?_
  refine ow_min (pc := 3) hX d_S_nearest_3 kw_21 kw_22 kw_2 kw_23 (by decide) (Nat.le_of_ble_eq_true rfl) ?_
  refine ow_max (pc := 6) hX d_S_nearest_6 kw_24 kw_25 kw_2 kw_26 (by decide) (Nat.le_of_ble_eq_true rfl) ?_
  exact ow_iret (pc := 9) hX d_S_nearest_9 (by rfl) (by rfl)
set_option maxRecDepth 100000 in
set_option maxHeartbeats 4000000 in
theorem w_A_fill_i {X : OX} (Y : YY) (n s c : Nat) (hX : ox X (vC Y n s c) (rd 0) b_A_fill 4 "java/util/Arrays" gz none) (kk i z : Nat) (v : Int32) (hs : shC s c kk = .inr (1, .int, z)) (hi : i < bdC n c kk) (hl : lnC n s c kk < 2 ^ 31) (u : UU) : ∀ j k, k + j = lnC n s c kk → ow X (vC Y n s c) none (fo (fun j w => ui w kk i j v) u (lnC n s c kk)) (fo (fun j w => ui w kk i j v) u k) [(0, .ref (pv_ad (vC Y n s c) kk i)), (1, .int v), (2, .int (nI k)), (3, .int (nI (lnC n s c kk)))] 5 [] := by
  intro j
  induction j with
  | zero =>
    intro k hk
    refine ow_iload_n (pc := 5) hX d_A_fill_5 rfl ?_
    refine ow_iload_n (pc := 6) hX d_A_fill_6 rfl ?_
    refine ow_nc_ge (pc := 7) (tgt := 20) hX d_A_fill_7 (by decide) (by first | assumption | omega) (by first | assumption | omega) (fun h7 => ?_) (fun h7 => ?_)
    · skip
      exact ow_vret (pc := 20) hX d_A_fill_20 rfl (by rw [show lnC n s c kk = k by omega])
    · skip
      exact absurd h7 (by omega)
  | succ j ih =>
    intro k hk
    refine ow_iload_n (pc := 5) hX d_A_fill_5 rfl ?_
    refine ow_iload_n (pc := 6) hX d_A_fill_6 rfl ?_
    refine ow_nc_ge (pc := 7) (tgt := 20) hX d_A_fill_7 (by decide) (by first | assumption | omega) (by first | assumption | omega) (fun h7 => ?_) (fun h7 => ?_)
    · skip
      exact absurd h7 (by omega)
    · skip
      refine ow_aload_n (pc := 10) hX d_A_fill_10 rfl ?_
      refine ow_iload_n (pc := 11) hX d_A_fill_11 rfl ?_
      refine ow_iload_n (pc := 12) hX d_A_fill_12 rfl ?_
      refine ow_sI (pc := 13) hX hs d_A_fill_13 (by show _ < bdC n c kk; first | assumption | omega) (by show _ < lnC n s c kk; first | assumption | omega) ?_
      refine ow_iinc (pc := 14) (l2 := [(0, _), (1, _), (2, _), (3, _)]) hX d_A_fill_14 rfl (ii_1 _) (by decide) rfl rfl ?_
      refine ow_goto (pc := 17) (tgt := 5) hX d_A_fill_17 (by decide) ?_
      exact ih (k + 1) (by omega)
set_option maxRecDepth 100000 in
set_option maxHeartbeats 4000000 in
theorem c_A_fill_i (l : Launch) (Y : YY) (n s c : Nat) (hV : pv_ok (vC Y n s c)) (u : UU) (kk i z : Nat) (v : Int32) (hs : shC s c kk = .inr (1, .int, z)) (hi : i < bdC n c kk) (hl : lnC n s c kk < 2 ^ 31) : Ct l (vC Y n s c) ⟨"java/util/Arrays", "fill", "([II)V"⟩ (wz ⟨"java/util/Arrays", "fill", "([II)V"⟩ b_A_fill 4 none) (rd 0) [.ref (pv_ad (vC Y n s c) kk i), .int v] u none (fo (fun j w => ui w kk i j v) u (lnC n s c kk)) := by
  refine ct_mk hV (by decide +kernel) (Nat.le_of_ble_eq_true rfl) (fun X hX => ?_)
  have hX : ox X (vC Y n s c) (rd 0) b_A_fill 4 "java/util/Arrays" gz none := hX
  show ow X (vC Y n s c) none (fo (fun j w => ui w kk i j v) u (lnC n s c kk)) u [(0, .ref (pv_ad (vC Y n s c) kk i)), (1, .int v)] 0 []
  refine ow_iconst (pc := 0) (v := nI 0) hX d_A_fill_0 (by decide) ?_
  refine ow_istore_n (pc := 1) (l2 := [(0, _), (1, _), (2, _)]) hX d_A_fill_1 (by decide) rfl rfl ?_
  refine ow_aload_n (pc := 2) hX d_A_fill_2 rfl ?_
  refine ow_len (pc := 3) hX hs (by decide) d_A_fill_3 (by show _ < bdC n c kk; first | assumption | omega) ?_
  refine ow_st (st2 := .int (nI (lnC n s c kk)) :: _) rfl ?_
  refine ow_istore_n (pc := 4) (l2 := [(0, _), (1, _), (2, _), (3, _)]) hX d_A_fill_4 (by decide) rfl rfl ?_
  exact w_A_fill_i Y n s c hX kk i z v hs hi hl u (lnC n s c kk) 0 (by omega)
set_option maxRecDepth 100000 in
set_option maxHeartbeats 4000000 in
theorem w_A_fill_n {X : OX} (Y : YY) (n s c : Nat) (hX : ox X (vC Y n s c) (rd 0) b_A_fill 4 "java/util/Arrays" gz none) (kk i z : Nat) (v : Nat) (hs : shC s c kk = .inr (0, .int, z)) (hi : i < bdC n c kk) (hl : lnC n s c kk < 2 ^ 31) (u : UU) : ∀ j k, k + j = lnC n s c kk → ow X (vC Y n s c) none (fo (fun j w => un w kk i j v) u (lnC n s c kk)) (fo (fun j w => un w kk i j v) u k) [(0, .ref (pv_ad (vC Y n s c) kk i)), (1, .int (nI v)), (2, .int (nI k)), (3, .int (nI (lnC n s c kk)))] 5 [] := by
  intro j
  induction j with
  | zero =>
    intro k hk
    refine ow_iload_n (pc := 5) hX d_A_fill_5 rfl ?_
    refine ow_iload_n (pc := 6) hX d_A_fill_6 rfl ?_
    refine ow_nc_ge (pc := 7) (tgt := 20) hX d_A_fill_7 (by decide) (by first | assumption | omega) (by first | assumption | omega) (fun h7 => ?_) (fun h7 => ?_)
    · skip
      exact ow_vret (pc := 20) hX d_A_fill_20 rfl (by rw [show lnC n s c kk = k by omega])
    · skip
      exact absurd h7 (by omega)
  | succ j ih =>
    intro k hk
    refine ow_iload_n (pc := 5) hX d_A_fill_5 rfl ?_
    refine ow_iload_n (pc := 6) hX d_A_fill_6 rfl ?_
    refine ow_nc_ge (pc := 7) (tgt := 20) hX d_A_fill_7 (by decide) (by first | assumption | omega) (by first | assumption | omega) (fun h7 => ?_) (fun h7 => ?_)
    · skip
      exact absurd h7 (by omega)
    · skip
      refine ow_aload_n (pc := 10) hX d_A_fill_10 rfl ?_
      refine ow_iload_n (pc := 11) hX d_A_fill_11 rfl ?_
      refine ow_iload_n (pc := 12) hX d_A_fill_12 rfl ?_
      refine ow_sN (pc := 13) hX hs d_A_fill_13 (by show _ < bdC n c kk; first | assumption | omega) (by show _ < lnC n s c kk; first | assumption | omega) ?_
      refine ow_iinc (pc := 14) (l2 := [(0, _), (1, _), (2, _), (3, _)]) hX d_A_fill_14 rfl (ii_1 _) (by decide) rfl rfl ?_
      refine ow_goto (pc := 17) (tgt := 5) hX d_A_fill_17 (by decide) ?_
      exact ih (k + 1) (by omega)
set_option maxRecDepth 100000 in
set_option maxHeartbeats 4000000 in
theorem c_A_fill_n (l : Launch) (Y : YY) (n s c : Nat) (hV : pv_ok (vC Y n s c)) (u : UU) (kk i z : Nat) (v : Nat) (hs : shC s c kk = .inr (0, .int, z)) (hi : i < bdC n c kk) (hl : lnC n s c kk < 2 ^ 31) : Ct l (vC Y n s c) ⟨"java/util/Arrays", "fill", "([II)V"⟩ (wz ⟨"java/util/Arrays", "fill", "([II)V"⟩ b_A_fill 4 none) (rd 0) [.ref (pv_ad (vC Y n s c) kk i), .int (nI v)] u none (fo (fun j w => un w kk i j v) u (lnC n s c kk)) := by
  refine ct_mk hV (by decide +kernel) (Nat.le_of_ble_eq_true rfl) (fun X hX => ?_)
  have hX : ox X (vC Y n s c) (rd 0) b_A_fill 4 "java/util/Arrays" gz none := hX
  show ow X (vC Y n s c) none (fo (fun j w => un w kk i j v) u (lnC n s c kk)) u [(0, .ref (pv_ad (vC Y n s c) kk i)), (1, .int (nI v))] 0 []
  refine ow_iconst (pc := 0) (v := nI 0) hX d_A_fill_0 (by decide) ?_
  refine ow_istore_n (pc := 1) (l2 := [(0, _), (1, _), (2, _)]) hX d_A_fill_1 (by decide) rfl rfl ?_
  refine ow_aload_n (pc := 2) hX d_A_fill_2 rfl ?_
  refine ow_len (pc := 3) hX hs (by decide) d_A_fill_3 (by show _ < bdC n c kk; first | assumption | omega) ?_
  refine ow_st (st2 := .int (nI (lnC n s c kk)) :: _) rfl ?_
  refine ow_istore_n (pc := 4) (l2 := [(0, _), (1, _), (2, _), (3, _)]) hX d_A_fill_4 (by decide) rfl rfl ?_
  exact w_A_fill_n Y n s c hX kk i z v hs hi hl u (lnC n s c kk) 0 (by omega)
/-- a bit of a row of 64 -/
def kbit (b : Int64) (t : Nat) : Nat := if ((b.toUInt64 >>> ((nI (t % 64)).toInt64.toUInt64 &&& Int64.toUInt64 63)).toInt64 &&& 1) = 1 then 1 else 0
theorem kbit_le (b : Int64) (t : Nat) : kbit b t ≤ 1 := by unfold kbit; split <;> omega
set_option maxRecDepth 100000 in
set_option maxHeartbeats 4000000 in
theorem c_H_bitAt (l : Launch) (Y : YY) (n s c : Nat) (hV : pv_ok (vC Y n s c)) (u : UU) (b : Int64) (t : Nat) (ht : t < 2 ^ 31) : Ct l (vC Y n s c) ⟨"SlottedMesh$Channel", "bitAt", "(JI)Z"⟩ (wz ⟨"SlottedMesh$Channel", "bitAt", "(JI)Z"⟩ b_H_bitAt 3 (some .boolean)) (rd 1) [.long b, .int (nI t)] u (some (.int (nI (kbit b t)))) (u) := by
  refine ct_mk hV (by decide +kernel) (Nat.le_of_ble_eq_true rfl) (fun X hX => ?_)
  have hX : ox X (vC Y n s c) (rd 1) b_H_bitAt 3 "SlottedMesh$Channel" gz (some .boolean) := hX
  show ow X (vC Y n s c) (some (.int (nI (kbit b t)))) (u) u [(0, .long b), (2, .int (nI t))] 0 []
  refine ow_lload_n (pc := 0) hX d_H_bitAt_0 rfl ?_
  refine ow_iload_n (pc := 1) hX d_H_bitAt_1 rfl ?_
  refine ow_bipush (pc := 2) (v := nI 64) hX d_H_bitAt_2 (by decide) ?_
  refine ow_callS (pc := 4) hX (c_T_floorMod _ Y n s c hV u t 64 ht (by decide) (by decide)) (cw_S hX mz_T_floorMod kw_382 ⟨rfl, rfl⟩ (by decide)) rfl (Nat.le_of_ble_eq_true rfl) d_H_bitAt_4 rfl ?_
  refine ow_lushr (pc := 7) hX d_H_bitAt_7 ?_
  refine ow_lconst (pc := 8) (v := 1) hX d_H_bitAt_8 (by decide) ?_
  refine ow_land (pc := 9) hX d_H_bitAt_9 ?_
  refine ow_lconst (pc := 10) (v := 1) hX d_H_bitAt_10 (by decide) ?_
  refine ow_lcmp (pc := 11) hX d_H_bitAt_11 ?_
  refine ow_if_ne (pc := 12) (tgt := 19) hX d_H_bitAt_12 (by decide) (fun h12 => ?_) (fun h12 => ?_)
  · skip
    rw [lg_cmp_eq] at h12
    refine ow_iconst (pc := 19) (v := nI 0) hX d_H_bitAt_19 (by decide) ?_
    exact ow_zret (pc := 20) hX d_H_bitAt_20 (nb_01 (by first | decide | assumption | omega | exact kbit_le _ _)) (by first | rfl | ((try simp only [kbit]); (repeat' split) <;> first | rfl | omega | (simp_all; done) | (simp_all; omega))) (by first | rfl | ((try simp only [kbit]); (repeat' split) <;> first | rfl | omega | (simp_all; done) | (simp_all; omega)))
  · skip
    rw [lg_cmp_eq] at h12
    refine ow_iconst (pc := 15) (v := nI 1) hX d_H_bitAt_15 (by decide) ?_
    refine ow_goto (pc := 16) (tgt := 20) hX d_H_bitAt_16 (by decide) ?_
    exact ow_zret (pc := 20) hX d_H_bitAt_20 (nb_01 (by first | decide | assumption | omega | exact kbit_le _ _)) (by first | rfl | ((try simp only [kbit]); (repeat' split) <;> first | rfl | omega | (simp_all; done) | (simp_all; omega))) (by first | rfl | ((try simp only [kbit]); (repeat' split) <;> first | rfl | omega | (simp_all; done) | (simp_all; omega)))
set_option maxRecDepth 100000 in
set_option maxHeartbeats 4000000 in
theorem c_H_carriesFrame (l : Launch) (Y : YY) (n s c : Nat) (hV : pv_ok (vC Y n s c)) (u : UU) (i t : Nat) (hi : i < c) (ht : t < 2 ^ 31) : Ct l (vC Y n s c) ⟨"SlottedMesh$Channel", "carriesFrame", "(I)Z"⟩ (wz ⟨"SlottedMesh$Channel", "carriesFrame", "(I)Z"⟩ b_H_carriesFrame 2 (some .boolean)) (rd 2) [.ref (pv_ad (vC Y n s c) 5 i), .int (nI t)] u (some (.int (nI (kbit (u.2.2.1 5 i 0) t)))) (u) := by
  refine ct_mk hV (by decide +kernel) (Nat.le_of_ble_eq_true rfl) (fun X hX => ?_)
  have hX : ox X (vC Y n s c) (rd 2) b_H_carriesFrame 2 "SlottedMesh$Channel" gz (some .boolean) := hX
  show ow X (vC Y n s c) (some (.int (nI (kbit (u.2.2.1 5 i 0) t)))) (u) u [(0, .ref (pv_ad (vC Y n s c) 5 i)), (1, .int (nI t))] 0 []
  refine ow_aload_n (pc := 0) hX d_H_carriesFrame_0 rfl ?_
  refine ow_gL (pc := 1) hX (kd_H Y n s c) 0 d_H_carriesFrame_1 kw_153 rfl (by show _ < c; first | assumption | omega) ?_
  refine ow_iload_n (pc := 4) hX d_H_carriesFrame_4 rfl ?_
  refine ow_callS (pc := 5) hX (c_H_bitAt _ Y n s c hV u _ t ht) (cw_S hX mz_H_bitAt kw_379 ⟨rfl, rfl⟩ (by decide)) rfl (Nat.le_of_ble_eq_true rfl) d_H_carriesFrame_5 rfl ?_
  exact ow_zret (pc := 8) hX d_H_carriesFrame_8 (nb_01 (by first | decide | assumption | omega | exact kbit_le _ _)) (by rfl) (by rfl)
set_option maxRecDepth 100000 in
set_option maxHeartbeats 4000000 in
theorem c_H_carriesConfirmation (l : Launch) (Y : YY) (n s c : Nat) (hV : pv_ok (vC Y n s c)) (u : UU) (i t : Nat) (hi : i < c) (ht : t < 2 ^ 31) : Ct l (vC Y n s c) ⟨"SlottedMesh$Channel", "carriesConfirmation", "(I)Z"⟩ (wz ⟨"SlottedMesh$Channel", "carriesConfirmation", "(I)Z"⟩ b_H_carriesConfirmation 2 (some .boolean)) (rd 2) [.ref (pv_ad (vC Y n s c) 5 i), .int (nI t)] u (some (.int (nI (kbit (u.2.2.1 5 i 1) t)))) (u) := by
  refine ct_mk hV (by decide +kernel) (Nat.le_of_ble_eq_true rfl) (fun X hX => ?_)
  have hX : ox X (vC Y n s c) (rd 2) b_H_carriesConfirmation 2 "SlottedMesh$Channel" gz (some .boolean) := hX
  show ow X (vC Y n s c) (some (.int (nI (kbit (u.2.2.1 5 i 1) t)))) (u) u [(0, .ref (pv_ad (vC Y n s c) 5 i)), (1, .int (nI t))] 0 []
  refine ow_aload_n (pc := 0) hX d_H_carriesConfirmation_0 rfl ?_
  refine ow_gL (pc := 1) hX (kd_H Y n s c) 1 d_H_carriesConfirmation_1 kw_155 rfl (by show _ < c; first | assumption | omega) ?_
  refine ow_iload_n (pc := 4) hX d_H_carriesConfirmation_4 rfl ?_
  refine ow_callS (pc := 5) hX (c_H_bitAt _ Y n s c hV u _ t ht) (cw_S hX mz_H_bitAt kw_379 ⟨rfl, rfl⟩ (by decide)) rfl (Nat.le_of_ble_eq_true rfl) d_H_carriesConfirmation_5 rfl ?_
  exact ow_zret (pc := 8) hX d_H_carriesConfirmation_8 (nb_01 (by first | decide | assumption | omega | exact kbit_le _ _)) (by rfl) (by rfl)
theorem mn_n {a b : Nat} (ha : a < 2 ^ 31) (hb : b < 2 ^ 31) : (if nI b < nI a then nI b else nI a) = nI (if b < a then b else a) := by
  simp only [nI_ltI hb ha]; split <;> rfl
def kc_keep (u : UU) (i : Nat) (v : Int32) : UU := un (ui (ui (ui u 11 i 2 (u.2.1 11 i 1)) 11 i 1 (u.2.1 11 i 0)) 11 i 0 v) 6 i 1 (if u.1 6 i 1 + 1 < 3 then u.1 6 i 1 + 1 else 3)
def kc_sum (u : UU) (i : Nat) (v : Int32) : Int32 := knear (u.2.1 6 i 5 + (u.2.1 6 i 2 - v)) (-2000) (nI 2000)
def kc_cmd (u : UU) (i : Nat) (v : Int32) : Int32 := knear (kfd (u.2.1 6 i 3 * (u.2.1 6 i 2 - v) + u.2.1 6 i 4 * kc_sum u i v)) (-500) (nI 500)
set_option maxRecDepth 100000 in
set_option maxHeartbeats 4000000 in
theorem c_O_keep (l : Launch) (Y : YY) (n s c : Nat) (hV : pv_ok (vC Y n s c)) (u : UU) (i : Nat) (v : Int32) (hi : i < n) (hk : u.1 6 i 1 ≤ 3) : Ct l (vC Y n s c) ⟨"SlottedMesh$Loop", "keep", "(I)V"⟩ (wz ⟨"SlottedMesh$Loop", "keep", "(I)V"⟩ b_O_keep 3 none) (rd 1) [.ref (pv_ad (vC Y n s c) 6 i), .int v] u none (kc_keep u i v) := by
  refine ct_mk hV (by decide +kernel) (Nat.le_of_ble_eq_true rfl) (fun X hX => ?_)
  have hX : ox X (vC Y n s c) (rd 1) b_O_keep 3 "SlottedMesh$Loop" gz none := hX
  show ow X (vC Y n s c) none (kc_keep u i v) u [(0, .ref (pv_ad (vC Y n s c) 6 i)), (1, .int v)] 0 []
  refine ow_iconst (pc := 0) (v := nI 2) hX d_O_keep_0 (by decide) ?_
  refine ow_istore_n (pc := 1) (l2 := [(0, _), (1, _), (2, _)]) hX d_O_keep_1 (by decide) rfl rfl ?_
  refine ow_iload_n (pc := 2) hX d_O_keep_2 rfl ?_
  refine ow_nz_le (pc := 3) (tgt := 26) hX d_O_keep_3 (by decide) (by first | assumption | omega) (fun h3 => ?_) (fun h3 => ?_)
  · skip
    exact absurd h3 (by decide)
  · skip
    refine ow_aload_n (pc := 6) hX d_O_keep_6 rfl ?_
    refine ow_gR (pc := 7) hX (kd_O Y n s c) 0 d_O_keep_7 kw_121 rfl (by show _ < n; first | assumption | omega) ?_
    refine ow_iload_n (pc := 10) hX d_O_keep_10 rfl ?_
    refine ow_aload_n (pc := 11) hX d_O_keep_11 rfl ?_
    refine ow_gR (pc := 12) hX (kd_O Y n s c) 0 d_O_keep_12 kw_121 rfl (by show _ < n; first | assumption | omega) ?_
    refine ow_iload_n (pc := 15) hX d_O_keep_15 rfl ?_
    refine ow_iconst (pc := 16) (v := nI 1) hX d_O_keep_16 (by decide) ?_
    refine ow_subn (pc := 17) hX d_O_keep_17 (by first | assumption | omega) ?_
    refine ow_aI (pc := 18) hX rfl d_O_keep_18 (by show _ < n; first | assumption | omega) (by show _ < 3; first | assumption | omega) ?_
    refine ow_sI (pc := 19) hX rfl d_O_keep_19 (by show _ < n; first | assumption | omega) (by show _ < 3; first | assumption | omega) ?_
    refine ow_iinc (pc := 20) (l2 := [(0, _), (1, _), (2, _)]) hX d_O_keep_20 rfl (ii_m1 (by first | assumption | omega)) (by decide) rfl rfl ?_
    refine ow_goto (pc := 23) (tgt := 2) hX d_O_keep_23 (by decide) ?_
    refine ow_iload_n (pc := 2) hX d_O_keep_2 rfl ?_
    refine ow_nz_le (pc := 3) (tgt := 26) hX d_O_keep_3 (by decide) (by first | assumption | omega) (fun h3 => ?_) (fun h3 => ?_)
    · skip
      exact absurd h3 (by decide)
    · skip
      refine ow_aload_n (pc := 6) hX d_O_keep_6 rfl ?_
      refine ow_gR (pc := 7) hX (kd_O Y n s c) 0 d_O_keep_7 kw_121 rfl (by show _ < n; first | assumption | omega) ?_
      refine ow_iload_n (pc := 10) hX d_O_keep_10 rfl ?_
      refine ow_aload_n (pc := 11) hX d_O_keep_11 rfl ?_
      refine ow_gR (pc := 12) hX (kd_O Y n s c) 0 d_O_keep_12 kw_121 rfl (by show _ < n; first | assumption | omega) ?_
      refine ow_iload_n (pc := 15) hX d_O_keep_15 rfl ?_
      refine ow_iconst (pc := 16) (v := nI 1) hX d_O_keep_16 (by decide) ?_
      refine ow_subn (pc := 17) hX d_O_keep_17 (by first | assumption | omega) ?_
      refine ow_aI (pc := 18) hX rfl d_O_keep_18 (by show _ < n; first | assumption | omega) (by show _ < 3; first | assumption | omega) ?_
      try simp only [un_1, un_2, ui_1, ui_2, ui_3, ul_1, ul_2, ul_3, ul_4, ur_1, ur_2, ur_3, ur_4, Nat.reduceEqDiff, false_and, and_false, true_and, and_true, and_self, reduceIte]
      refine ow_sI (pc := 19) hX rfl d_O_keep_19 (by show _ < n; first | assumption | omega) (by show _ < 3; first | assumption | omega) ?_
      refine ow_iinc (pc := 20) (l2 := [(0, _), (1, _), (2, _)]) hX d_O_keep_20 rfl (ii_m1 (by first | assumption | omega)) (by decide) rfl rfl ?_
      refine ow_goto (pc := 23) (tgt := 2) hX d_O_keep_23 (by decide) ?_
      refine ow_iload_n (pc := 2) hX d_O_keep_2 rfl ?_
      refine ow_nz_le (pc := 3) (tgt := 26) hX d_O_keep_3 (by decide) (by first | assumption | omega) (fun h3 => ?_) (fun h3 => ?_)
      · skip
        refine ow_aload_n (pc := 26) hX d_O_keep_26 rfl ?_
        refine ow_gR (pc := 27) hX (kd_O Y n s c) 0 d_O_keep_27 kw_121 rfl (by show _ < n; first | assumption | omega) ?_
        refine ow_iconst (pc := 30) (v := nI 0) hX d_O_keep_30 (by decide) ?_
        refine ow_iload_n (pc := 31) hX d_O_keep_31 rfl ?_
        refine ow_sI (pc := 32) hX rfl d_O_keep_32 (by show _ < n; first | assumption | omega) (by show _ < 3; first | assumption | omega) ?_
        refine ow_aload_n (pc := 33) hX d_O_keep_33 rfl ?_
        refine ow_iconst (pc := 34) (v := nI 3) hX d_O_keep_34 (by decide) ?_
        refine ow_aload_n (pc := 35) hX d_O_keep_35 rfl ?_
        refine ow_gN (pc := 36) hX (kd_O Y n s c) 1 d_O_keep_36 kw_123 rfl (by show _ < n; first | assumption | omega) ?_
        try simp only [un_1, un_2, ui_1, ui_2, ui_3, ul_1, ul_2, ul_3, ul_4, ur_1, ur_2, ur_3, ur_4, Nat.reduceEqDiff, false_and, and_false, true_and, and_true, and_self, reduceIte]
        refine ow_iconst (pc := 39) (v := nI 1) hX d_O_keep_39 (by decide) ?_
        refine ow_addn (pc := 40) hX d_O_keep_40 ?_
        refine ow_min (pc := 41) hX d_O_keep_41 kw_414 kw_22 kw_2 kw_23 (by decide) (Nat.le_of_ble_eq_true rfl) ?_
        refine ow_val (mn_n (by omega) (by omega)) ?_
        refine ow_pN (pc := 44) hX (kd_O Y n s c) 1 d_O_keep_44 kw_123 rfl (by show _ < n; first | assumption | omega) rfl (by decide +kernel) ?_
        exact ow_vret (pc := 47) hX d_O_keep_47 rfl (by rfl)
      · skip
        exact absurd h3 (by decide)
set_option maxRecDepth 100000 in
set_option maxHeartbeats 4000000 in
theorem c_O_nextCommand (l : Launch) (Y : YY) (n s c : Nat) (hV : pv_ok (vC Y n s c)) (u : UU) (i : Nat) (v : Int32) (hi : i < n) : Ct l (vC Y n s c) ⟨"SlottedMesh$Loop", "nextCommand", "(I)I"⟩ (wz ⟨"SlottedMesh$Loop", "nextCommand", "(I)I"⟩ b_O_nextCommand 4 (some .int)) (rd 2) [.ref (pv_ad (vC Y n s c) 6 i), .int v] u (some (.int (kc_cmd u i v))) (ui u 6 i 5 (kc_sum u i v)) := by
  refine ct_mk hV (by decide +kernel) (Nat.le_of_ble_eq_true rfl) (fun X hX => ?_)
  have hX : ox X (vC Y n s c) (rd 2) b_O_nextCommand 4 "SlottedMesh$Loop" gz (some .int) := hX
  show ow X (vC Y n s c) (some (.int (kc_cmd u i v))) (ui u 6 i 5 (kc_sum u i v)) u [(0, .ref (pv_ad (vC Y n s c) 6 i)), (1, .int v)] 0 []
  refine ow_aload_n (pc := 0) hX d_O_nextCommand_0 rfl ?_
  refine ow_gI (pc := 1) hX (kd_O Y n s c) 2 d_O_nextCommand_1 kw_125 rfl (by show _ < n; first | assumption | omega) ?_
  refine ow_iload_n (pc := 4) hX d_O_nextCommand_4 rfl ?_
  refine ow_isub (pc := 5) hX d_O_nextCommand_5 ?_
  refine ow_istore_n (pc := 6) (l2 := [(0, _), (1, _), (2, _)]) hX d_O_nextCommand_6 (by decide) rfl rfl ?_
  refine ow_aload_n (pc := 7) hX d_O_nextCommand_7 rfl ?_
  refine ow_aload_n (pc := 8) hX d_O_nextCommand_8 rfl ?_
  refine ow_gI (pc := 9) hX (kd_O Y n s c) 5 d_O_nextCommand_9 kw_131 rfl (by show _ < n; first | assumption | omega) ?_
  refine ow_iload_n (pc := 12) hX d_O_nextCommand_12 rfl ?_
  refine ow_iadd (pc := 13) hX d_O_nextCommand_13 ?_
  refine ow_sipush (pc := 14) (v := (-2000)) hX d_O_nextCommand_14 (by decide) ?_
  refine ow_sipush (pc := 17) (v := nI 2000) hX d_O_nextCommand_17 (by decide) ?_
  refine ow_callSN (pc := 20) hX (c_S_nearest _ Y n s c hV _ _ _ _) (cw_N hX mz_S_nearest ⟨rfl, rfl⟩ (by decide)) rfl (Nat.le_of_ble_eq_true rfl) d_O_nextCommand_20 rfl ?_
  refine ow_pI (pc := 23) hX (kd_O Y n s c) 5 d_O_nextCommand_23 kw_131 rfl (by show _ < n; first | assumption | omega) rfl (by decide +kernel) ?_
  refine ow_aload_n (pc := 26) hX d_O_nextCommand_26 rfl ?_
  refine ow_gI (pc := 27) hX (kd_O Y n s c) 3 d_O_nextCommand_27 kw_127 rfl (by show _ < n; first | assumption | omega) ?_
  try simp only [un_1, un_2, ui_1, ui_2, ui_3, ul_1, ul_2, ul_3, ul_4, ur_1, ur_2, ur_3, ur_4, Nat.reduceEqDiff, false_and, and_false, true_and, and_true, and_self, reduceIte]
  refine ow_iload_n (pc := 30) hX d_O_nextCommand_30 rfl ?_
  refine ow_imul (pc := 31) hX d_O_nextCommand_31 ?_
  refine ow_aload_n (pc := 32) hX d_O_nextCommand_32 rfl ?_
  refine ow_gI (pc := 33) hX (kd_O Y n s c) 4 d_O_nextCommand_33 kw_129 rfl (by show _ < n; first | assumption | omega) ?_
  try simp only [un_1, un_2, ui_1, ui_2, ui_3, ul_1, ul_2, ul_3, ul_4, ur_1, ur_2, ur_3, ur_4, Nat.reduceEqDiff, false_and, and_false, true_and, and_true, and_self, reduceIte]
  refine ow_aload_n (pc := 36) hX d_O_nextCommand_36 rfl ?_
  refine ow_gI (pc := 37) hX (kd_O Y n s c) 5 d_O_nextCommand_37 kw_131 rfl (by show _ < n; first | assumption | omega) ?_
  try simp only [un_1, un_2, ui_1, ui_2, ui_3, ul_1, ul_2, ul_3, ul_4, ur_1, ur_2, ur_3, ur_4, Nat.reduceEqDiff, false_and, and_false, true_and, and_true, and_self, reduceIte]
  refine ow_imul (pc := 40) hX d_O_nextCommand_40 ?_
  refine ow_iadd (pc := 41) hX d_O_nextCommand_41 ?_
  refine ow_bipush (pc := 42) (v := nI 16) hX d_O_nextCommand_42 (by decide) ?_
  refine ow_callS (pc := 44) hX (c_T_floorDiv _ Y n s c hV _ _) (cw_S hX mz_T_floorDiv kw_420 ⟨rfl, rfl⟩ (by decide)) rfl (Nat.le_of_ble_eq_true rfl) d_O_nextCommand_44 rfl ?_
  refine ow_istore_n (pc := 47) (l2 := [(0, _), (1, _), (2, _), (3, _)]) hX d_O_nextCommand_47 (by decide) rfl rfl ?_
  refine ow_iload_n (pc := 48) hX d_O_nextCommand_48 rfl ?_
  refine ow_sipush (pc := 49) (v := (-500)) hX d_O_nextCommand_49 (by decide) ?_
  refine ow_sipush (pc := 52) (v := nI 500) hX d_O_nextCommand_52 (by decide) ?_
  refine ow_callSN (pc := 55) hX (c_S_nearest _ Y n s c hV _ _ _ _) (cw_N hX mz_S_nearest ⟨rfl, rfl⟩ (by decide)) rfl (Nat.le_of_ble_eq_true rfl) d_O_nextCommand_55 rfl ?_
  exact ow_iret (pc := 58) hX d_O_nextCommand_58 (by rfl) (by rfl)
end
section
/-! Node and Plan: contracts (by program, wip/whole/gen/c2.py) -/
def kc_enter (u : UU) (i : Nat) : UU := un (un (un (un u 4 i 7 (if i = 0 then 1 else 0)) 4 i 10 0) 4 i 11 0) 8 (2 * i + 1) 3 0
def kc_off1 (u : UU) (i : Nat) : UU := un (un (un (un (ui (un (un u 4 i 6 0) 4 i 7 0) 4 i 8 (nI 0)) 4 i 10 0) 4 i 11 0) 8 (2 * i) 3 0) 8 (2 * i + 1) 3 0
def kc_off2 (n : Nat) (u : UU) (i : Nat) : UU := fo (fun j w => ui w 9 i j (nI 0)) (kc_off1 u i) n
def kc_off (n : Nat) (u : UU) (i : Nat) : UU := ui (fo (fun j w => ui w 10 i j (nI 0)) (kc_off2 n u i) n) 10 i i ((kc_off2 n u i).2.1 10 i i)
/-- are two clocks close -/
def kclose (x y : Int32) : Nat := if nI 10 < (if 0 ≤ x - y then x - y else 0 - (x - y)) then 0 else 1
theorem kclose_le (x y : Int32) : kclose x y ≤ 1 := by
  unfold kclose
  repeat' split
  all_goals omega
def kc_failUp (u : UU) (i : Nat) : UU := if u.1 4 i 10 + 1 < 4 then un u 4 i 10 (u.1 4 i 10 + 1) else un (un (un u 4 i 10 (u.1 4 i 10 + 1)) 4 i 10 0) 4 i 7 0
def kc_failDown (u : UU) (i : Nat) : UU := if u.1 4 i 11 + 1 < 6 then un u 4 i 11 (u.1 4 i 11 + 1) else kc_drop (un (un u 4 i 11 (u.1 4 i 11 + 1)) 4 i 11 0) (2 * i + 1)
theorem ix_lt {a b s c : Nat} (ha : a < s) (hb : b < c) : a * c + b < s * c := by
  have h : (a + 1) * c ≤ s * c := Nat.mul_le_mul_right c ha
  rw [Nat.add_mul, Nat.one_mul] at h
  omega
set_option maxRecDepth 100000 in
set_option maxHeartbeats 4000000 in
theorem c_N_enterPlan (l : Launch) (Y : YY) (n s c : Nat) (hV : pv_ok (vC Y n s c)) (u : UU) (i : Nat) (hi : i < n) (hn : n ≤ 6) : Ct l (vC Y n s c) ⟨"SlottedMesh$Node", "enterPlan", "()V"⟩ (wz ⟨"SlottedMesh$Node", "enterPlan", "()V"⟩ b_N_enterPlan 1 none) (rd 1) [.ref (pv_ad (vC Y n s c) 4 i)] u none (kc_enter u i) := by
  refine ct_mk hV (by decide +kernel) (Nat.le_of_ble_eq_true rfl) (fun X hX => ?_)
  have hX : ox X (vC Y n s c) (rd 1) b_N_enterPlan 1 "SlottedMesh$Node" gz none := hX
  show ow X (vC Y n s c) none (kc_enter u i) u [(0, .ref (pv_ad (vC Y n s c) 4 i))] 0 []
  refine ow_aload_n (pc := 0) hX d_N_enterPlan_0 rfl ?_
  refine ow_aload_n (pc := 1) hX d_N_enterPlan_1 rfl ?_
  refine ow_gS (pc := 2) hX (kd_N Y n s c) 0 d_N_enterPlan_2 kw_61 rfl (by show _ < n; first | assumption | omega) ?_
  refine ow_nz_ne (pc := 5) (tgt := 12) hX d_N_enterPlan_5 (by decide) (by first | assumption | omega) (fun h5 => ?_) (fun h5 => ?_)
  · skip
    refine ow_iconst (pc := 12) (v := nI 0) hX d_N_enterPlan_12 (by decide) ?_
    refine ow_pZ (pc := 13) hX (kd_N Y n s c) 7 d_N_enterPlan_13 kw_76 rfl (by show _ < n; first | assumption | omega) rfl (by decide +kernel) (by first | assumption | omega) ?_
    refine ow_aload_n (pc := 16) hX d_N_enterPlan_16 rfl ?_
    refine ow_iconst (pc := 17) (v := nI 0) hX d_N_enterPlan_17 (by decide) ?_
    refine ow_pN (pc := 18) hX (kd_N Y n s c) 10 d_N_enterPlan_18 kw_81 rfl (by show _ < n; first | assumption | omega) rfl (by decide +kernel) ?_
    refine ow_aload_n (pc := 21) hX d_N_enterPlan_21 rfl ?_
    refine ow_iconst (pc := 22) (v := nI 0) hX d_N_enterPlan_22 (by decide) ?_
    refine ow_pN (pc := 23) hX (kd_N Y n s c) 11 d_N_enterPlan_23 kw_83 rfl (by show _ < n; first | assumption | omega) rfl (by decide +kernel) ?_
    refine ow_aload_n (pc := 26) hX d_N_enterPlan_26 rfl ?_
    refine ow_gO (pc := 27) hX (kd_N Y n s c) 3 d_N_enterPlan_27 kw_68 rfl (by show _ < n; first | assumption | omega) ?_
    refine ow_callV (pc := 30) hX (kd_F Y n s c) (by show _ < 2 * n; first | assumption | omega) (c_F_clear _ Y n s c hV _ (2 * i + 1) (by omega)) (cw_V hX mz_F_clear kw_304 ⟨rfl, rfl⟩ (by decide)) rfl (Nat.le_of_ble_eq_true rfl) d_N_enterPlan_30 rfl ?_
    exact ow_vret (pc := 33) hX d_N_enterPlan_33 rfl (by first | rfl | ((try simp only [kc_enter]); (repeat' split) <;> first | rfl | omega | (simp_all; done) | (simp_all; omega)))
  · skip
    refine ow_iconst (pc := 8) (v := nI 1) hX d_N_enterPlan_8 (by decide) ?_
    refine ow_goto (pc := 9) (tgt := 13) hX d_N_enterPlan_9 (by decide) ?_
    refine ow_pZ (pc := 13) hX (kd_N Y n s c) 7 d_N_enterPlan_13 kw_76 rfl (by show _ < n; first | assumption | omega) rfl (by decide +kernel) (by first | assumption | omega) ?_
    refine ow_aload_n (pc := 16) hX d_N_enterPlan_16 rfl ?_
    refine ow_iconst (pc := 17) (v := nI 0) hX d_N_enterPlan_17 (by decide) ?_
    refine ow_pN (pc := 18) hX (kd_N Y n s c) 10 d_N_enterPlan_18 kw_81 rfl (by show _ < n; first | assumption | omega) rfl (by decide +kernel) ?_
    refine ow_aload_n (pc := 21) hX d_N_enterPlan_21 rfl ?_
    refine ow_iconst (pc := 22) (v := nI 0) hX d_N_enterPlan_22 (by decide) ?_
    refine ow_pN (pc := 23) hX (kd_N Y n s c) 11 d_N_enterPlan_23 kw_83 rfl (by show _ < n; first | assumption | omega) rfl (by decide +kernel) ?_
    refine ow_aload_n (pc := 26) hX d_N_enterPlan_26 rfl ?_
    refine ow_gO (pc := 27) hX (kd_N Y n s c) 3 d_N_enterPlan_27 kw_68 rfl (by show _ < n; first | assumption | omega) ?_
    refine ow_callV (pc := 30) hX (kd_F Y n s c) (by show _ < 2 * n; first | assumption | omega) (c_F_clear _ Y n s c hV _ (2 * i + 1) (by omega)) (cw_V hX mz_F_clear kw_304 ⟨rfl, rfl⟩ (by decide)) rfl (Nat.le_of_ble_eq_true rfl) d_N_enterPlan_30 rfl ?_
    exact ow_vret (pc := 33) hX d_N_enterPlan_33 rfl (by first | rfl | ((try simp only [kc_enter]); (repeat' split) <;> first | rfl | omega | (simp_all; done) | (simp_all; omega)))
set_option maxRecDepth 100000 in
set_option maxHeartbeats 4000000 in
theorem c_N_switchOff (l : Launch) (Y : YY) (n s c : Nat) (hV : pv_ok (vC Y n s c)) (u : UU) (i : Nat) (hi : i < n) (hn : n ≤ 6) : Ct l (vC Y n s c) ⟨"SlottedMesh$Node", "switchOff", "()V"⟩ (wz ⟨"SlottedMesh$Node", "switchOff", "()V"⟩ b_N_switchOff 2 none) (rd 1) [.ref (pv_ad (vC Y n s c) 4 i)] u none (kc_off n u i) := by
  refine ct_mk hV (by decide +kernel) (Nat.le_of_ble_eq_true rfl) (fun X hX => ?_)
  have hX : ox X (vC Y n s c) (rd 1) b_N_switchOff 2 "SlottedMesh$Node" gz none := hX
  show ow X (vC Y n s c) none (kc_off n u i) u [(0, .ref (pv_ad (vC Y n s c) 4 i))] 0 []
  refine ow_aload_n (pc := 0) hX d_N_switchOff_0 rfl ?_
  refine ow_iconst (pc := 1) (v := nI 0) hX d_N_switchOff_1 (by decide) ?_
  refine ow_pZ (pc := 2) hX (kd_N Y n s c) 6 d_N_switchOff_2 kw_74 rfl (by show _ < n; first | assumption | omega) rfl (by decide +kernel) (by first | assumption | omega) ?_
  refine ow_aload_n (pc := 5) hX d_N_switchOff_5 rfl ?_
  refine ow_iconst (pc := 6) (v := nI 0) hX d_N_switchOff_6 (by decide) ?_
  refine ow_pZ (pc := 7) hX (kd_N Y n s c) 7 d_N_switchOff_7 kw_76 rfl (by show _ < n; first | assumption | omega) rfl (by decide +kernel) (by first | assumption | omega) ?_
  refine ow_aload_n (pc := 10) hX d_N_switchOff_10 rfl ?_
  refine ow_iconst (pc := 11) (v := nI 0) hX d_N_switchOff_11 (by decide) ?_
  refine ow_pI (pc := 12) hX (kd_N Y n s c) 8 d_N_switchOff_12 kw_78 rfl (by show _ < n; first | assumption | omega) rfl (by decide +kernel) ?_
  refine ow_aload_n (pc := 15) hX d_N_switchOff_15 rfl ?_
  refine ow_iconst (pc := 16) (v := nI 0) hX d_N_switchOff_16 (by decide) ?_
  refine ow_pN (pc := 17) hX (kd_N Y n s c) 10 d_N_switchOff_17 kw_81 rfl (by show _ < n; first | assumption | omega) rfl (by decide +kernel) ?_
  refine ow_aload_n (pc := 20) hX d_N_switchOff_20 rfl ?_
  refine ow_iconst (pc := 21) (v := nI 0) hX d_N_switchOff_21 (by decide) ?_
  refine ow_pN (pc := 22) hX (kd_N Y n s c) 11 d_N_switchOff_22 kw_83 rfl (by show _ < n; first | assumption | omega) rfl (by decide +kernel) ?_
  refine ow_aload_n (pc := 25) hX d_N_switchOff_25 rfl ?_
  refine ow_gE (pc := 26) hX (kd_N Y n s c) 2 d_N_switchOff_26 kw_66 rfl (by show _ < n; first | assumption | omega) ?_
  refine ow_callV (pc := 29) hX (kd_F Y n s c) (by show _ < 2 * n; first | assumption | omega) (c_F_clear _ Y n s c hV _ (2 * i) (by omega)) (cw_V hX mz_F_clear kw_304 ⟨rfl, rfl⟩ (by decide)) rfl (Nat.le_of_ble_eq_true rfl) d_N_switchOff_29 rfl ?_
  refine ow_aload_n (pc := 32) hX d_N_switchOff_32 rfl ?_
  refine ow_gO (pc := 33) hX (kd_N Y n s c) 3 d_N_switchOff_33 kw_68 rfl (by show _ < n; first | assumption | omega) ?_
  refine ow_callV (pc := 36) hX (kd_F Y n s c) (by show _ < 2 * n; first | assumption | omega) (c_F_clear _ Y n s c hV _ (2 * i + 1) (by omega)) (cw_V hX mz_F_clear kw_304 ⟨rfl, rfl⟩ (by decide)) rfl (Nat.le_of_ble_eq_true rfl) d_N_switchOff_36 rfl ?_
  refine ow_aload_n (pc := 39) hX d_N_switchOff_39 rfl ?_
  refine ow_gR (pc := 40) hX (kd_N Y n s c) 4 d_N_switchOff_40 kw_70 rfl (by show _ < n; first | assumption | omega) ?_
  refine ow_iconst (pc := 43) (v := nI 0) hX d_N_switchOff_43 (by decide) ?_
  refine ow_callS (pc := 44) hX (c_A_fill_i _ Y n s c hV _ 9 i 0 (nI 0) rfl hi (by show n < 2 ^ 31; omega)) (cw_S hX mz_A_fill kw_324 ⟨rfl, rfl⟩ (by decide)) rfl (Nat.le_of_ble_eq_true rfl) d_N_switchOff_44 rfl ?_
  refine ow_aload_n (pc := 47) hX d_N_switchOff_47 rfl ?_
  refine ow_gR (pc := 48) hX (kd_N Y n s c) 5 d_N_switchOff_48 kw_72 rfl (by show _ < n; first | assumption | omega) ?_
  refine ow_aload_n (pc := 51) hX d_N_switchOff_51 rfl ?_
  refine ow_gS (pc := 52) hX (kd_N Y n s c) 0 d_N_switchOff_52 kw_61 rfl (by show _ < n; first | assumption | omega) ?_
  refine ow_aI (pc := 55) hX rfl d_N_switchOff_55 (by show _ < n; first | assumption | omega) (by show _ < n; first | assumption | omega) ?_
  try simp only [un_1, un_2, ui_1, ui_2, ui_3, ul_1, ul_2, ul_3, ul_4, ur_1, ur_2, ur_3, ur_4, Nat.reduceEqDiff, false_and, and_false, true_and, and_true, and_self, reduceIte]
  refine ow_istore_n (pc := 56) (l2 := [(0, _), (1, _)]) hX d_N_switchOff_56 (by decide) rfl rfl ?_
  refine ow_aload_n (pc := 57) hX d_N_switchOff_57 rfl ?_
  refine ow_gR (pc := 58) hX (kd_N Y n s c) 5 d_N_switchOff_58 kw_72 rfl (by show _ < n; first | assumption | omega) ?_
  refine ow_iconst (pc := 61) (v := nI 0) hX d_N_switchOff_61 (by decide) ?_
  refine ow_callS (pc := 62) hX (c_A_fill_i _ Y n s c hV _ 10 i 0 (nI 0) rfl hi (by show n < 2 ^ 31; omega)) (cw_S hX mz_A_fill kw_324 ⟨rfl, rfl⟩ (by decide)) rfl (Nat.le_of_ble_eq_true rfl) d_N_switchOff_62 rfl ?_
  refine ow_aload_n (pc := 65) hX d_N_switchOff_65 rfl ?_
  refine ow_gR (pc := 66) hX (kd_N Y n s c) 5 d_N_switchOff_66 kw_72 rfl (by show _ < n; first | assumption | omega) ?_
  refine ow_aload_n (pc := 69) hX d_N_switchOff_69 rfl ?_
  refine ow_gS (pc := 70) hX (kd_N Y n s c) 0 d_N_switchOff_70 kw_61 rfl (by show _ < n; first | assumption | omega) ?_
  refine ow_iload_n (pc := 73) hX d_N_switchOff_73 rfl ?_
  refine ow_sI (pc := 74) hX rfl d_N_switchOff_74 (by show _ < n; first | assumption | omega) (by show _ < n; first | assumption | omega) ?_
  exact ow_vret (pc := 75) hX d_N_switchOff_75 rfl (by rfl)
set_option maxRecDepth 100000 in
set_option maxHeartbeats 4000000 in
theorem c_N_clockIsCloseTo (l : Launch) (Y : YY) (n s c : Nat) (hV : pv_ok (vC Y n s c)) (u : UU) (i j : Nat) (hi : i < n) (hj : j < n) : Ct l (vC Y n s c) ⟨"SlottedMesh$Node", "clockIsCloseTo", "(LSlottedMesh$Node;)Z"⟩ (wz ⟨"SlottedMesh$Node", "clockIsCloseTo", "(LSlottedMesh$Node;)Z"⟩ b_N_clockIsCloseTo 2 (some .boolean)) (rd 1) [.ref (pv_ad (vC Y n s c) 4 i), .ref (pv_ad (vC Y n s c) 4 j)] u (some (.int (nI (kclose (u.2.1 4 i 8) (u.2.1 4 j 8))))) (u) := by
  refine ct_mk hV (by decide +kernel) (Nat.le_of_ble_eq_true rfl) (fun X hX => ?_)
  have hX : ox X (vC Y n s c) (rd 1) b_N_clockIsCloseTo 2 "SlottedMesh$Node" gz (some .boolean) := hX
  show ow X (vC Y n s c) (some (.int (nI (kclose (u.2.1 4 i 8) (u.2.1 4 j 8))))) (u) u [(0, .ref (pv_ad (vC Y n s c) 4 i)), (1, .ref (pv_ad (vC Y n s c) 4 j))] 0 []
  refine ow_aload_n (pc := 0) hX d_N_clockIsCloseTo_0 rfl ?_
  refine ow_gI (pc := 1) hX (kd_N Y n s c) 8 d_N_clockIsCloseTo_1 kw_78 rfl (by show _ < n; first | assumption | omega) ?_
  refine ow_aload_n (pc := 4) hX d_N_clockIsCloseTo_4 rfl ?_
  refine ow_gI (pc := 5) hX (kd_N Y n s c) 8 d_N_clockIsCloseTo_5 kw_78 rfl (by show _ < n; first | assumption | omega) ?_
  refine ow_isub (pc := 8) hX d_N_clockIsCloseTo_8 ?_
  refine ow_abs (pc := 9) hX d_N_clockIsCloseTo_9 kw_391 kw_392 kw_2 kw_393 (by decide) (Nat.le_of_ble_eq_true rfl) ?_
  refine ow_bipush (pc := 12) (v := nI 10) hX d_N_clockIsCloseTo_12 (by decide) ?_
  refine ow_ic_gt (pc := 14) (tgt := 21) hX d_N_clockIsCloseTo_14 (by decide) (fun h14 => ?_) (fun h14 => ?_)
  · skip
    refine ow_iconst (pc := 21) (v := nI 0) hX d_N_clockIsCloseTo_21 (by decide) ?_
    exact ow_zret (pc := 22) hX d_N_clockIsCloseTo_22 (nb_01 (by first | decide | assumption | omega | exact kbit_le _ _)) (by first | rfl | (unfold kclose; first | rw [if_pos h14] | rw [if_neg h14])) (by first | rfl | (unfold kclose; first | rw [if_pos h14] | rw [if_neg h14]))
  · skip
    refine ow_iconst (pc := 17) (v := nI 1) hX d_N_clockIsCloseTo_17 (by decide) ?_
    refine ow_goto (pc := 18) (tgt := 22) hX d_N_clockIsCloseTo_18 (by decide) ?_
    exact ow_zret (pc := 22) hX d_N_clockIsCloseTo_22 (nb_01 (by first | decide | assumption | omega | exact kbit_le _ _)) (by first | rfl | (unfold kclose; first | rw [if_pos h14] | rw [if_neg h14])) (by first | rfl | (unfold kclose; first | rw [if_pos h14] | rw [if_neg h14]))
set_option maxRecDepth 100000 in
set_option maxHeartbeats 4000000 in
theorem c_N_failUp (l : Launch) (Y : YY) (n s c : Nat) (hV : pv_ok (vC Y n s c)) (u : UU) (i : Nat) (hi : i < n) (hf : u.1 4 i 10 ≤ 3) : Ct l (vC Y n s c) ⟨"SlottedMesh$Node", "failUp", "()V"⟩ (wz ⟨"SlottedMesh$Node", "failUp", "()V"⟩ b_N_failUp 1 none) (rd 0) [.ref (pv_ad (vC Y n s c) 4 i)] u none (kc_failUp u i) := by
  refine ct_mk hV (by decide +kernel) (Nat.le_of_ble_eq_true rfl) (fun X hX => ?_)
  have hX : ox X (vC Y n s c) (rd 0) b_N_failUp 1 "SlottedMesh$Node" gz none := hX
  show ow X (vC Y n s c) none (kc_failUp u i) u [(0, .ref (pv_ad (vC Y n s c) 4 i))] 0 []
  refine ow_aload_n (pc := 0) hX d_N_failUp_0 rfl ?_
  refine ow_dup (pc := 1) hX d_N_failUp_1 rfl ?_
  refine ow_gN (pc := 2) hX (kd_N Y n s c) 10 d_N_failUp_2 kw_81 rfl (by show _ < n; first | assumption | omega) ?_
  refine ow_iconst (pc := 5) (v := nI 1) hX d_N_failUp_5 (by decide) ?_
  refine ow_addn (pc := 6) hX d_N_failUp_6 ?_
  refine ow_pN (pc := 7) hX (kd_N Y n s c) 10 d_N_failUp_7 kw_81 rfl (by show _ < n; first | assumption | omega) rfl (by decide +kernel) ?_
  refine ow_aload_n (pc := 10) hX d_N_failUp_10 rfl ?_
  refine ow_gN (pc := 11) hX (kd_N Y n s c) 10 d_N_failUp_11 kw_81 rfl (by show _ < n; first | assumption | omega) ?_
  try simp only [un_1, un_2, ui_1, ui_2, ui_3, ul_1, ul_2, ul_3, ul_4, ur_1, ur_2, ur_3, ur_4, Nat.reduceEqDiff, false_and, and_false, true_and, and_true, and_self, reduceIte]
  refine ow_iconst (pc := 14) (v := nI 4) hX d_N_failUp_14 (by decide) ?_
  refine ow_nc_lt (pc := 15) (tgt := 28) hX d_N_failUp_15 (by decide) (by first | assumption | omega) (by first | assumption | omega) (fun h15 => ?_) (fun h15 => ?_)
  · skip
    exact ow_vret (pc := 28) hX d_N_failUp_28 rfl (by first | rfl | ((try simp only [kc_failUp]); (repeat' split) <;> first | rfl | omega | (simp_all; done) | (simp_all; omega)))
  · skip
    refine ow_aload_n (pc := 18) hX d_N_failUp_18 rfl ?_
    refine ow_iconst (pc := 19) (v := nI 0) hX d_N_failUp_19 (by decide) ?_
    refine ow_pN (pc := 20) hX (kd_N Y n s c) 10 d_N_failUp_20 kw_81 rfl (by show _ < n; first | assumption | omega) rfl (by decide +kernel) ?_
    refine ow_aload_n (pc := 23) hX d_N_failUp_23 rfl ?_
    refine ow_iconst (pc := 24) (v := nI 0) hX d_N_failUp_24 (by decide) ?_
    refine ow_pZ (pc := 25) hX (kd_N Y n s c) 7 d_N_failUp_25 kw_76 rfl (by show _ < n; first | assumption | omega) rfl (by decide +kernel) (by first | assumption | omega) ?_
    exact ow_vret (pc := 28) hX d_N_failUp_28 rfl (by first | rfl | ((try simp only [kc_failUp]); (repeat' split) <;> first | rfl | omega | (simp_all; done) | (simp_all; omega)))
set_option maxRecDepth 100000 in
set_option maxHeartbeats 4000000 in
theorem c_N_failDown (l : Launch) (Y : YY) (n s c : Nat) (hV : pv_ok (vC Y n s c)) (u : UU) (i : Nat) (hi : i < n) (hf : u.1 4 i 11 ≤ 5) (hs : u.1 8 (2 * i + 1) 3 ≤ 4) : Ct l (vC Y n s c) ⟨"SlottedMesh$Node", "failDown", "()V"⟩ (wz ⟨"SlottedMesh$Node", "failDown", "()V"⟩ b_N_failDown 1 none) (rd 1) [.ref (pv_ad (vC Y n s c) 4 i)] u none (kc_failDown u i) := by
  refine ct_mk hV (by decide +kernel) (Nat.le_of_ble_eq_true rfl) (fun X hX => ?_)
  have hX : ox X (vC Y n s c) (rd 1) b_N_failDown 1 "SlottedMesh$Node" gz none := hX
  show ow X (vC Y n s c) none (kc_failDown u i) u [(0, .ref (pv_ad (vC Y n s c) 4 i))] 0 []
  refine ow_aload_n (pc := 0) hX d_N_failDown_0 rfl ?_
  refine ow_dup (pc := 1) hX d_N_failDown_1 rfl ?_
  refine ow_gN (pc := 2) hX (kd_N Y n s c) 11 d_N_failDown_2 kw_83 rfl (by show _ < n; first | assumption | omega) ?_
  refine ow_iconst (pc := 5) (v := nI 1) hX d_N_failDown_5 (by decide) ?_
  refine ow_addn (pc := 6) hX d_N_failDown_6 ?_
  refine ow_pN (pc := 7) hX (kd_N Y n s c) 11 d_N_failDown_7 kw_83 rfl (by show _ < n; first | assumption | omega) rfl (by decide +kernel) ?_
  refine ow_aload_n (pc := 10) hX d_N_failDown_10 rfl ?_
  refine ow_gN (pc := 11) hX (kd_N Y n s c) 11 d_N_failDown_11 kw_83 rfl (by show _ < n; first | assumption | omega) ?_
  try simp only [un_1, un_2, ui_1, ui_2, ui_3, ul_1, ul_2, ul_3, ul_4, ur_1, ur_2, ur_3, ur_4, Nat.reduceEqDiff, false_and, and_false, true_and, and_true, and_self, reduceIte]
  refine ow_bipush (pc := 14) (v := nI 6) hX d_N_failDown_14 (by decide) ?_
  refine ow_nc_lt (pc := 16) (tgt := 31) hX d_N_failDown_16 (by decide) (by first | assumption | omega) (by first | assumption | omega) (fun h16 => ?_) (fun h16 => ?_)
  · skip
    exact ow_vret (pc := 31) hX d_N_failDown_31 rfl (by first | rfl | ((try simp only [kc_failDown]); (repeat' split) <;> first | rfl | omega | (simp_all; done) | (simp_all; omega)))
  · skip
    refine ow_aload_n (pc := 19) hX d_N_failDown_19 rfl ?_
    refine ow_iconst (pc := 20) (v := nI 0) hX d_N_failDown_20 (by decide) ?_
    refine ow_pN (pc := 21) hX (kd_N Y n s c) 11 d_N_failDown_21 kw_83 rfl (by show _ < n; first | assumption | omega) rfl (by decide +kernel) ?_
    refine ow_aload_n (pc := 24) hX d_N_failDown_24 rfl ?_
    refine ow_gO (pc := 25) hX (kd_N Y n s c) 3 d_N_failDown_25 kw_68 rfl (by show _ < n; first | assumption | omega) ?_
    refine ow_callV (pc := 28) hX (kd_F Y n s c) (by show _ < 2 * n; first | assumption | omega) (c_F_dropFirst _ Y n s c hV _ (2 * i + 1) (by omega) (by simpa [un_1] using hs)) (cw_V hX mz_F_dropFirst kw_450 ⟨rfl, rfl⟩ (by decide)) rfl (Nat.le_of_ble_eq_true rfl) d_N_failDown_28 rfl ?_
    exact ow_vret (pc := 31) hX d_N_failDown_31 rfl (by first | rfl | ((try simp only [kc_failDown]); (repeat' split) <;> first | rfl | omega | (simp_all; done) | (simp_all; omega)))
set_option maxRecDepth 100000 in
set_option maxHeartbeats 4000000 in
theorem c_P_kindOf (l : Launch) (Y : YY) (n s c : Nat) (hV : pv_ok (vC Y n s c)) (u : UU) (a : Nat) (ha : a < 2 ^ 31) : Ct l (vC Y n s c) ⟨"SlottedMesh$Plan", "kindOf", "(I)I"⟩ (wz ⟨"SlottedMesh$Plan", "kindOf", "(I)I"⟩ b_P_kindOf 1 (some .int)) (rd 0) [.int (nI a)] u (some (.int (nI (a / 100 * 100)))) (u) := by
  refine ct_mk hV (by decide +kernel) (Nat.le_of_ble_eq_true rfl) (fun X hX => ?_)
  have hX : ox X (vC Y n s c) (rd 0) b_P_kindOf 1 "SlottedMesh$Plan" gz (some .int) := hX
  show ow X (vC Y n s c) (some (.int (nI (a / 100 * 100)))) (u) u [(0, .int (nI a))] 0 []
  refine ow_iload_n (pc := 0) hX d_P_kindOf_0 rfl ?_
  refine ow_bipush (pc := 1) (v := nI 100) hX d_P_kindOf_1 (by decide) ?_
  refine ow_divn (pc := 3) hX d_P_kindOf_3 (by first | assumption | omega) (by first | assumption | omega) (by first | assumption | omega) ?_
  refine ow_bipush (pc := 4) (v := nI 100) hX d_P_kindOf_4 (by decide) ?_
  refine ow_muln (pc := 6) hX d_P_kindOf_6 ?_
  exact ow_iret (pc := 7) hX d_P_kindOf_7 (by rfl) (by rfl)
set_option maxRecDepth 100000 in
set_option maxHeartbeats 4000000 in
theorem c_P_fromOf (l : Launch) (Y : YY) (n s c : Nat) (hV : pv_ok (vC Y n s c)) (u : UU) (a : Nat) (ha : a < 2 ^ 31) : Ct l (vC Y n s c) ⟨"SlottedMesh$Plan", "fromOf", "(I)I"⟩ (wz ⟨"SlottedMesh$Plan", "fromOf", "(I)I"⟩ b_P_fromOf 1 (some .int)) (rd 0) [.int (nI a)] u (some (.int (nI (a / 10 % 10)))) (u) := by
  refine ct_mk hV (by decide +kernel) (Nat.le_of_ble_eq_true rfl) (fun X hX => ?_)
  have hX : ox X (vC Y n s c) (rd 0) b_P_fromOf 1 "SlottedMesh$Plan" gz (some .int) := hX
  show ow X (vC Y n s c) (some (.int (nI (a / 10 % 10)))) (u) u [(0, .int (nI a))] 0 []
  refine ow_iload_n (pc := 0) hX d_P_fromOf_0 rfl ?_
  refine ow_bipush (pc := 1) (v := nI 10) hX d_P_fromOf_1 (by decide) ?_
  refine ow_divn (pc := 3) hX d_P_fromOf_3 (by first | assumption | omega) (by first | assumption | omega) (by first | assumption | omega) ?_
  refine ow_bipush (pc := 4) (v := nI 10) hX d_P_fromOf_4 (by decide) ?_
  refine ow_remn (pc := 6) hX d_P_fromOf_6 (by first | assumption | omega) (by first | assumption | omega) (by first | assumption | omega) ?_
  exact ow_iret (pc := 7) hX d_P_fromOf_7 (by rfl) (by rfl)
set_option maxRecDepth 100000 in
set_option maxHeartbeats 4000000 in
theorem c_P_toOf (l : Launch) (Y : YY) (n s c : Nat) (hV : pv_ok (vC Y n s c)) (u : UU) (a : Nat) (ha : a < 2 ^ 31) : Ct l (vC Y n s c) ⟨"SlottedMesh$Plan", "toOf", "(I)I"⟩ (wz ⟨"SlottedMesh$Plan", "toOf", "(I)I"⟩ b_P_toOf 1 (some .int)) (rd 0) [.int (nI a)] u (some (.int (nI (a % 10)))) (u) := by
  refine ct_mk hV (by decide +kernel) (Nat.le_of_ble_eq_true rfl) (fun X hX => ?_)
  have hX : ox X (vC Y n s c) (rd 0) b_P_toOf 1 "SlottedMesh$Plan" gz (some .int) := hX
  show ow X (vC Y n s c) (some (.int (nI (a % 10)))) (u) u [(0, .int (nI a))] 0 []
  refine ow_iload_n (pc := 0) hX d_P_toOf_0 rfl ?_
  refine ow_bipush (pc := 1) (v := nI 10) hX d_P_toOf_1 (by decide) ?_
  refine ow_remn (pc := 3) hX d_P_toOf_3 (by first | assumption | omega) (by first | assumption | omega) (by first | assumption | omega) ?_
  exact ow_iret (pc := 4) hX d_P_toOf_4 (by rfl) (by rfl)
set_option maxRecDepth 100000 in
set_option maxHeartbeats 4000000 in
theorem c_P_codeAt (l : Launch) (Y : YY) (n s c : Nat) (hV : pv_ok (vC Y n s c)) (u : UU) (p a b : Nat) (hp : p < 2) (ha : a < s) (hb : b < c) : Ct l (vC Y n s c) ⟨"SlottedMesh$Plan", "codeAt", "(II)I"⟩ (wz ⟨"SlottedMesh$Plan", "codeAt", "(II)I"⟩ b_P_codeAt 3 (some .int)) (rd 0) [.ref (pv_ad (vC Y n s c) 15 p), .int (nI a), .int (nI b)] u (some (.int (nI (u.1 20 p (a * c + b))))) (u) := by
  refine ct_mk hV (by decide +kernel) (Nat.le_of_ble_eq_true rfl) (fun X hX => ?_)
  have hX : ox X (vC Y n s c) (rd 0) b_P_codeAt 3 "SlottedMesh$Plan" gz (some .int) := hX
  show ow X (vC Y n s c) (some (.int (nI (u.1 20 p (a * c + b))))) (u) u [(0, .ref (pv_ad (vC Y n s c) 15 p)), (1, .int (nI a)), (2, .int (nI b))] 0 []
  refine ow_aload_n (pc := 0) hX d_P_codeAt_0 rfl ?_
  refine ow_gR (pc := 1) hX (kd_P Y n s c) 6 d_P_codeAt_1 kw_177 rfl (by show _ < 2; first | assumption | exact ix_lt ha hb | omega) ?_
  refine ow_iload_n (pc := 4) hX d_P_codeAt_4 rfl ?_
  refine ow_aload_n (pc := 5) hX d_P_codeAt_5 rfl ?_
  refine ow_gK (pc := 6) hX (kd_P Y n s c) 1 d_P_codeAt_6 kw_169 rfl (by show _ < 2; first | assumption | exact ix_lt ha hb | omega) ?_
  refine ow_muln (pc := 9) hX d_P_codeAt_9 ?_
  refine ow_iload_n (pc := 10) hX d_P_codeAt_10 rfl ?_
  refine ow_addn (pc := 11) hX d_P_codeAt_11 ?_
  refine ow_aN (pc := 12) hX rfl d_P_codeAt_12 (by show _ < 2; first | assumption | exact ix_lt ha hb | omega) (by show _ < s * c; first | assumption | exact ix_lt ha hb | omega) ?_
  exact ow_iret (pc := 13) hX d_P_codeAt_13 (by rfl) (by rfl)
/-- does a cell have to do with node x -/
def ktouch (a x : Nat) : Nat := if a / 10 % 10 = x then 1 else if a % 10 = x then 1 else 0
theorem ktouch_le (a x : Nat) : ktouch a x ≤ 1 := by unfold ktouch; split <;> (try split) <;> omega
set_option maxRecDepth 100000 in
set_option maxHeartbeats 4000000 in
theorem c_P_touches (l : Launch) (Y : YY) (n s c : Nat) (hV : pv_ok (vC Y n s c)) (u : UU) (a x : Nat) (ha : a < 2 ^ 31) (hx : x < 2 ^ 31) : Ct l (vC Y n s c) ⟨"SlottedMesh$Plan", "touches", "(II)Z"⟩ (wz ⟨"SlottedMesh$Plan", "touches", "(II)Z"⟩ b_P_touches 2 (some .boolean)) (rd 1) [.int (nI a), .int (nI x)] u (some (.int (nI (ktouch a x)))) (u) := by
  refine ct_mk hV (by decide +kernel) (Nat.le_of_ble_eq_true rfl) (fun X hX => ?_)
  have hX : ox X (vC Y n s c) (rd 1) b_P_touches 2 "SlottedMesh$Plan" gz (some .boolean) := hX
  show ow X (vC Y n s c) (some (.int (nI (ktouch a x)))) (u) u [(0, .int (nI a)), (1, .int (nI x))] 0 []
  refine ow_iload_n (pc := 0) hX d_P_touches_0 rfl ?_
  refine ow_callS (pc := 1) hX (c_P_fromOf _ Y n s c hV _ a ha) (cw_S hX mz_P_fromOf kw_294 ⟨rfl, rfl⟩ (by decide)) rfl (Nat.le_of_ble_eq_true rfl) d_P_touches_1 rfl ?_
  refine ow_iload_n (pc := 4) hX d_P_touches_4 rfl ?_
  refine ow_nc_eq (pc := 5) (tgt := 16) hX d_P_touches_5 (by decide) (by first | assumption | omega) (by first | assumption | omega) (fun h5 => ?_) (fun h5 => ?_)
  · skip
    refine ow_iconst (pc := 16) (v := nI 1) hX d_P_touches_16 (by decide) ?_
    refine ow_goto (pc := 17) (tgt := 21) hX d_P_touches_17 (by decide) ?_
    exact ow_zret (pc := 21) hX d_P_touches_21 (nb_01 (by first | decide | assumption | omega | exact kbit_le _ _)) (by first | rfl | ((try simp only [ktouch]); (repeat' split) <;> first | rfl | omega | (simp_all; done) | (simp_all; omega))) (by first | rfl | ((try simp only [ktouch]); (repeat' split) <;> first | rfl | omega | (simp_all; done) | (simp_all; omega)))
  · skip
    refine ow_iload_n (pc := 8) hX d_P_touches_8 rfl ?_
    refine ow_callS (pc := 9) hX (c_P_toOf _ Y n s c hV _ a ha) (cw_S hX mz_P_toOf kw_297 ⟨rfl, rfl⟩ (by decide)) rfl (Nat.le_of_ble_eq_true rfl) d_P_touches_9 rfl ?_
    refine ow_iload_n (pc := 12) hX d_P_touches_12 rfl ?_
    refine ow_nc_ne (pc := 13) (tgt := 20) hX d_P_touches_13 (by decide) (by first | assumption | omega) (by first | assumption | omega) (fun h13 => ?_) (fun h13 => ?_)
    · skip
      refine ow_iconst (pc := 20) (v := nI 0) hX d_P_touches_20 (by decide) ?_
      exact ow_zret (pc := 21) hX d_P_touches_21 (nb_01 (by first | decide | assumption | omega | exact kbit_le _ _)) (by first | rfl | ((try simp only [ktouch]); (repeat' split) <;> first | rfl | omega | (simp_all; done) | (simp_all; omega))) (by first | rfl | ((try simp only [ktouch]); (repeat' split) <;> first | rfl | omega | (simp_all; done) | (simp_all; omega)))
    · skip
      refine ow_iconst (pc := 16) (v := nI 1) hX d_P_touches_16 (by decide) ?_
      refine ow_goto (pc := 17) (tgt := 21) hX d_P_touches_17 (by decide) ?_
      exact ow_zret (pc := 21) hX d_P_touches_21 (nb_01 (by first | decide | assumption | omega | exact kbit_le _ _)) (by first | rfl | ((try simp only [ktouch]); (repeat' split) <;> first | rfl | omega | (simp_all; done) | (simp_all; omega))) (by first | rfl | ((try simp only [ktouch]); (repeat' split) <;> first | rfl | omega | (simp_all; done) | (simp_all; omega)))
end
section
/-! Plan: searches and places (by program, wip/whole/gen/c3.py) -/
/-- a near node of a rank -/
def knr (u : UU) (p i : Nat) (rk : Int32) : Nat → Bool := fun k => decide (u.1 7 i k ≠ 0 ∧ u.2.1 16 p k = rk)
def kc_next (n : Nat) (u : UU) (p i : Nat) (rk : Int32) (f : Nat) : Option Nat := fnd (knr u p i rk) (n - f) f
theorem knr_t {u : UU} {p i k : Nat} {rk : Int32} (h1 : ¬ u.1 7 i k = 0) (h2 : u.2.1 16 p k = rk) : knr u p i rk k = true := decide_eq_true ⟨h1, h2⟩
theorem knr_f1 {u : UU} {p i k : Nat} {rk : Int32} (h1 : u.1 7 i k = 0) : knr u p i rk k = false := decide_eq_false (fun h => h.1 h1)
theorem knr_f2 {u : UU} {p i k : Nat} {rk : Int32} (h2 : ¬ u.2.1 16 p k = rk) : knr u p i rk k = false := decide_eq_false (fun h => h2 h.2)
theorem fnd_t {p : Nat → Bool} {j k : Nat} (h : p k = true) : fnd p (j + 1) k = some k := by unfold fnd; rw [if_pos h]
theorem fnd_f {p : Nat → Bool} {j k : Nat} (h : p k = false) : fnd p (j + 1) k = fnd p j (k + 1) := by
  rw [fnd, if_neg (by rw [h]; decide)]
set_option maxRecDepth 100000 in
set_option maxHeartbeats 4000000 in
theorem w_P_next {X : OX} (Y : YY) (n s c : Nat) (hX : ox X (vC Y n s c) (rd 0) b_P_nextNearOfRank 5 "SlottedMesh$Plan" gz (some .int)) (u : UU) (p i : Nat) (rk : Int32) (f : Nat) (hp : p < 2) (hi : i < n) (hz : ∀ a b, u.1 7 a b ≤ 1) (hn : n ≤ 6) : ∀ j k, k + j = n → ow X (vC Y n s c) (some (.int (io (fnd (knr u p i rk) j k)))) u u [(0, .ref (pv_ad (vC Y n s c) 15 p)), (1, .ref (pv_ad (vC Y n s c) 4 i)), (2, .int rk), (3, .int (nI f)), (4, .int (nI k))] 3 [] := by
  intro j
  induction j with
  | zero =>
    intro k hk
    refine ow_iload (pc := 3) hX d_P_nextNearOfRank_3 rfl ?_
    refine ow_aload_n (pc := 5) hX d_P_nextNearOfRank_5 rfl ?_
    refine ow_gR (pc := 6) hX (kd_P Y n s c) 2 d_P_nextNearOfRank_6 kw_170 rfl (by show _ < 2; first | assumption | omega) ?_
    refine ow_len (pc := 9) hX rfl (by decide) d_P_nextNearOfRank_9 (by show _ < 2; first | assumption | omega) ?_
    refine ow_st (st2 := .int (nI (n)) :: _) rfl ?_
    refine ow_nc_ge (pc := 10) (tgt := 43) hX d_P_nextNearOfRank_10 (by decide) (by first | assumption | omega | (have := hz i k; omega)) (by first | assumption | omega | (have := hz i k; omega)) (fun h10 => ?_) (fun h10 => ?_)
    · skip
      refine ow_iconst (pc := 43) (v := (-1)) hX d_P_nextNearOfRank_43 (by decide) ?_
      exact ow_iret (pc := 44) hX d_P_nextNearOfRank_44 (by first | rfl | (unfold fnd; rfl)) (by first | rfl | (unfold fnd; rfl))
    · skip
      exact absurd h10 (by omega)
  | succ j ih =>
    intro k hk
    refine ow_iload (pc := 3) hX d_P_nextNearOfRank_3 rfl ?_
    refine ow_aload_n (pc := 5) hX d_P_nextNearOfRank_5 rfl ?_
    refine ow_gR (pc := 6) hX (kd_P Y n s c) 2 d_P_nextNearOfRank_6 kw_170 rfl (by show _ < 2; first | assumption | omega) ?_
    refine ow_len (pc := 9) hX rfl (by decide) d_P_nextNearOfRank_9 (by show _ < 2; first | assumption | omega) ?_
    refine ow_st (st2 := .int (nI (n)) :: _) rfl ?_
    refine ow_nc_ge (pc := 10) (tgt := 43) hX d_P_nextNearOfRank_10 (by decide) (by first | assumption | omega | (have := hz i k; omega)) (by first | assumption | omega | (have := hz i k; omega)) (fun h10 => ?_) (fun h10 => ?_)
    · skip
      exact absurd h10 (by omega)
    · skip
      refine ow_aload_n (pc := 13) hX d_P_nextNearOfRank_13 rfl ?_
      refine ow_gR (pc := 14) hX (kd_N Y n s c) 1 d_P_nextNearOfRank_14 kw_65 rfl (by show _ < n; first | assumption | omega) ?_
      refine ow_iload (pc := 17) hX d_P_nextNearOfRank_17 rfl ?_
      refine ow_aZ (pc := 19) hX rfl d_P_nextNearOfRank_19 (by show _ < n; first | assumption | omega) (by show _ < n; first | assumption | omega) ?_
      refine ow_nz_eq (pc := 20) (tgt := 37) hX d_P_nextNearOfRank_20 (by decide) (by first | assumption | omega | (have := hz i k; omega)) (fun h20 => ?_) (fun h20 => ?_)
      · skip
        refine ow_iinc (pc := 37) (l2 := [(0, _), (1, _), (2, _), (3, _), (4, _)]) hX d_P_nextNearOfRank_37 rfl (ii_1 _) (by decide) rfl rfl ?_
        refine ow_goto (pc := 40) (tgt := 3) hX d_P_nextNearOfRank_40 (by decide) ?_
        first | rw [fnd_f (knr_f1 h20)] | rw [fnd_f (knr_f2 h31)]
        exact ih (k + 1) (by omega)
      · skip
        refine ow_aload_n (pc := 23) hX d_P_nextNearOfRank_23 rfl ?_
        refine ow_gR (pc := 24) hX (kd_P Y n s c) 2 d_P_nextNearOfRank_24 kw_170 rfl (by show _ < 2; first | assumption | omega) ?_
        refine ow_iload (pc := 27) hX d_P_nextNearOfRank_27 rfl ?_
        refine ow_aI (pc := 29) hX rfl d_P_nextNearOfRank_29 (by show _ < 2; first | assumption | omega) (by show _ < n; first | assumption | omega) ?_
        refine ow_iload_n (pc := 30) hX d_P_nextNearOfRank_30 rfl ?_
        refine ow_ic_ne (pc := 31) (tgt := 37) hX d_P_nextNearOfRank_31 (by decide) (fun h31 => ?_) (fun h31 => ?_)
        · skip
          refine ow_iinc (pc := 37) (l2 := [(0, _), (1, _), (2, _), (3, _), (4, _)]) hX d_P_nextNearOfRank_37 rfl (ii_1 _) (by decide) rfl rfl ?_
          refine ow_goto (pc := 40) (tgt := 3) hX d_P_nextNearOfRank_40 (by decide) ?_
          first | rw [fnd_f (knr_f1 h20)] | rw [fnd_f (knr_f2 h31)]
          exact ih (k + 1) (by omega)
        · skip
          refine ow_iload (pc := 34) hX d_P_nextNearOfRank_34 rfl ?_
          exact ow_iret (pc := 36) hX d_P_nextNearOfRank_36 (by first | rfl | rw [fnd_t (knr_t h20 h31)]; rfl) (by first | rfl | rw [fnd_t (knr_t h20 h31)]; rfl)
set_option maxRecDepth 100000 in
set_option maxHeartbeats 4000000 in
theorem c_P_nextNearOfRank (l : Launch) (Y : YY) (n s c : Nat) (hV : pv_ok (vC Y n s c)) (u : UU) (p i : Nat) (rk : Int32) (f : Nat) (hp : p < 2) (hi : i < n) (hz : ∀ a b, u.1 7 a b ≤ 1) (hn : n ≤ 6) (hf : f ≤ n) : Ct l (vC Y n s c) ⟨"SlottedMesh$Plan", "nextNearOfRank", "(LSlottedMesh$Node;II)I"⟩ (wz ⟨"SlottedMesh$Plan", "nextNearOfRank", "(LSlottedMesh$Node;II)I"⟩ b_P_nextNearOfRank 5 (some .int)) (rd 0) [.ref (pv_ad (vC Y n s c) 15 p), .ref (pv_ad (vC Y n s c) 4 i), .int rk, .int (nI f)] u (some (.int (io (kc_next n u p i rk f)))) (u) := by
  refine ct_mk hV (by decide +kernel) (Nat.le_of_ble_eq_true rfl) (fun X hX => ?_)
  have hX : ox X (vC Y n s c) (rd 0) b_P_nextNearOfRank 5 "SlottedMesh$Plan" gz (some .int) := hX
  show ow X (vC Y n s c) (some (.int (io (kc_next n u p i rk f)))) (u) u [(0, .ref (pv_ad (vC Y n s c) 15 p)), (1, .ref (pv_ad (vC Y n s c) 4 i)), (2, .int rk), (3, .int (nI f))] 0 []
  refine ow_iload_n (pc := 0) hX d_P_nextNearOfRank_0 rfl ?_
  refine ow_istore (pc := 1) (l2 := [(0, _), (1, _), (2, _), (3, _), (4, _)]) hX d_P_nextNearOfRank_1 (by decide) rfl rfl ?_
  exact w_P_next Y n s c hX u p i rk f hp hi hz hn (n - f) f (by omega)
def kc_fill (c : Nat) (u : UU) (p a x : Nat) : UU := fo (fun k w => un w 20 p (a * c + k) x) u c
set_option maxRecDepth 100000 in
set_option maxHeartbeats 4000000 in
theorem w_P_fillSlot {X : OX} (Y : YY) (n s c : Nat) (hX : ox X (vC Y n s c) (rd 0) b_P_fillSlot 4 "SlottedMesh$Plan" gz none) (u : UU) (p a x : Nat) (hp : p < 2) (ha : a < s) (hc : c ≤ 4) : ∀ j k, k + j = c → ow X (vC Y n s c) none (fo (fun k w => un w 20 p (a * c + k) x) u c) (fo (fun k w => un w 20 p (a * c + k) x) u k) [(0, .ref (pv_ad (vC Y n s c) 15 p)), (1, .int (nI a)), (2, .int (nI x)), (3, .int (nI k))] 2 [] := by
  intro j
  induction j with
  | zero =>
    intro k hk
    refine ow_iload_n (pc := 2) hX d_P_fillSlot_2 rfl ?_
    refine ow_aload_n (pc := 3) hX d_P_fillSlot_3 rfl ?_
    refine ow_gK (pc := 4) hX (kd_P Y n s c) 1 d_P_fillSlot_4 kw_169 rfl (by show _ < 2; first | assumption | omega) ?_
    refine ow_nc_ge (pc := 7) (tgt := 30) hX d_P_fillSlot_7 (by decide) (by first | assumption | omega) (by first | assumption | omega) (fun h7 => ?_) (fun h7 => ?_)
    · skip
      exact ow_vret (pc := 30) hX d_P_fillSlot_30 rfl (by rw [show c = k by omega])
    · skip
      exact absurd h7 (by omega)
  | succ j ih =>
    intro k hk
    refine ow_iload_n (pc := 2) hX d_P_fillSlot_2 rfl ?_
    refine ow_aload_n (pc := 3) hX d_P_fillSlot_3 rfl ?_
    refine ow_gK (pc := 4) hX (kd_P Y n s c) 1 d_P_fillSlot_4 kw_169 rfl (by show _ < 2; first | assumption | exact ix_lt ha h7 | omega) ?_
    refine ow_nc_ge (pc := 7) (tgt := 30) hX d_P_fillSlot_7 (by decide) (by first | assumption | omega) (by first | assumption | omega) (fun h7 => ?_) (fun h7 => ?_)
    · skip
      exact absurd h7 (by omega)
    · skip
      refine ow_aload_n (pc := 10) hX d_P_fillSlot_10 rfl ?_
      refine ow_gR (pc := 11) hX (kd_P Y n s c) 6 d_P_fillSlot_11 kw_177 rfl (by show _ < 2; first | assumption | exact ix_lt ha h7 | omega) ?_
      refine ow_iload_n (pc := 14) hX d_P_fillSlot_14 rfl ?_
      refine ow_aload_n (pc := 15) hX d_P_fillSlot_15 rfl ?_
      refine ow_gK (pc := 16) hX (kd_P Y n s c) 1 d_P_fillSlot_16 kw_169 rfl (by show _ < 2; first | assumption | exact ix_lt ha h7 | omega) ?_
      refine ow_muln (pc := 19) hX d_P_fillSlot_19 ?_
      refine ow_iload_n (pc := 20) hX d_P_fillSlot_20 rfl ?_
      refine ow_addn (pc := 21) hX d_P_fillSlot_21 ?_
      refine ow_iload_n (pc := 22) hX d_P_fillSlot_22 rfl ?_
      refine ow_sN (pc := 23) hX rfl d_P_fillSlot_23 (by show _ < 2; first | assumption | exact ix_lt ha h7 | omega) (by show _ < s * c; first | assumption | exact ix_lt ha h7 | omega) ?_
      refine ow_iinc (pc := 24) (l2 := [(0, _), (1, _), (2, _), (3, _)]) hX d_P_fillSlot_24 rfl (ii_1 _) (by decide) rfl rfl ?_
      refine ow_goto (pc := 27) (tgt := 2) hX d_P_fillSlot_27 (by decide) ?_
      exact ih (k + 1) (by omega)
set_option maxRecDepth 100000 in
set_option maxHeartbeats 4000000 in
theorem c_P_fillSlot (l : Launch) (Y : YY) (n s c : Nat) (hV : pv_ok (vC Y n s c)) (u : UU) (p a x : Nat) (hp : p < 2) (ha : a < s) (hc : c ≤ 4) : Ct l (vC Y n s c) ⟨"SlottedMesh$Plan", "fillSlot", "(II)V"⟩ (wz ⟨"SlottedMesh$Plan", "fillSlot", "(II)V"⟩ b_P_fillSlot 4 none) (rd 0) [.ref (pv_ad (vC Y n s c) 15 p), .int (nI a), .int (nI x)] u none (kc_fill c u p a x) := by
  refine ct_mk hV (by decide +kernel) (Nat.le_of_ble_eq_true rfl) (fun X hX => ?_)
  have hX : ox X (vC Y n s c) (rd 0) b_P_fillSlot 4 "SlottedMesh$Plan" gz none := hX
  show ow X (vC Y n s c) none (kc_fill c u p a x) u [(0, .ref (pv_ad (vC Y n s c) 15 p)), (1, .int (nI a)), (2, .int (nI x))] 0 []
  refine ow_iconst (pc := 0) (v := nI 0) hX d_P_fillSlot_0 (by decide) ?_
  refine ow_istore_n (pc := 1) (l2 := [(0, _), (1, _), (2, _), (3, _)]) hX d_P_fillSlot_1 (by decide) rfl rfl ?_
  exact w_P_fillSlot Y n s c hX u p a x hp ha hc c 0 (by omega)
/-- the least free channel of slot a for a cell of x and y; j channels from k on are left -/
def kfree (g : Nat → Nat) (c a x y : Nat) : Nat → Nat → Option Nat
  | 0, _ => none
  | j + 1, k => if g (a * c + k) = 0 then some k else if g (a * c + k) / 100 * 100 = 100 then none else if ktouch (g (a * c + k)) x ≠ 0 then none else if ktouch (g (a * c + k)) y ≠ 0 then none else kfree g c a x y j (k + 1)
theorem kfree_lt {g : Nat → Nat} {c a x y j k b : Nat} (h : kfree g c a x y j k = some b) (hk : k + j = c) : b < c := by
  induction j generalizing k with
  | zero => cases h
  | succ j ih =>
    unfold kfree at h
    split at h
    · cases h; omega
    · split at h
      · cases h
      · split at h
        · cases h
        · split at h
          · cases h
          · exact ih h (by omega)
set_option maxRecDepth 100000 in
set_option maxHeartbeats 4000000 in
theorem w_P_free {X : OX} (Y : YY) (n s c : Nat) (hX : ox X (vC Y n s c) (rd 2) b_P_freeChannel 6 "SlottedMesh$Plan" gz (some .int)) (hV : pv_ok (vC Y n s c)) (u : UU) (p a x y : Nat) (hp : p < 2) (ha : a < s) (hc : c ≤ 4) (hx : x < 10) (hy : y < 10) (hg : ∀ q, u.1 20 p q < 400) : ∀ j k, k + j = c → ow X (vC Y n s c) (some (.int (io (kfree (fun q => u.1 20 p q) c a x y j k)))) u u [(0, .ref (pv_ad (vC Y n s c) 15 p)), (1, .int (nI a)), (2, .int (nI x)), (3, .int (nI y)), (4, .int (nI k))] 3 [] := by
  intro j
  induction j with
  | zero =>
    intro k hk
    refine ow_iload (pc := 3) hX d_P_freeChannel_3 rfl ?_
    refine ow_aload_n (pc := 5) hX d_P_freeChannel_5 rfl ?_
    refine ow_gK (pc := 6) hX (kd_P Y n s c) 1 d_P_freeChannel_6 kw_169 rfl (by show _ < 2; first | assumption | omega) ?_
    refine ow_nc_ge (pc := 9) (tgt := 65) hX d_P_freeChannel_9 (by decide) (by first | assumption | omega | (have := hg (a * c + k); omega) | (have := ktouch_le (u.1 20 p (a * c + k)) x; have := ktouch_le (u.1 20 p (a * c + k)) y; omega)) (by first | assumption | omega | (have := hg (a * c + k); omega) | (have := ktouch_le (u.1 20 p (a * c + k)) x; have := ktouch_le (u.1 20 p (a * c + k)) y; omega)) (fun h9 => ?_) (fun h9 => ?_)
    · skip
      refine ow_iconst (pc := 65) (v := (-1)) hX d_P_freeChannel_65 (by decide) ?_
      exact ow_iret (pc := 66) hX d_P_freeChannel_66 (by first | rfl | (unfold kfree; rfl)) (by first | rfl | (unfold kfree; rfl))
    · skip
      exact absurd h9 (by omega)
  | succ j ih =>
    intro k hk
    refine ow_iload (pc := 3) hX d_P_freeChannel_3 rfl ?_
    refine ow_aload_n (pc := 5) hX d_P_freeChannel_5 rfl ?_
    refine ow_gK (pc := 6) hX (kd_P Y n s c) 1 d_P_freeChannel_6 kw_169 rfl (by show _ < 2; first | assumption | omega) ?_
    refine ow_nc_ge (pc := 9) (tgt := 65) hX d_P_freeChannel_9 (by decide) (by first | assumption | omega | (have := hg (a * c + k); omega) | (have := ktouch_le (u.1 20 p (a * c + k)) x; have := ktouch_le (u.1 20 p (a * c + k)) y; omega)) (by first | assumption | omega | (have := hg (a * c + k); omega) | (have := ktouch_le (u.1 20 p (a * c + k)) x; have := ktouch_le (u.1 20 p (a * c + k)) y; omega)) (fun h9 => ?_) (fun h9 => ?_)
    · skip
      exact absurd h9 (by omega)
    · skip
      refine ow_aload_n (pc := 12) hX d_P_freeChannel_12 rfl ?_
      refine ow_iload_n (pc := 13) hX d_P_freeChannel_13 rfl ?_
      refine ow_iload (pc := 14) hX d_P_freeChannel_14 rfl ?_
      refine ow_callV (pc := 16) hX (kd_P Y n s c) (by show _ < 2; first | assumption | omega) (c_P_codeAt _ Y n s c hV u p a k hp ha h9) (cw_V hX mz_P_codeAt kw_268 ⟨rfl, rfl⟩ (by decide)) rfl (Nat.le_of_ble_eq_true rfl) d_P_freeChannel_16 rfl ?_
      refine ow_istore (pc := 19) (l2 := [(0, _), (1, _), (2, _), (3, _), (4, _), (5, _)]) hX d_P_freeChannel_19 (by decide) rfl rfl ?_
      refine ow_iload (pc := 21) hX d_P_freeChannel_21 rfl ?_
      refine ow_nz_ne (pc := 23) (tgt := 29) hX d_P_freeChannel_23 (by decide) (by first | assumption | omega | (have := hg (a * c + k); omega) | (have := ktouch_le (u.1 20 p (a * c + k)) x; have := ktouch_le (u.1 20 p (a * c + k)) y; omega)) (fun h23 => ?_) (fun h23 => ?_)
      · skip
        refine ow_iload (pc := 29) hX d_P_freeChannel_29 rfl ?_
        refine ow_callS (pc := 31) hX (c_P_kindOf _ Y n s c hV u (u.1 20 p (a * c + k)) (by have := hg (a * c + k); omega)) (cw_S hX mz_P_kindOf kw_288 ⟨rfl, rfl⟩ (by decide)) rfl (Nat.le_of_ble_eq_true rfl) d_P_freeChannel_31 rfl ?_
        refine ow_bipush (pc := 34) (v := nI 100) hX d_P_freeChannel_34 (by decide) ?_
        refine ow_nc_eq (pc := 36) (tgt := 57) hX d_P_freeChannel_36 (by decide) (by first | assumption | omega | (have := hg (a * c + k); omega) | (have := ktouch_le (u.1 20 p (a * c + k)) x; have := ktouch_le (u.1 20 p (a * c + k)) y; omega)) (by first | assumption | omega | (have := hg (a * c + k); omega) | (have := ktouch_le (u.1 20 p (a * c + k)) x; have := ktouch_le (u.1 20 p (a * c + k)) y; omega)) (fun h36 => ?_) (fun h36 => ?_)
        · skip
          refine ow_iconst (pc := 57) (v := (-1)) hX d_P_freeChannel_57 (by decide) ?_
          exact ow_iret (pc := 58) hX d_P_freeChannel_58 (by first | rfl | (simp only [kfree]; simp [*]; done) | (simp only [kfree]; simp [*]; rfl)) (by first | rfl | (simp only [kfree]; simp [*]; done) | (simp only [kfree]; simp [*]; rfl))
        · skip
          refine ow_iload (pc := 39) hX d_P_freeChannel_39 rfl ?_
          refine ow_iload_n (pc := 41) hX d_P_freeChannel_41 rfl ?_
          refine ow_callS (pc := 42) hX (c_P_touches _ Y n s c hV u (u.1 20 p (a * c + k)) x (by have := hg (a * c + k); omega) (by omega)) (cw_S hX mz_P_touches kw_291 ⟨rfl, rfl⟩ (by decide)) rfl (Nat.le_of_ble_eq_true rfl) d_P_freeChannel_42 rfl ?_
          refine ow_nz_ne (pc := 45) (tgt := 57) hX d_P_freeChannel_45 (by decide) (by first | assumption | omega | (have := hg (a * c + k); omega) | (have := ktouch_le (u.1 20 p (a * c + k)) x; have := ktouch_le (u.1 20 p (a * c + k)) y; omega)) (fun h45 => ?_) (fun h45 => ?_)
          · skip
            refine ow_iconst (pc := 57) (v := (-1)) hX d_P_freeChannel_57 (by decide) ?_
            exact ow_iret (pc := 58) hX d_P_freeChannel_58 (by first | rfl | (simp only [kfree]; simp [*]; done) | (simp only [kfree]; simp [*]; rfl)) (by first | rfl | (simp only [kfree]; simp [*]; done) | (simp only [kfree]; simp [*]; rfl))
          · skip
            refine ow_iload (pc := 48) hX d_P_freeChannel_48 rfl ?_
            refine ow_iload_n (pc := 50) hX d_P_freeChannel_50 rfl ?_
            refine ow_callS (pc := 51) hX (c_P_touches _ Y n s c hV u (u.1 20 p (a * c + k)) y (by have := hg (a * c + k); omega) (by omega)) (cw_S hX mz_P_touches kw_291 ⟨rfl, rfl⟩ (by decide)) rfl (Nat.le_of_ble_eq_true rfl) d_P_freeChannel_51 rfl ?_
            refine ow_nz_eq (pc := 54) (tgt := 59) hX d_P_freeChannel_54 (by decide) (by first | assumption | omega | (have := hg (a * c + k); omega) | (have := ktouch_le (u.1 20 p (a * c + k)) x; have := ktouch_le (u.1 20 p (a * c + k)) y; omega)) (fun h54 => ?_) (fun h54 => ?_)
            · skip
              refine ow_iinc (pc := 59) (l2 := [(0, _), (1, _), (2, _), (3, _), (4, _), (5, _)]) hX d_P_freeChannel_59 rfl (ii_1 _) (by decide) rfl rfl ?_
              refine ow_goto (pc := 62) (tgt := 3) hX d_P_freeChannel_62 (by decide) ?_
              have e : kfree (fun q => u.1 20 p q) c a x y (j + 1) k = kfree (fun q => u.1 20 p q) c a x y j (k + 1) := by simp only [kfree]; simp [*]
              rw [e]
              refine ow_loc (l2 := [(0, _), (1, _), (2, _), (3, _), (4, _)]) (fun q hq => by simp only [List.mem_cons, List.not_mem_nil, or_false] at hq ⊢; rcases hq with rfl | rfl | rfl | rfl | rfl <;> simp) (ih (k + 1) (by omega))
            · skip
              refine ow_iconst (pc := 57) (v := (-1)) hX d_P_freeChannel_57 (by decide) ?_
              exact ow_iret (pc := 58) hX d_P_freeChannel_58 (by first | rfl | (simp only [kfree]; simp [*]; done) | (simp only [kfree]; simp [*]; rfl)) (by first | rfl | (simp only [kfree]; simp [*]; done) | (simp only [kfree]; simp [*]; rfl))
      · skip
        refine ow_iload (pc := 26) hX d_P_freeChannel_26 rfl ?_
        exact ow_iret (pc := 28) hX d_P_freeChannel_28 (by first | rfl | (simp only [kfree]; simp [*]; done) | (simp only [kfree]; simp [*]; rfl)) (by first | rfl | (simp only [kfree]; simp [*]; done) | (simp only [kfree]; simp [*]; rfl))
set_option maxRecDepth 100000 in
set_option maxHeartbeats 4000000 in
theorem c_P_freeChannel (l : Launch) (Y : YY) (n s c : Nat) (hV : pv_ok (vC Y n s c)) (u : UU) (p a x y : Nat) (hp : p < 2) (ha : a < s) (hc : c ≤ 4) (hx : x < 10) (hy : y < 10) (hg : ∀ q, u.1 20 p q < 400) : Ct l (vC Y n s c) ⟨"SlottedMesh$Plan", "freeChannel", "(III)I"⟩ (wz ⟨"SlottedMesh$Plan", "freeChannel", "(III)I"⟩ b_P_freeChannel 6 (some .int)) (rd 2) [.ref (pv_ad (vC Y n s c) 15 p), .int (nI a), .int (nI x), .int (nI y)] u (some (.int (io (kfree (fun q => u.1 20 p q) c a x y c 0)))) (u) := by
  refine ct_mk hV (by decide +kernel) (Nat.le_of_ble_eq_true rfl) (fun X hX => ?_)
  have hX : ox X (vC Y n s c) (rd 2) b_P_freeChannel 6 "SlottedMesh$Plan" gz (some .int) := hX
  show ow X (vC Y n s c) (some (.int (io (kfree (fun q => u.1 20 p q) c a x y c 0)))) (u) u [(0, .ref (pv_ad (vC Y n s c) 15 p)), (1, .int (nI a)), (2, .int (nI x)), (3, .int (nI y))] 0 []
  refine ow_iconst (pc := 0) (v := nI 0) hX d_P_freeChannel_0 (by decide) ?_
  refine ow_istore (pc := 1) (l2 := [(0, _), (1, _), (2, _), (3, _), (4, _)]) hX d_P_freeChannel_1 (by decide) rfl rfl ?_
  exact w_P_free Y n s c hX hV u p a x y hp ha hc hx hy hg c 0 (by omega)
end
section
/-! Plan: adverts and links (by program, wip/whole/gen/c4.py) -/
theorem nI_m1 {b : Nat} (hb : b < 2 ^ 31) : ¬ nI b = -1 := by
  intro h
  have h1 := congrArg Int32.toInt h
  rw [nI_toInt hb] at h1
  have h2 : (-1 : Int32).toInt = -1 := by decide
  omega
theorem kc_fill_1 (c : Nat) (u : UU) (p a x k i q : Nat) : (kc_fill c u p a x).1 k i q = if k = 20 ∧ i = p ∧ a * c ≤ q ∧ q < a * c + c then x else u.1 k i q := by
  unfold kc_fill
  suffices h : ∀ m, (fo (fun k w => un w 20 p (a * c + k) x) u m).1 k i q = if k = 20 ∧ i = p ∧ a * c ≤ q ∧ q < a * c + m then x else u.1 k i q from h c
  intro m
  induction m with
  | zero =>
    rw [if_neg (by omega)]
    rfl
  | succ m ih =>
    show (un (fo (fun k w => un w 20 p (a * c + k) x) u m) 20 p (a * c + m) x).1 k i q = _
    rw [un_1, ih]
    by_cases h1 : k = 20 ∧ i = p ∧ q = a * c + m
    · rw [if_pos h1, if_pos (by omega)]
    · rw [if_neg h1]
      by_cases h2 : k = 20 ∧ i = p ∧ a * c ≤ q ∧ q < a * c + m
      · rw [if_pos h2, if_pos (by omega)]
      · rw [if_neg h2, if_neg (by omega)]
theorem kc_fill_2 (c : Nat) (u : UU) (p a x : Nat) : (kc_fill c u p a x).2 = u.2 := by
  unfold kc_fill
  suffices h : ∀ m, (fo (fun k w => un w 20 p (a * c + k) x) u m).2 = u.2 from h c
  intro m
  induction m with
  | zero => rfl
  | succ m ih =>
    show (un _ 20 p (a * c + m) x).2 = _
    rw [un_2, ih]
def kadv (c : Nat) (u : UU) (p : Nat) : Nat → Bool := fun a => decide (u.1 20 p (a * c + 0) = 0)
def kc_adv (c : Nat) (u : UU) (p x : Nat) (o : Option Nat) : Nat × UU := match o with
  | some a => (1, un (kc_fill c u p a (100 + 10 * x)) 15 p 7 ((kc_fill c u p a (100 + 10 * x)).1 15 p 7 + 1))
  | none => (0, u)
def kc_advert (s c : Nat) (u : UU) (p x : Nat) : Nat × UU := kc_adv c u p x (fnd (kadv c u p) s 0)
theorem kc_adv_le {c : Nat} {u : UU} {p x : Nat} {o : Option Nat} : (kc_adv c u p x o).1 ≤ 1 := by cases o <;> simp [kc_adv]
set_option maxRecDepth 100000 in
set_option maxHeartbeats 4000000 in
theorem w_P_advert {X : OX} (Y : YY) (n s c : Nat) (hX : ox X (vC Y n s c) (rd 1) b_P_placeAdvert 3 "SlottedMesh$Plan" gz (some .boolean)) (hV : pv_ok (vC Y n s c)) (u : UU) (p x : Nat) (hp : p < 2) (hs : s < 2 ^ 31) (h0 : 0 < c) (hc : c ≤ 4) (hg : ∀ q, u.1 20 p q < 400) : ∀ j k, k + j = s → ow X (vC Y n s c) (some (.int (nI (kc_adv c u p x (fnd (kadv c u p) j k)).1))) (kc_adv c u p x (fnd (kadv c u p) j k)).2 u [(0, .ref (pv_ad (vC Y n s c) 15 p)), (1, .int (nI x)), (2, .int (nI k))] 2 [] := by
  intro j
  induction j with
  | zero =>
    intro k hk
    refine ow_iload_n (pc := 2) hX d_P_placeAdvert_2 rfl ?_
    refine ow_aload_n (pc := 3) hX d_P_placeAdvert_3 rfl ?_
    refine ow_gK (pc := 4) hX (kd_P Y n s c) 0 d_P_placeAdvert_4 kw_168 rfl (by show _ < 2; first | assumption | omega) ?_
    refine ow_nc_ge (pc := 7) (tgt := 49) hX d_P_placeAdvert_7 (by decide) (by first | assumption | omega | (have := hg (k * c + 0); omega)) (by first | assumption | omega | (have := hg (k * c + 0); omega)) (fun h7 => ?_) (fun h7 => ?_)
    · skip
      refine ow_iconst (pc := 49) (v := nI 0) hX d_P_placeAdvert_49 (by decide) ?_
      exact ow_zret (pc := 50) hX d_P_placeAdvert_50 (nb_01 (by first | decide | assumption | omega | exact kbit_le _ _)) (by first | rfl | (unfold fnd; rfl)) (by first | rfl | (unfold fnd; rfl))
    · skip
      exact absurd h7 (by omega)
  | succ j ih =>
    intro k hk
    refine ow_iload_n (pc := 2) hX d_P_placeAdvert_2 rfl ?_
    refine ow_aload_n (pc := 3) hX d_P_placeAdvert_3 rfl ?_
    refine ow_gK (pc := 4) hX (kd_P Y n s c) 0 d_P_placeAdvert_4 kw_168 rfl (by show _ < 2; first | assumption | omega) ?_
    refine ow_nc_ge (pc := 7) (tgt := 49) hX d_P_placeAdvert_7 (by decide) (by first | assumption | omega | (have := hg (k * c + 0); omega)) (by first | assumption | omega | (have := hg (k * c + 0); omega)) (fun h7 => ?_) (fun h7 => ?_)
    · skip
      exact absurd h7 (by omega)
    · skip
      refine ow_aload_n (pc := 10) hX d_P_placeAdvert_10 rfl ?_
      refine ow_iload_n (pc := 11) hX d_P_placeAdvert_11 rfl ?_
      refine ow_iconst (pc := 12) (v := nI 0) hX d_P_placeAdvert_12 (by decide) ?_
      refine ow_callV (pc := 13) hX (kd_P Y n s c) (by show _ < 2; first | assumption | omega) (c_P_codeAt _ Y n s c hV u p k 0 hp h7 h0) (cw_V hX mz_P_codeAt kw_268 ⟨rfl, rfl⟩ (by decide)) rfl (Nat.le_of_ble_eq_true rfl) d_P_placeAdvert_13 rfl ?_
      refine ow_nz_ne (pc := 16) (tgt := 43) hX d_P_placeAdvert_16 (by decide) (by first | assumption | omega | (have := hg (k * c + 0); omega)) (fun h16 => ?_) (fun h16 => ?_)
      · skip
        refine ow_iinc (pc := 43) (l2 := [(0, _), (1, _), (2, _)]) hX d_P_placeAdvert_43 rfl (ii_1 _) (by decide) rfl rfl ?_
        refine ow_goto (pc := 46) (tgt := 2) hX d_P_placeAdvert_46 (by decide) ?_
        rw [fnd_f (decide_eq_false h16)]
        exact ih (k + 1) (by omega)
      · skip
        refine ow_aload_n (pc := 19) hX d_P_placeAdvert_19 rfl ?_
        refine ow_iload_n (pc := 20) hX d_P_placeAdvert_20 rfl ?_
        refine ow_bipush (pc := 21) (v := nI 100) hX d_P_placeAdvert_21 (by decide) ?_
        refine ow_bipush (pc := 23) (v := nI 10) hX d_P_placeAdvert_23 (by decide) ?_
        refine ow_iload_n (pc := 25) hX d_P_placeAdvert_25 rfl ?_
        refine ow_muln (pc := 26) hX d_P_placeAdvert_26 ?_
        refine ow_addn (pc := 27) hX d_P_placeAdvert_27 ?_
        refine ow_callV (pc := 28) hX (kd_P Y n s c) (by show _ < 2; first | assumption | omega) (c_P_fillSlot _ Y n s c hV u p k _ hp h7 hc) (cw_V hX mz_P_fillSlot kw_272 ⟨rfl, rfl⟩ (by decide)) rfl (Nat.le_of_ble_eq_true rfl) d_P_placeAdvert_28 rfl ?_
        refine ow_aload_n (pc := 31) hX d_P_placeAdvert_31 rfl ?_
        refine ow_dup (pc := 32) hX d_P_placeAdvert_32 rfl ?_
        refine ow_gN (pc := 33) hX (kd_P Y n s c) 7 d_P_placeAdvert_33 kw_179 rfl (by show _ < 2; first | assumption | omega) ?_
        try simp only [un_1, un_2, ui_1, ui_2, ui_3, ul_1, ul_2, ul_3, ul_4, ur_1, ur_2, ur_3, ur_4, Nat.reduceEqDiff, false_and, and_false, true_and, and_true, and_self, reduceIte]
        refine ow_iconst (pc := 36) (v := nI 1) hX d_P_placeAdvert_36 (by decide) ?_
        refine ow_addn (pc := 37) hX d_P_placeAdvert_37 ?_
        refine ow_pN (pc := 38) hX (kd_P Y n s c) 7 d_P_placeAdvert_38 kw_179 rfl (by show _ < 2; first | assumption | omega) rfl (by decide +kernel) ?_
        refine ow_iconst (pc := 41) (v := nI 1) hX d_P_placeAdvert_41 (by decide) ?_
        exact ow_zret (pc := 42) hX d_P_placeAdvert_42 (nb_01 (by first | decide | assumption | omega | exact kbit_le _ _)) (by rw [fnd_t (decide_eq_true h16)]; rfl) (by rw [fnd_t (decide_eq_true h16)]; rfl)
set_option maxRecDepth 100000 in
set_option maxHeartbeats 4000000 in
theorem c_P_placeAdvert (l : Launch) (Y : YY) (n s c : Nat) (hV : pv_ok (vC Y n s c)) (u : UU) (p x : Nat) (hp : p < 2) (hs : s < 2 ^ 31) (h0 : 0 < c) (hc : c ≤ 4) (hg : ∀ q, u.1 20 p q < 400) : Ct l (vC Y n s c) ⟨"SlottedMesh$Plan", "placeAdvert", "(I)Z"⟩ (wz ⟨"SlottedMesh$Plan", "placeAdvert", "(I)Z"⟩ b_P_placeAdvert 3 (some .boolean)) (rd 1) [.ref (pv_ad (vC Y n s c) 15 p), .int (nI x)] u (some (.int (nI (kc_advert s c u p x).1))) ((kc_advert s c u p x).2) := by
  refine ct_mk hV (by decide +kernel) (Nat.le_of_ble_eq_true rfl) (fun X hX => ?_)
  have hX : ox X (vC Y n s c) (rd 1) b_P_placeAdvert 3 "SlottedMesh$Plan" gz (some .boolean) := hX
  show ow X (vC Y n s c) (some (.int (nI (kc_advert s c u p x).1))) ((kc_advert s c u p x).2) u [(0, .ref (pv_ad (vC Y n s c) 15 p)), (1, .int (nI x))] 0 []
  refine ow_iconst (pc := 0) (v := nI 0) hX d_P_placeAdvert_0 (by decide) ?_
  refine ow_istore_n (pc := 1) (l2 := [(0, _), (1, _), (2, _)]) hX d_P_placeAdvert_1 (by decide) rfl rfl ?_
  exact w_P_advert Y n s c hX hV u p x hp hs h0 hc hg s 0 (by omega)
/-- the first slot from k on, of j, with a free channel for x and y -/
def klink (g : Nat → Nat) (c x y : Nat) : Nat → Nat → Option (Nat × Nat)
  | 0, _ => none
  | j + 1, k => match kfree g c k x y c 0 with
    | some b => some (k, b)
    | none => klink g c x y j (k + 1)
def kc_lnk (c : Nat) (u : UU) (p z : Nat) (o : Option (Nat × Nat)) : Nat × UU := match o with
  | some q => (1, un (un u 20 p (q.1 * c + q.2) z) 15 p 7 (u.1 15 p 7 + 1))
  | none => (0, u)
def kc_link (s c : Nat) (u : UU) (p d x y : Nat) : Nat × UU := kc_lnk c u p (d + 10 * x + y) (klink (fun q => u.1 20 p q) c x y s 0)
theorem kc_lnk_le {c : Nat} {u : UU} {p z : Nat} {o : Option (Nat × Nat)} : (kc_lnk c u p z o).1 ≤ 1 := by cases o <;> simp [kc_lnk]
theorem klink_s {g : Nat → Nat} {c x y j k b : Nat} (h : kfree g c k x y c 0 = some b) : klink g c x y (j + 1) k = some (k, b) := by
  simp only [klink, h]
theorem klink_n {g : Nat → Nat} {c x y j k : Nat} (h : kfree g c k x y c 0 = none) : klink g c x y (j + 1) k = klink g c x y j (k + 1) := by
  simp only [klink, h]
set_option maxRecDepth 100000 in
set_option maxHeartbeats 4000000 in
theorem w_P_link {X : OX} (Y : YY) (n s c : Nat) (hX : ox X (vC Y n s c) (rd 3) b_P_placeLink 6 "SlottedMesh$Plan" gz (some .boolean)) (hV : pv_ok (vC Y n s c)) (u : UU) (p d x y : Nat) (hp : p < 2) (hs : s < 2 ^ 31) (hc : c ≤ 4) (hx : x < 10) (hy : y < 10) (hg : ∀ q, u.1 20 p q < 400) : ∀ j k, k + j = s → ow X (vC Y n s c) (some (.int (nI (kc_lnk c u p (d + 10 * x + y) (klink (fun q => u.1 20 p q) c x y j k)).1))) (kc_lnk c u p (d + 10 * x + y) (klink (fun q => u.1 20 p q) c x y j k)).2 u [(0, .ref (pv_ad (vC Y n s c) 15 p)), (1, .int (nI d)), (2, .int (nI x)), (3, .int (nI y)), (4, .int (nI k))] 3 [] := by
  intro j
  induction j with
  | zero =>
    intro k hk
    refine ow_iload (pc := 3) hX d_P_placeLink_3 rfl ?_
    refine ow_aload_n (pc := 5) hX d_P_placeLink_5 rfl ?_
    refine ow_gK (pc := 6) hX (kd_P Y n s c) 0 d_P_placeLink_6 kw_168 rfl (by show _ < 2; first | assumption | omega) ?_
    refine ow_nc_ge (pc := 9) (tgt := 69) hX d_P_placeLink_9 (by decide) (by first | assumption | omega) (by first | assumption | omega) (fun h9 => ?_) (fun h9 => ?_)
    · skip
      refine ow_iconst (pc := 69) (v := nI 0) hX d_P_placeLink_69 (by decide) ?_
      exact ow_zret (pc := 70) hX d_P_placeLink_70 (nb_01 (by first | decide | assumption | omega | exact kbit_le _ _)) (by first | rfl | (unfold klink; rfl)) (by first | rfl | (unfold klink; rfl))
    · skip
      exact absurd h9 (by omega)
  | succ j ih =>
    intro k hk
    refine ow_iload (pc := 3) hX d_P_placeLink_3 rfl ?_
    refine ow_aload_n (pc := 5) hX d_P_placeLink_5 rfl ?_
    refine ow_gK (pc := 6) hX (kd_P Y n s c) 0 d_P_placeLink_6 kw_168 rfl (by show _ < 2; first | assumption | exact ix_lt h9 hb | omega) ?_
    refine ow_nc_ge (pc := 9) (tgt := 69) hX d_P_placeLink_9 (by decide) (by first | assumption | omega) (by first | assumption | omega) (fun h9 => ?_) (fun h9 => ?_)
    · skip
      exact absurd h9 (by omega)
    · skip
      refine ow_aload_n (pc := 12) hX d_P_placeLink_12 rfl ?_
      refine ow_iload (pc := 13) hX d_P_placeLink_13 rfl ?_
      refine ow_iload_n (pc := 15) hX d_P_placeLink_15 rfl ?_
      refine ow_iload_n (pc := 16) hX d_P_placeLink_16 rfl ?_
      refine ow_callV (pc := 17) hX (kd_P Y n s c) (by show _ < 2; first | assumption | exact ix_lt h9 hb | omega) (c_P_freeChannel _ Y n s c hV u p k x y hp h9 hc hx hy hg) (cw_V hX mz_P_freeChannel kw_284 ⟨rfl, rfl⟩ (by decide)) rfl (Nat.le_of_ble_eq_true rfl) d_P_placeLink_17 rfl ?_
      rcases ho : kfree (fun q => u.1 20 p q) c k x y c 0 with _ | b
      · skip
        refine ow_st (st2 := .int (-1) :: _) rfl ?_
        refine ow_istore (pc := 20) (l2 := [(0, _), (1, _), (2, _), (3, _), (4, _), (5, _)]) hX d_P_placeLink_20 (by decide) rfl rfl ?_
        refine ow_iload (pc := 22) hX d_P_placeLink_22 rfl ?_
        refine ow_iconst (pc := 24) (v := (-1)) hX d_P_placeLink_24 (by decide) ?_
        refine ow_ic_eq (pc := 25) (tgt := 63) hX d_P_placeLink_25 (by decide) (fun h25 => ?_) (fun h25 => ?_)
        · skip
          refine ow_iinc (pc := 63) (l2 := [(0, _), (1, _), (2, _), (3, _), (4, _), (5, _)]) hX d_P_placeLink_63 rfl (ii_1 _) (by decide) rfl rfl ?_
          refine ow_goto (pc := 66) (tgt := 3) hX d_P_placeLink_66 (by decide) ?_
          rw [klink_n ho]
          refine ow_loc (l2 := [(0, _), (1, _), (2, _), (3, _), (4, _)]) (fun q hq => by simp only [List.mem_cons, List.not_mem_nil, or_false] at hq ⊢; rcases hq with rfl | rfl | rfl | rfl | rfl <;> simp) (ih (k + 1) (by omega))
        · skip
          exact absurd rfl h25
      · skip
        have hb : b < c := kfree_lt ho (by omega)
        refine ow_st (st2 := .int (nI b) :: _) rfl ?_
        refine ow_istore (pc := 20) (l2 := [(0, _), (1, _), (2, _), (3, _), (4, _), (5, _)]) hX d_P_placeLink_20 (by decide) rfl rfl ?_
        refine ow_iload (pc := 22) hX d_P_placeLink_22 rfl ?_
        refine ow_iconst (pc := 24) (v := (-1)) hX d_P_placeLink_24 (by decide) ?_
        refine ow_ic_eq (pc := 25) (tgt := 63) hX d_P_placeLink_25 (by decide) (fun h25 => ?_) (fun h25 => ?_)
        · skip
          exact absurd h25 (nI_m1 (by first | assumption | omega))
        · skip
          refine ow_aload_n (pc := 28) hX d_P_placeLink_28 rfl ?_
          refine ow_gR (pc := 29) hX (kd_P Y n s c) 6 d_P_placeLink_29 kw_177 rfl (by show _ < 2; first | assumption | exact ix_lt h9 hb | omega) ?_
          refine ow_iload (pc := 32) hX d_P_placeLink_32 rfl ?_
          refine ow_aload_n (pc := 34) hX d_P_placeLink_34 rfl ?_
          refine ow_gK (pc := 35) hX (kd_P Y n s c) 1 d_P_placeLink_35 kw_169 rfl (by show _ < 2; first | assumption | exact ix_lt h9 hb | omega) ?_
          refine ow_muln (pc := 38) hX d_P_placeLink_38 ?_
          refine ow_iload (pc := 39) hX d_P_placeLink_39 rfl ?_
          refine ow_addn (pc := 41) hX d_P_placeLink_41 ?_
          refine ow_iload_n (pc := 42) hX d_P_placeLink_42 rfl ?_
          refine ow_bipush (pc := 43) (v := nI 10) hX d_P_placeLink_43 (by decide) ?_
          refine ow_iload_n (pc := 45) hX d_P_placeLink_45 rfl ?_
          refine ow_muln (pc := 46) hX d_P_placeLink_46 ?_
          refine ow_addn (pc := 47) hX d_P_placeLink_47 ?_
          refine ow_iload_n (pc := 48) hX d_P_placeLink_48 rfl ?_
          refine ow_addn (pc := 49) hX d_P_placeLink_49 ?_
          refine ow_sN (pc := 50) hX rfl d_P_placeLink_50 (by show _ < 2; first | assumption | exact ix_lt h9 hb | omega) (by show _ < s * c; first | assumption | exact ix_lt h9 hb | omega) ?_
          refine ow_aload_n (pc := 51) hX d_P_placeLink_51 rfl ?_
          refine ow_dup (pc := 52) hX d_P_placeLink_52 rfl ?_
          refine ow_gN (pc := 53) hX (kd_P Y n s c) 7 d_P_placeLink_53 kw_179 rfl (by show _ < 2; first | assumption | exact ix_lt h9 hb | omega) ?_
          try simp only [un_1, un_2, ui_1, ui_2, ui_3, ul_1, ul_2, ul_3, ul_4, ur_1, ur_2, ur_3, ur_4, Nat.reduceEqDiff, false_and, and_false, true_and, and_true, and_self, reduceIte]
          refine ow_iconst (pc := 56) (v := nI 1) hX d_P_placeLink_56 (by decide) ?_
          refine ow_addn (pc := 57) hX d_P_placeLink_57 ?_
          refine ow_pN (pc := 58) hX (kd_P Y n s c) 7 d_P_placeLink_58 kw_179 rfl (by show _ < 2; first | assumption | exact ix_lt h9 hb | omega) rfl (by decide +kernel) ?_
          refine ow_iconst (pc := 61) (v := nI 1) hX d_P_placeLink_61 (by decide) ?_
          exact ow_zret (pc := 62) hX d_P_placeLink_62 (nb_01 (by first | decide | assumption | omega | exact kbit_le _ _)) (by rw [klink_s ho]; rfl) (by rw [klink_s ho]; rfl)
set_option maxRecDepth 100000 in
set_option maxHeartbeats 4000000 in
theorem c_P_placeLink (l : Launch) (Y : YY) (n s c : Nat) (hV : pv_ok (vC Y n s c)) (u : UU) (p d x y : Nat) (hp : p < 2) (hs : s < 2 ^ 31) (hc : c ≤ 4) (hx : x < 10) (hy : y < 10) (hg : ∀ q, u.1 20 p q < 400) : Ct l (vC Y n s c) ⟨"SlottedMesh$Plan", "placeLink", "(III)Z"⟩ (wz ⟨"SlottedMesh$Plan", "placeLink", "(III)Z"⟩ b_P_placeLink 6 (some .boolean)) (rd 3) [.ref (pv_ad (vC Y n s c) 15 p), .int (nI d), .int (nI x), .int (nI y)] u (some (.int (nI (kc_link s c u p d x y).1))) ((kc_link s c u p d x y).2) := by
  refine ct_mk hV (by decide +kernel) (Nat.le_of_ble_eq_true rfl) (fun X hX => ?_)
  have hX : ox X (vC Y n s c) (rd 3) b_P_placeLink 6 "SlottedMesh$Plan" gz (some .boolean) := hX
  show ow X (vC Y n s c) (some (.int (nI (kc_link s c u p d x y).1))) ((kc_link s c u p d x y).2) u [(0, .ref (pv_ad (vC Y n s c) 15 p)), (1, .int (nI d)), (2, .int (nI x)), (3, .int (nI y))] 0 []
  refine ow_iconst (pc := 0) (v := nI 0) hX d_P_placeLink_0 (by decide) ?_
  refine ow_istore (pc := 1) (l2 := [(0, _), (1, _), (2, _), (3, _), (4, _)]) hX d_P_placeLink_1 (by decide) rfl rfl ?_
  exact w_P_link Y n s c hX hV u p d x y hp hs hc hx hy hg s 0 (by omega)
end
section
/-! Plan: loops over the nodes (by program, wip/whole/gen/c5.py) -/
theorem kc_advert_lt {s c : Nat} {u : UU} {p x : Nat} : (kc_advert s c u p x).1 < 2 ^ 31 := by
  have := @kc_adv_le c u p x (fnd (kadv c u p) s 0)
  unfold kc_advert; omega
theorem kc_link_lt {s c : Nat} {u : UU} {p d x y : Nat} : (kc_link s c u p d x y).1 < 2 ^ 31 := by
  have := @kc_lnk_le c u p (d + 10 * x + y) (klink (fun q => u.1 20 p q) c x y s 0)
  unfold kc_link; omega
/-- codes and order are numbers of cells and nodes -/
def ki (n p : Nat) (w : UU) : Prop := (∀ q, w.1 20 p q < 400) ∧ ∀ k, k < n → w.1 19 p k < n
theorem ki_adv {n p c x : Nat} {w : UU} {o : Option Nat} (h : ki n p w) (hx : x < 10) : ki n p (kc_adv c w p x o).2 := by
  cases o with
  | none => exact h
  | some a =>
    refine ⟨fun q => ?_, fun k hk => ?_⟩
    · show (un (kc_fill c w p a (100 + 10 * x)) 15 p 7 _).1 20 p q < 400
      rw [un_1, if_neg (by omega), kc_fill_1]
      split
      · omega
      · exact h.1 q
    · show (un (kc_fill c w p a (100 + 10 * x)) 15 p 7 _).1 19 p k < n
      rw [un_1, if_neg (by omega), kc_fill_1, if_neg (by omega)]
      exact h.2 k hk
theorem ki_lnk {n p c z : Nat} {w : UU} {o : Option (Nat × Nat)} (h : ki n p w) (hz : z < 400) : ki n p (kc_lnk c w p z o).2 := by
  cases o with
  | none => exact h
  | some a =>
    refine ⟨fun q => ?_, fun k hk => ?_⟩
    · show (un (un w 20 p (a.1 * c + a.2) z) 15 p 7 _).1 20 p q < 400
      rw [un_1, if_neg (by omega), un_1]
      split
      · exact hz
      · exact h.1 q
    · show (un (un w 20 p (a.1 * c + a.2) z) 15 p 7 _).1 19 p k < n
      rw [un_1, if_neg (by omega), un_1, if_neg (by omega)]
      exact h.2 k hk
theorem kc_lnk_2 {c p z : Nat} {w : UU} {o : Option (Nat × Nat)} : (kc_lnk c w p z o).2.2 = w.2 := by cases o <;> rfl
theorem kc_lnk_o {c p z : Nat} {w : UU} {o : Option (Nat × Nat)} (i k : Nat) : (kc_lnk c w p z o).2.1 19 i k = w.1 19 i k := by
  cases o with
  | none => rfl
  | some a =>
    show (un (un w 20 p (a.1 * c + a.2) z) 15 p 7 _).1 19 i k = _
    rw [un_1, if_neg (by omega), un_1, if_neg (by omega)]
def kadvs (s c p : Nat) : Nat → Nat → UU → Nat × UU
  | 0, _, w => (1, w)
  | j + 1, k, w => if (kc_advert s c w p (w.1 19 p k)).1 = 0 then (0, (kc_advert s c w p (w.1 19 p k)).2) else kadvs s c p j (k + 1) (kc_advert s c w p (w.1 19 p k)).2
set_option maxRecDepth 100000 in
set_option maxHeartbeats 4000000 in
theorem w_P_adverts {X : OX} (Y : YY) (n s c : Nat) (hX : ox X (vC Y n s c) (rd 2) b_P_placeAdverts 2 "SlottedMesh$Plan" gz (some .boolean)) (hV : pv_ok (vC Y n s c)) (p : Nat) (hp : p < 2) (hs : s < 2 ^ 31) (h0 : 0 < c) (hc : c ≤ 4) (hn : n ≤ 6) : ∀ j k w, ki n p w → k + j = n → ow X (vC Y n s c) (some (.int (nI (kadvs s c p j k w).1))) (kadvs s c p j k w).2 w [(0, .ref (pv_ad (vC Y n s c) 15 p)), (1, .int (nI k))] 2 [] := by
  intro j
  induction j with
  | zero =>
    intro k w hI hk
    refine ow_iload_n (pc := 2) hX d_P_placeAdverts_2 rfl ?_
    refine ow_aload_n (pc := 3) hX d_P_placeAdverts_3 rfl ?_
    refine ow_gR (pc := 4) hX (kd_P Y n s c) 5 d_P_placeAdverts_4 kw_176 rfl (by show _ < 2; first | assumption | omega) ?_
    refine ow_len (pc := 7) hX rfl (by decide) d_P_placeAdverts_7 (by show _ < 2; first | assumption | omega) ?_
    refine ow_st (st2 := .int (nI (n)) :: _) rfl ?_
    refine ow_nc_ge (pc := 8) (tgt := 32) hX d_P_placeAdverts_8 (by decide) (by first | assumption | omega | exact kc_advert_lt) (by first | assumption | omega | exact kc_advert_lt) (fun h8 => ?_) (fun h8 => ?_)
    · skip
      refine ow_iconst (pc := 32) (v := nI 1) hX d_P_placeAdverts_32 (by decide) ?_
      exact ow_zret (pc := 33) hX d_P_placeAdverts_33 (nb_01 (by first | decide | assumption | omega | exact kbit_le _ _)) (by first | rfl | (unfold kadvs; rfl)) (by first | rfl | (unfold kadvs; rfl))
    · skip
      exact absurd h8 (by omega)
  | succ j ih =>
    intro k w hI hk
    refine ow_iload_n (pc := 2) hX d_P_placeAdverts_2 rfl ?_
    refine ow_aload_n (pc := 3) hX d_P_placeAdverts_3 rfl ?_
    refine ow_gR (pc := 4) hX (kd_P Y n s c) 5 d_P_placeAdverts_4 kw_176 rfl (by show _ < 2; first | assumption | omega) ?_
    refine ow_len (pc := 7) hX rfl (by decide) d_P_placeAdverts_7 (by show _ < 2; first | assumption | omega) ?_
    refine ow_st (st2 := .int (nI (n)) :: _) rfl ?_
    refine ow_nc_ge (pc := 8) (tgt := 32) hX d_P_placeAdverts_8 (by decide) (by first | assumption | omega | exact kc_advert_lt) (by first | assumption | omega | exact kc_advert_lt) (fun h8 => ?_) (fun h8 => ?_)
    · skip
      exact absurd h8 (by omega)
    · skip
      refine ow_aload_n (pc := 11) hX d_P_placeAdverts_11 rfl ?_
      refine ow_aload_n (pc := 12) hX d_P_placeAdverts_12 rfl ?_
      refine ow_gR (pc := 13) hX (kd_P Y n s c) 5 d_P_placeAdverts_13 kw_176 rfl (by show _ < 2; first | assumption | omega) ?_
      refine ow_iload_n (pc := 16) hX d_P_placeAdverts_16 rfl ?_
      refine ow_aN (pc := 17) hX rfl d_P_placeAdverts_17 (by show _ < 2; first | assumption | omega) (by show _ < n; first | assumption | omega) ?_
      refine ow_callV (pc := 18) hX (kd_P Y n s c) (by show _ < 2; first | assumption | omega) (c_P_placeAdvert _ Y n s c hV w p (w.1 19 p k) hp hs h0 hc hI.1) (cw_V hX mz_P_placeAdvert kw_264 ⟨rfl, rfl⟩ (by decide)) rfl (Nat.le_of_ble_eq_true rfl) d_P_placeAdverts_18 rfl ?_
      refine ow_nz_ne (pc := 21) (tgt := 26) hX d_P_placeAdverts_21 (by decide) (by first | assumption | omega | exact kc_advert_lt) (fun h21 => ?_) (fun h21 => ?_)
      · skip
        refine ow_iinc (pc := 26) (l2 := [(0, _), (1, _)]) hX d_P_placeAdverts_26 rfl (ii_1 _) (by decide) rfl rfl ?_
        refine ow_goto (pc := 29) (tgt := 2) hX d_P_placeAdverts_29 (by decide) ?_
        rw [kadvs, if_neg h21]
        exact ih (k + 1) _ (ki_adv hI (by have := hI.2 k h8; omega)) (by omega)
      · skip
        refine ow_iconst (pc := 24) (v := nI 0) hX d_P_placeAdverts_24 (by decide) ?_
        exact ow_zret (pc := 25) hX d_P_placeAdverts_25 (nb_01 (by first | decide | assumption | omega | exact kbit_le _ _)) (by rw [kadvs, if_pos h21]) (by rw [kadvs, if_pos h21])
set_option maxRecDepth 100000 in
set_option maxHeartbeats 4000000 in
theorem c_P_placeAdverts (l : Launch) (Y : YY) (n s c : Nat) (hV : pv_ok (vC Y n s c)) (u : UU) (p : Nat) (hp : p < 2) (hs : s < 2 ^ 31) (h0 : 0 < c) (hc : c ≤ 4) (hn : n ≤ 6) (hI : ki n p u) : Ct l (vC Y n s c) ⟨"SlottedMesh$Plan", "placeAdverts", "()Z"⟩ (wz ⟨"SlottedMesh$Plan", "placeAdverts", "()Z"⟩ b_P_placeAdverts 2 (some .boolean)) (rd 2) [.ref (pv_ad (vC Y n s c) 15 p)] u (some (.int (nI (kadvs s c p n 0 u).1))) ((kadvs s c p n 0 u).2) := by
  refine ct_mk hV (by decide +kernel) (Nat.le_of_ble_eq_true rfl) (fun X hX => ?_)
  have hX : ox X (vC Y n s c) (rd 2) b_P_placeAdverts 2 "SlottedMesh$Plan" gz (some .boolean) := hX
  show ow X (vC Y n s c) (some (.int (nI (kadvs s c p n 0 u).1))) ((kadvs s c p n 0 u).2) u [(0, .ref (pv_ad (vC Y n s c) 15 p))] 0 []
  refine ow_iconst (pc := 0) (v := nI 0) hX d_P_placeAdverts_0 (by decide) ?_
  refine ow_istore_n (pc := 1) (l2 := [(0, _), (1, _)]) hX d_P_placeAdverts_1 (by decide) rfl rfl ?_
  exact w_P_adverts Y n s c hX hV p hp hs h0 hc hn n 0 u hI (by omega)
def kl3 (s c p x f : Nat) (rest : UU → Nat × UU) (w : UU) : Nat × UU := if (kc_link s c w p 300 f x).1 = 0 then (0, (kc_link s c w p 300 f x).2) else rest (kc_link s c w p 300 f x).2
def kl2 (s c p x f : Nat) (g : Option Nat) (rest : UU → Nat × UU) (w : UU) : Nat × UU := match g with
  | none => kl3 s c p x f rest w
  | some g => if (kc_link s c w p 200 x g).1 = 0 then (0, (kc_link s c w p 200 x g).2) else kl3 s c p x f rest (kc_link s c w p 200 x g).2
def kl1 (s c p x f : Nat) (g : Option Nat) (rest : UU → Nat × UU) (w : UU) : Nat × UU := if (kc_link s c w p 200 x f).1 = 0 then (0, (kc_link s c w p 200 x f).2) else kl2 s c p x f g rest (kc_link s c w p 200 x f).2
def klnks (s c p : Nat) (fa sa : Nat → Option Nat) : Nat → Nat → UU → Nat × UU
  | 0, _, w => (1, w)
  | j + 1, k, w => match fa (w.1 19 p k) with
    | none => (0, w)
    | some f => kl1 s c p (w.1 19 p k) f (sa (w.1 19 p k)) (klnks s c p fa sa j (k + 1)) w
/-- the parents of the nodes, in the order -/
def kj (n p : Nat) (fa sa : Nat → Option Nat) (w : UU) : Prop := ki n p w ∧ (∀ i, i < n → w.2.1 17 p i = io (fa i)) ∧ (∀ i, i < n → w.2.1 18 p i = io (sa i)) ∧ (∀ k, 1 ≤ k → k < n → ∃ a, fa (w.1 19 p k) = some a ∧ a < n) ∧ ∀ i a, sa i = some a → a < n
theorem kj_link {n p s c d x y : Nat} {fa sa : Nat → Option Nat} {w : UU} (h : kj n p fa sa w) (hz : d + 10 * x + y < 400) : kj n p fa sa (kc_link s c w p d x y).2 := by
  unfold kc_link
  refine ⟨ki_lnk h.1 hz, fun i hi => ?_, fun i hi => ?_, fun k h1 h2 => ?_, h.2.2.2.2⟩
  · rw [kc_lnk_2]; exact h.2.1 i hi
  · rw [kc_lnk_2]; exact h.2.2.1 i hi
  · rw [kc_lnk_o]; exact h.2.2.2.1 k h1 h2
theorem kl_e {s c p : Nat} {fa sa : Nat → Option Nat} {j k f : Nat} {w : UU} (h : fa (w.1 19 p k) = some f) : klnks s c p fa sa (j + 1) k w = kl1 s c p (w.1 19 p k) f (sa (w.1 19 p k)) (klnks s c p fa sa j (k + 1)) w := by
  rw [klnks, h]
set_option maxRecDepth 100000 in
set_option maxHeartbeats 4000000 in
theorem w_P_links {X : OX} (Y : YY) (n s c : Nat) (hX : ox X (vC Y n s c) (rd 4) b_P_placeLinks 6 "SlottedMesh$Plan" gz (some .boolean)) (hV : pv_ok (vC Y n s c)) (p : Nat) (hp : p < 2) (hs : s < 2 ^ 31) (h0 : 0 < c) (hc : c ≤ 4) (hn : n ≤ 6) (fa sa : Nat → Option Nat) : ∀ j k w, kj n p fa sa w → 1 ≤ k → k + j = n → ow X (vC Y n s c) (some (.int (nI (klnks s c p fa sa j k w).1))) (klnks s c p fa sa j k w).2 w [(0, .ref (pv_ad (vC Y n s c) 15 p)), (1, .int (nI k))] 2 [] := by
  intro j
  induction j with
  | zero =>
    intro k w hI hk1 hk
    refine ow_iload_n (pc := 2) hX d_P_placeLinks_2 rfl ?_
    refine ow_aload_n (pc := 3) hX d_P_placeLinks_3 rfl ?_
    refine ow_gR (pc := 4) hX (kd_P Y n s c) 5 d_P_placeLinks_4 kw_176 rfl (by show _ < 2; first | assumption | omega) ?_
    refine ow_len (pc := 7) hX rfl (by decide) d_P_placeLinks_7 (by show _ < 2; first | assumption | omega) ?_
    refine ow_st (st2 := .int (nI (n)) :: _) rfl ?_
    refine ow_nc_ge (pc := 8) (tgt := 96) hX d_P_placeLinks_8 (by decide) (by first | assumption | omega | exact kc_link_lt) (by first | assumption | omega | exact kc_link_lt) (fun h8 => ?_) (fun h8 => ?_)
    · skip
      refine ow_iconst (pc := 96) (v := nI 1) hX d_P_placeLinks_96 (by decide) ?_
      exact ow_zret (pc := 97) hX d_P_placeLinks_97 (nb_01 (by first | decide | assumption | omega | exact kbit_le _ _)) (by first | rfl | (unfold klnks; rfl)) (by first | rfl | (unfold klnks; rfl))
    · skip
      exact absurd h8 (by omega)
  | succ j ih =>
    intro k w hI hk1 hk
    refine ow_iload_n (pc := 2) hX d_P_placeLinks_2 rfl ?_
    refine ow_aload_n (pc := 3) hX d_P_placeLinks_3 rfl ?_
    refine ow_gR (pc := 4) hX (kd_P Y n s c) 5 d_P_placeLinks_4 kw_176 rfl (by show _ < 2; first | assumption | omega) ?_
    refine ow_len (pc := 7) hX rfl (by decide) d_P_placeLinks_7 (by show _ < 2; first | assumption | omega) ?_
    refine ow_st (st2 := .int (nI (n)) :: _) rfl ?_
    refine ow_nc_ge (pc := 8) (tgt := 96) hX d_P_placeLinks_8 (by decide) (by first | assumption | omega | exact kc_link_lt) (by first | assumption | omega | exact kc_link_lt) (fun h8 => ?_) (fun h8 => ?_)
    · skip
      exact absurd h8 (by omega)
    · skip
      refine ow_aload_n (pc := 11) hX d_P_placeLinks_11 rfl ?_
      refine ow_gR (pc := 12) hX (kd_P Y n s c) 5 d_P_placeLinks_12 kw_176 rfl (by show _ < 2; first | assumption | omega) ?_
      refine ow_iload_n (pc := 15) hX d_P_placeLinks_15 rfl ?_
      refine ow_aN (pc := 16) hX rfl d_P_placeLinks_16 (by show _ < 2; first | assumption | omega) (by show _ < n; first | assumption | omega) ?_
      have hx : w.1 19 p k < n := hI.1.2 k h8
      refine ow_istore_n (pc := 17) (l2 := [(0, _), (1, _), (2, _)]) hX d_P_placeLinks_17 (by decide) rfl rfl ?_
      refine ow_aload_n (pc := 18) hX d_P_placeLinks_18 rfl ?_
      refine ow_gR (pc := 19) hX (kd_P Y n s c) 3 d_P_placeLinks_19 kw_172 rfl (by show _ < 2; first | assumption | omega) ?_
      refine ow_iload_n (pc := 22) hX d_P_placeLinks_22 rfl ?_
      refine ow_aI (pc := 23) hX rfl d_P_placeLinks_23 (by show _ < 2; first | assumption | omega) (by show _ < n; first | assumption | omega) ?_
      obtain ⟨f, hf, hfn⟩ := hI.2.2.2.1 k hk1 h8
      refine ow_val (show w.2.1 17 p (w.1 19 p k) = nI f from by rw [hI.2.1 _ hx, hf]; rfl) ?_
      refine ow_istore_n (pc := 24) (l2 := [(0, _), (1, _), (2, _), (3, _)]) hX d_P_placeLinks_24 (by decide) rfl rfl ?_
      refine ow_aload_n (pc := 25) hX d_P_placeLinks_25 rfl ?_
      refine ow_gR (pc := 26) hX (kd_P Y n s c) 4 d_P_placeLinks_26 kw_174 rfl (by show _ < 2; first | assumption | omega) ?_
      refine ow_iload_n (pc := 29) hX d_P_placeLinks_29 rfl ?_
      refine ow_aI (pc := 30) hX rfl d_P_placeLinks_30 (by show _ < 2; first | assumption | omega) (by show _ < n; first | assumption | omega) ?_
      rcases hg : sa (w.1 19 p k) with _ | g
      · skip
        refine ow_val (show w.2.1 18 p (w.1 19 p k) = -1 from by rw [hI.2.2.1 _ hx, hg]; rfl) ?_
        refine ow_istore (pc := 31) (l2 := [(0, _), (1, _), (2, _), (3, _), (4, _)]) hX d_P_placeLinks_31 (by decide) rfl rfl ?_
        refine ow_aload_n (pc := 33) hX d_P_placeLinks_33 rfl ?_
        refine ow_sipush (pc := 34) (v := nI 200) hX d_P_placeLinks_34 (by decide) ?_
        refine ow_iload_n (pc := 37) hX d_P_placeLinks_37 rfl ?_
        refine ow_iload_n (pc := 38) hX d_P_placeLinks_38 rfl ?_
        refine ow_callV (pc := 39) hX (kd_P Y n s c) (by show _ < 2; first | assumption | omega) (c_P_placeLink _ Y n s c hV _ p 200 _ _ hp hs hc (by omega) (by omega) (by first | exact hI.1.1 | exact (kj_link hI (by omega)).1.1 | exact (kj_link (kj_link hI (by omega)) (by omega)).1.1)) (cw_V hX mz_P_placeLink kw_280 ⟨rfl, rfl⟩ (by decide)) rfl (Nat.le_of_ble_eq_true rfl) d_P_placeLinks_39 rfl ?_
        refine ow_nz_eq (pc := 42) (tgt := 80) hX d_P_placeLinks_42 (by decide) (by first | assumption | omega | exact kc_link_lt) (fun h42 => ?_) (fun h42 => ?_)
        · skip
          refine ow_iconst (pc := 80) (v := nI 0) hX d_P_placeLinks_80 (by decide) ?_
          refine ow_istore (pc := 81) (l2 := [(0, _), (1, _), (2, _), (3, _), (4, _), (5, _)]) hX d_P_placeLinks_81 (by decide) rfl rfl ?_
          refine ow_iload (pc := 83) hX d_P_placeLinks_83 rfl ?_
          refine ow_nz_ne (pc := 85) (tgt := 90) hX d_P_placeLinks_85 (by decide) (by first | assumption | omega | exact kc_link_lt) (fun h85 => ?_) (fun h85 => ?_)
          · skip
            exact absurd h85 (by decide)
          · skip
            refine ow_iconst (pc := 88) (v := nI 0) hX d_P_placeLinks_88 (by decide) ?_
            exact ow_zret (pc := 89) hX d_P_placeLinks_89 (nb_01 (by first | decide | assumption | omega | exact kbit_le _ _)) (by rw [kl_e hf, hg]; simp only [kl1, kl2, kl3]; first | rw [if_pos h42] | rw [if_neg h42, if_neg h61, if_pos h73] | rw [if_neg h42, if_pos h61] | rw [if_neg h42, if_pos h73]) (by rw [kl_e hf, hg]; simp only [kl1, kl2, kl3]; first | rw [if_pos h42] | rw [if_neg h42, if_neg h61, if_pos h73] | rw [if_neg h42, if_pos h61] | rw [if_neg h42, if_pos h73])
        · skip
          refine ow_iload (pc := 45) hX d_P_placeLinks_45 rfl ?_
          refine ow_iconst (pc := 47) (v := (-1)) hX d_P_placeLinks_47 (by decide) ?_
          refine ow_ic_eq (pc := 48) (tgt := 64) hX d_P_placeLinks_48 (by decide) (fun h48 => ?_) (fun h48 => ?_)
          · skip
            refine ow_aload_n (pc := 64) hX d_P_placeLinks_64 rfl ?_
            refine ow_sipush (pc := 65) (v := nI 300) hX d_P_placeLinks_65 (by decide) ?_
            refine ow_iload_n (pc := 68) hX d_P_placeLinks_68 rfl ?_
            refine ow_iload_n (pc := 69) hX d_P_placeLinks_69 rfl ?_
            refine ow_callV (pc := 70) hX (kd_P Y n s c) (by show _ < 2; first | assumption | omega) (c_P_placeLink _ Y n s c hV _ p 300 _ _ hp hs hc (by omega) (by omega) (by first | exact hI.1.1 | exact (kj_link hI (by omega)).1.1 | exact (kj_link (kj_link hI (by omega)) (by omega)).1.1)) (cw_V hX mz_P_placeLink kw_280 ⟨rfl, rfl⟩ (by decide)) rfl (Nat.le_of_ble_eq_true rfl) d_P_placeLinks_70 rfl ?_
            refine ow_nz_eq (pc := 73) (tgt := 80) hX d_P_placeLinks_73 (by decide) (by first | assumption | omega | exact kc_link_lt) (fun h73 => ?_) (fun h73 => ?_)
            · skip
              refine ow_iconst (pc := 80) (v := nI 0) hX d_P_placeLinks_80 (by decide) ?_
              refine ow_istore (pc := 81) (l2 := [(0, _), (1, _), (2, _), (3, _), (4, _), (5, _)]) hX d_P_placeLinks_81 (by decide) rfl rfl ?_
              refine ow_iload (pc := 83) hX d_P_placeLinks_83 rfl ?_
              refine ow_nz_ne (pc := 85) (tgt := 90) hX d_P_placeLinks_85 (by decide) (by first | assumption | omega | exact kc_link_lt) (fun h85 => ?_) (fun h85 => ?_)
              · skip
                exact absurd h85 (by decide)
              · skip
                refine ow_iconst (pc := 88) (v := nI 0) hX d_P_placeLinks_88 (by decide) ?_
                exact ow_zret (pc := 89) hX d_P_placeLinks_89 (nb_01 (by first | decide | assumption | omega | exact kbit_le _ _)) (by rw [kl_e hf, hg]; simp only [kl1, kl2, kl3]; first | rw [if_pos h42] | rw [if_neg h42, if_neg h61, if_pos h73] | rw [if_neg h42, if_pos h61] | rw [if_neg h42, if_pos h73]) (by rw [kl_e hf, hg]; simp only [kl1, kl2, kl3]; first | rw [if_pos h42] | rw [if_neg h42, if_neg h61, if_pos h73] | rw [if_neg h42, if_pos h61] | rw [if_neg h42, if_pos h73])
            · skip
              refine ow_iconst (pc := 76) (v := nI 1) hX d_P_placeLinks_76 (by decide) ?_
              refine ow_goto (pc := 77) (tgt := 81) hX d_P_placeLinks_77 (by decide) ?_
              refine ow_istore (pc := 81) (l2 := [(0, _), (1, _), (2, _), (3, _), (4, _), (5, _)]) hX d_P_placeLinks_81 (by decide) rfl rfl ?_
              refine ow_iload (pc := 83) hX d_P_placeLinks_83 rfl ?_
              refine ow_nz_ne (pc := 85) (tgt := 90) hX d_P_placeLinks_85 (by decide) (by first | assumption | omega | exact kc_link_lt) (fun h85 => ?_) (fun h85 => ?_)
              · skip
                refine ow_iinc (pc := 90) (l2 := [(0, _), (1, _), (2, _), (3, _), (4, _), (5, _)]) hX d_P_placeLinks_90 rfl (ii_1 _) (by decide) rfl rfl ?_
                refine ow_goto (pc := 93) (tgt := 2) hX d_P_placeLinks_93 (by decide) ?_
                rw [kl_e hf, hg]
                simp only [kl1, kl2, kl3]
                first | rw [if_neg h42, if_neg h61, if_neg h73] | rw [if_neg h42, if_neg h73]
                refine ow_loc (l2 := [(0, _), (1, _)]) (fun q hq => by simp only [List.mem_cons, List.not_mem_nil, or_false] at hq ⊢; rcases hq with rfl | rfl <;> simp) (ih (k + 1) _ (by first | exact kj_link (kj_link (kj_link hI (by omega)) (by omega)) (by omega) | exact kj_link (kj_link hI (by omega)) (by omega)) (by omega) (by omega))
              · skip
                exact absurd h85 (by decide)
          · skip
            exact absurd rfl h48
      · skip
        have hgn := hI.2.2.2.2 _ _ hg
        refine ow_val (show w.2.1 18 p (w.1 19 p k) = nI g from by rw [hI.2.2.1 _ hx, hg]; rfl) ?_
        refine ow_istore (pc := 31) (l2 := [(0, _), (1, _), (2, _), (3, _), (4, _)]) hX d_P_placeLinks_31 (by decide) rfl rfl ?_
        refine ow_aload_n (pc := 33) hX d_P_placeLinks_33 rfl ?_
        refine ow_sipush (pc := 34) (v := nI 200) hX d_P_placeLinks_34 (by decide) ?_
        refine ow_iload_n (pc := 37) hX d_P_placeLinks_37 rfl ?_
        refine ow_iload_n (pc := 38) hX d_P_placeLinks_38 rfl ?_
        refine ow_callV (pc := 39) hX (kd_P Y n s c) (by show _ < 2; first | assumption | omega) (c_P_placeLink _ Y n s c hV _ p 200 _ _ hp hs hc (by omega) (by omega) (by first | exact hI.1.1 | exact (kj_link hI (by omega)).1.1 | exact (kj_link (kj_link hI (by omega)) (by omega)).1.1)) (cw_V hX mz_P_placeLink kw_280 ⟨rfl, rfl⟩ (by decide)) rfl (Nat.le_of_ble_eq_true rfl) d_P_placeLinks_39 rfl ?_
        refine ow_nz_eq (pc := 42) (tgt := 80) hX d_P_placeLinks_42 (by decide) (by first | assumption | omega | exact kc_link_lt) (fun h42 => ?_) (fun h42 => ?_)
        · skip
          refine ow_iconst (pc := 80) (v := nI 0) hX d_P_placeLinks_80 (by decide) ?_
          refine ow_istore (pc := 81) (l2 := [(0, _), (1, _), (2, _), (3, _), (4, _), (5, _)]) hX d_P_placeLinks_81 (by decide) rfl rfl ?_
          refine ow_iload (pc := 83) hX d_P_placeLinks_83 rfl ?_
          refine ow_nz_ne (pc := 85) (tgt := 90) hX d_P_placeLinks_85 (by decide) (by first | assumption | omega | exact kc_link_lt) (fun h85 => ?_) (fun h85 => ?_)
          · skip
            exact absurd h85 (by decide)
          · skip
            refine ow_iconst (pc := 88) (v := nI 0) hX d_P_placeLinks_88 (by decide) ?_
            exact ow_zret (pc := 89) hX d_P_placeLinks_89 (nb_01 (by first | decide | assumption | omega | exact kbit_le _ _)) (by rw [kl_e hf, hg]; simp only [kl1, kl2, kl3]; first | rw [if_pos h42] | rw [if_neg h42, if_neg h61, if_pos h73] | rw [if_neg h42, if_pos h61] | rw [if_neg h42, if_pos h73]) (by rw [kl_e hf, hg]; simp only [kl1, kl2, kl3]; first | rw [if_pos h42] | rw [if_neg h42, if_neg h61, if_pos h73] | rw [if_neg h42, if_pos h61] | rw [if_neg h42, if_pos h73])
        · skip
          refine ow_iload (pc := 45) hX d_P_placeLinks_45 rfl ?_
          refine ow_iconst (pc := 47) (v := (-1)) hX d_P_placeLinks_47 (by decide) ?_
          refine ow_ic_eq (pc := 48) (tgt := 64) hX d_P_placeLinks_48 (by decide) (fun h48 => ?_) (fun h48 => ?_)
          · skip
            exact absurd h48 (nI_m1 (by first | assumption | omega | exact kc_link_lt))
          · skip
            refine ow_aload_n (pc := 51) hX d_P_placeLinks_51 rfl ?_
            refine ow_sipush (pc := 52) (v := nI 200) hX d_P_placeLinks_52 (by decide) ?_
            refine ow_iload_n (pc := 55) hX d_P_placeLinks_55 rfl ?_
            refine ow_iload (pc := 56) hX d_P_placeLinks_56 rfl ?_
            refine ow_callV (pc := 58) hX (kd_P Y n s c) (by show _ < 2; first | assumption | omega) (c_P_placeLink _ Y n s c hV _ p 200 _ _ hp hs hc (by omega) (by omega) (by first | exact hI.1.1 | exact (kj_link hI (by omega)).1.1 | exact (kj_link (kj_link hI (by omega)) (by omega)).1.1)) (cw_V hX mz_P_placeLink kw_280 ⟨rfl, rfl⟩ (by decide)) rfl (Nat.le_of_ble_eq_true rfl) d_P_placeLinks_58 rfl ?_
            refine ow_nz_eq (pc := 61) (tgt := 80) hX d_P_placeLinks_61 (by decide) (by first | assumption | omega | exact kc_link_lt) (fun h61 => ?_) (fun h61 => ?_)
            · skip
              refine ow_iconst (pc := 80) (v := nI 0) hX d_P_placeLinks_80 (by decide) ?_
              refine ow_istore (pc := 81) (l2 := [(0, _), (1, _), (2, _), (3, _), (4, _), (5, _)]) hX d_P_placeLinks_81 (by decide) rfl rfl ?_
              refine ow_iload (pc := 83) hX d_P_placeLinks_83 rfl ?_
              refine ow_nz_ne (pc := 85) (tgt := 90) hX d_P_placeLinks_85 (by decide) (by first | assumption | omega | exact kc_link_lt) (fun h85 => ?_) (fun h85 => ?_)
              · skip
                exact absurd h85 (by decide)
              · skip
                refine ow_iconst (pc := 88) (v := nI 0) hX d_P_placeLinks_88 (by decide) ?_
                exact ow_zret (pc := 89) hX d_P_placeLinks_89 (nb_01 (by first | decide | assumption | omega | exact kbit_le _ _)) (by rw [kl_e hf, hg]; simp only [kl1, kl2, kl3]; first | rw [if_pos h42] | rw [if_neg h42, if_neg h61, if_pos h73] | rw [if_neg h42, if_pos h61] | rw [if_neg h42, if_pos h73]) (by rw [kl_e hf, hg]; simp only [kl1, kl2, kl3]; first | rw [if_pos h42] | rw [if_neg h42, if_neg h61, if_pos h73] | rw [if_neg h42, if_pos h61] | rw [if_neg h42, if_pos h73])
            · skip
              refine ow_aload_n (pc := 64) hX d_P_placeLinks_64 rfl ?_
              refine ow_sipush (pc := 65) (v := nI 300) hX d_P_placeLinks_65 (by decide) ?_
              refine ow_iload_n (pc := 68) hX d_P_placeLinks_68 rfl ?_
              refine ow_iload_n (pc := 69) hX d_P_placeLinks_69 rfl ?_
              refine ow_callV (pc := 70) hX (kd_P Y n s c) (by show _ < 2; first | assumption | omega) (c_P_placeLink _ Y n s c hV _ p 300 _ _ hp hs hc (by omega) (by omega) (by first | exact hI.1.1 | exact (kj_link hI (by omega)).1.1 | exact (kj_link (kj_link hI (by omega)) (by omega)).1.1)) (cw_V hX mz_P_placeLink kw_280 ⟨rfl, rfl⟩ (by decide)) rfl (Nat.le_of_ble_eq_true rfl) d_P_placeLinks_70 rfl ?_
              refine ow_nz_eq (pc := 73) (tgt := 80) hX d_P_placeLinks_73 (by decide) (by first | assumption | omega | exact kc_link_lt) (fun h73 => ?_) (fun h73 => ?_)
              · skip
                refine ow_iconst (pc := 80) (v := nI 0) hX d_P_placeLinks_80 (by decide) ?_
                refine ow_istore (pc := 81) (l2 := [(0, _), (1, _), (2, _), (3, _), (4, _), (5, _)]) hX d_P_placeLinks_81 (by decide) rfl rfl ?_
                refine ow_iload (pc := 83) hX d_P_placeLinks_83 rfl ?_
                refine ow_nz_ne (pc := 85) (tgt := 90) hX d_P_placeLinks_85 (by decide) (by first | assumption | omega | exact kc_link_lt) (fun h85 => ?_) (fun h85 => ?_)
                · skip
                  exact absurd h85 (by decide)
                · skip
                  refine ow_iconst (pc := 88) (v := nI 0) hX d_P_placeLinks_88 (by decide) ?_
                  exact ow_zret (pc := 89) hX d_P_placeLinks_89 (nb_01 (by first | decide | assumption | omega | exact kbit_le _ _)) (by rw [kl_e hf, hg]; simp only [kl1, kl2, kl3]; first | rw [if_pos h42] | rw [if_neg h42, if_neg h61, if_pos h73] | rw [if_neg h42, if_pos h61] | rw [if_neg h42, if_pos h73]) (by rw [kl_e hf, hg]; simp only [kl1, kl2, kl3]; first | rw [if_pos h42] | rw [if_neg h42, if_neg h61, if_pos h73] | rw [if_neg h42, if_pos h61] | rw [if_neg h42, if_pos h73])
              · skip
                refine ow_iconst (pc := 76) (v := nI 1) hX d_P_placeLinks_76 (by decide) ?_
                refine ow_goto (pc := 77) (tgt := 81) hX d_P_placeLinks_77 (by decide) ?_
                refine ow_istore (pc := 81) (l2 := [(0, _), (1, _), (2, _), (3, _), (4, _), (5, _)]) hX d_P_placeLinks_81 (by decide) rfl rfl ?_
                refine ow_iload (pc := 83) hX d_P_placeLinks_83 rfl ?_
                refine ow_nz_ne (pc := 85) (tgt := 90) hX d_P_placeLinks_85 (by decide) (by first | assumption | omega | exact kc_link_lt) (fun h85 => ?_) (fun h85 => ?_)
                · skip
                  refine ow_iinc (pc := 90) (l2 := [(0, _), (1, _), (2, _), (3, _), (4, _), (5, _)]) hX d_P_placeLinks_90 rfl (ii_1 _) (by decide) rfl rfl ?_
                  refine ow_goto (pc := 93) (tgt := 2) hX d_P_placeLinks_93 (by decide) ?_
                  rw [kl_e hf, hg]
                  simp only [kl1, kl2, kl3]
                  first | rw [if_neg h42, if_neg h61, if_neg h73] | rw [if_neg h42, if_neg h73]
                  refine ow_loc (l2 := [(0, _), (1, _)]) (fun q hq => by simp only [List.mem_cons, List.not_mem_nil, or_false] at hq ⊢; rcases hq with rfl | rfl <;> simp) (ih (k + 1) _ (by first | exact kj_link (kj_link (kj_link hI (by omega)) (by omega)) (by omega) | exact kj_link (kj_link hI (by omega)) (by omega)) (by omega) (by omega))
                · skip
                  exact absurd h85 (by decide)
set_option maxRecDepth 100000 in
set_option maxHeartbeats 4000000 in
theorem c_P_placeLinks (l : Launch) (Y : YY) (n s c : Nat) (hV : pv_ok (vC Y n s c)) (u : UU) (p : Nat) (hp : p < 2) (hs : s < 2 ^ 31) (h0 : 0 < c) (hc : c ≤ 4) (hn : n ≤ 6) (h1 : 1 ≤ n) (fa sa : Nat → Option Nat) (hI : kj n p fa sa u) : Ct l (vC Y n s c) ⟨"SlottedMesh$Plan", "placeLinks", "()Z"⟩ (wz ⟨"SlottedMesh$Plan", "placeLinks", "()Z"⟩ b_P_placeLinks 6 (some .boolean)) (rd 4) [.ref (pv_ad (vC Y n s c) 15 p)] u (some (.int (nI (klnks s c p fa sa (n - 1) 1 u).1))) ((klnks s c p fa sa (n - 1) 1 u).2) := by
  refine ct_mk hV (by decide +kernel) (Nat.le_of_ble_eq_true rfl) (fun X hX => ?_)
  have hX : ox X (vC Y n s c) (rd 4) b_P_placeLinks 6 "SlottedMesh$Plan" gz (some .boolean) := hX
  show ow X (vC Y n s c) (some (.int (nI (klnks s c p fa sa (n - 1) 1 u).1))) ((klnks s c p fa sa (n - 1) 1 u).2) u [(0, .ref (pv_ad (vC Y n s c) 15 p))] 0 []
  refine ow_iconst (pc := 0) (v := nI 1) hX d_P_placeLinks_0 (by decide) ?_
  refine ow_istore_n (pc := 1) (l2 := [(0, _), (1, _)]) hX d_P_placeLinks_1 (by decide) rfl rfl ?_
  exact w_P_links Y n s c hX hV p hp hs h0 hc hn fa sa (n - 1) 1 u hI (by omega) (by omega)
/-- do first parents lead from a node to node b, within j steps -/
def kleads (fa : Nat → Option Nat) (b : Nat) : Nat → Option Nat → Nat
  | 0, _ => 0
  | _ + 1, none => 0
  | j + 1, some a => if a = b then 1 else kleads fa b j (fa a)
theorem kleads_le (fa : Nat → Option Nat) (b : Nat) (j : Nat) (q : Option Nat) : kleads fa b j q ≤ 1 := by
  induction j generalizing q with
  | zero => unfold kleads; omega
  | succ j ih =>
    cases q with
    | none => unfold kleads; omega
    | some a =>
      rw [kleads]
      split
      · omega
      · exact ih _
set_option maxRecDepth 100000 in
set_option maxHeartbeats 4000000 in
theorem w_P_leads {X : OX} (Y : YY) (n s c : Nat) (hX : ox X (vC Y n s c) (rd 0) b_P_leadsUp 5 "SlottedMesh$Plan" gz (some .boolean)) (u : UU) (p x b : Nat) (hp : p < 2) (hb : b < 10) (hn : n ≤ 6) (fa : Nat → Option Nat) (hfa : ∀ i, i < n → u.2.1 17 p i = io (fa i)) (hf1 : ∀ i a, fa i = some a → a < n) : ∀ j k q, (∀ a, q = some a → a < n) → k + j = n → ow X (vC Y n s c) (some (.int (nI (kleads fa b j q)))) u u [(0, .ref (pv_ad (vC Y n s c) 15 p)), (1, .int (nI x)), (2, .int (nI b)), (3, .int (io q)), (4, .int (nI k))] 5 [] := by
  intro j
  induction j with
  | zero =>
    intro k q hq hk
    rcases q with _ | a
    · skip
      refine ow_loc (l2 := [(0, .ref (pv_ad (vC Y n s c) 15 p)), (1, .int (nI x)), (2, .int (nI b)), (3, .int (-1)), (4, .int (nI k))]) (fun z hz => hz) ?_
      refine ow_iload (pc := 5) hX d_P_leadsUp_5 rfl ?_
      refine ow_aload_n (pc := 7) hX d_P_leadsUp_7 rfl ?_
      refine ow_gR (pc := 8) hX (kd_P Y n s c) 3 d_P_leadsUp_8 kw_172 rfl (by show _ < 2; first | assumption | omega) ?_
      refine ow_len (pc := 11) hX rfl (by decide) d_P_leadsUp_11 (by show _ < 2; first | assumption | omega) ?_
      refine ow_st (st2 := .int (nI (n)) :: _) rfl ?_
      refine ow_nc_ge (pc := 12) (tgt := 40) hX d_P_leadsUp_12 (by decide) (by first | assumption | omega) (by first | assumption | omega) (fun h12 => ?_) (fun h12 => ?_)
      · skip
        refine ow_iconst (pc := 40) (v := nI 0) hX d_P_leadsUp_40 (by decide) ?_
        exact ow_zret (pc := 41) hX d_P_leadsUp_41 (nb_01 (by first | decide | assumption | omega | exact kbit_le _ _)) (by first | rfl | (unfold kleads; rfl)) (by first | rfl | (unfold kleads; rfl))
      · skip
        exact absurd h12 (by omega)
    · skip
      have ha := hq a rfl
      refine ow_loc (l2 := [(0, .ref (pv_ad (vC Y n s c) 15 p)), (1, .int (nI x)), (2, .int (nI b)), (3, .int (nI a)), (4, .int (nI k))]) (fun z hz => hz) ?_
      refine ow_iload (pc := 5) hX d_P_leadsUp_5 rfl ?_
      refine ow_aload_n (pc := 7) hX d_P_leadsUp_7 rfl ?_
      refine ow_gR (pc := 8) hX (kd_P Y n s c) 3 d_P_leadsUp_8 kw_172 rfl (by show _ < 2; first | assumption | omega) ?_
      refine ow_len (pc := 11) hX rfl (by decide) d_P_leadsUp_11 (by show _ < 2; first | assumption | omega) ?_
      refine ow_st (st2 := .int (nI (n)) :: _) rfl ?_
      refine ow_nc_ge (pc := 12) (tgt := 40) hX d_P_leadsUp_12 (by decide) (by first | assumption | omega) (by first | assumption | omega) (fun h12 => ?_) (fun h12 => ?_)
      · skip
        refine ow_iconst (pc := 40) (v := nI 0) hX d_P_leadsUp_40 (by decide) ?_
        exact ow_zret (pc := 41) hX d_P_leadsUp_41 (nb_01 (by first | decide | assumption | omega | exact kbit_le _ _)) (by first | rfl | (unfold kleads; rfl)) (by first | rfl | (unfold kleads; rfl))
      · skip
        exact absurd h12 (by omega)
  | succ j ih =>
    intro k q hq hk
    rcases q with _ | a
    · skip
      refine ow_loc (l2 := [(0, .ref (pv_ad (vC Y n s c) 15 p)), (1, .int (nI x)), (2, .int (nI b)), (3, .int (-1)), (4, .int (nI k))]) (fun z hz => hz) ?_
      refine ow_iload (pc := 5) hX d_P_leadsUp_5 rfl ?_
      refine ow_aload_n (pc := 7) hX d_P_leadsUp_7 rfl ?_
      refine ow_gR (pc := 8) hX (kd_P Y n s c) 3 d_P_leadsUp_8 kw_172 rfl (by show _ < 2; first | assumption | omega) ?_
      refine ow_len (pc := 11) hX rfl (by decide) d_P_leadsUp_11 (by show _ < 2; first | assumption | omega) ?_
      refine ow_st (st2 := .int (nI (n)) :: _) rfl ?_
      refine ow_nc_ge (pc := 12) (tgt := 40) hX d_P_leadsUp_12 (by decide) (by first | assumption | omega) (by first | assumption | omega) (fun h12 => ?_) (fun h12 => ?_)
      · skip
        exact absurd h12 (by omega)
      · skip
        refine ow_iload_n (pc := 15) hX d_P_leadsUp_15 rfl ?_
        refine ow_iconst (pc := 16) (v := (-1)) hX d_P_leadsUp_16 (by decide) ?_
        refine ow_ic_eq (pc := 17) (tgt := 40) hX d_P_leadsUp_17 (by decide) (fun h17 => ?_) (fun h17 => ?_)
        · skip
          refine ow_iconst (pc := 40) (v := nI 0) hX d_P_leadsUp_40 (by decide) ?_
          exact ow_zret (pc := 41) hX d_P_leadsUp_41 (nb_01 (by first | decide | assumption | omega | exact kbit_le _ _)) (by first | rfl | (rw [kleads, if_pos h22])) (by first | rfl | (rw [kleads, if_pos h22]))
        · skip
          exact absurd rfl h17
    · skip
      have ha := hq a rfl
      refine ow_loc (l2 := [(0, .ref (pv_ad (vC Y n s c) 15 p)), (1, .int (nI x)), (2, .int (nI b)), (3, .int (nI a)), (4, .int (nI k))]) (fun z hz => hz) ?_
      refine ow_iload (pc := 5) hX d_P_leadsUp_5 rfl ?_
      refine ow_aload_n (pc := 7) hX d_P_leadsUp_7 rfl ?_
      refine ow_gR (pc := 8) hX (kd_P Y n s c) 3 d_P_leadsUp_8 kw_172 rfl (by show _ < 2; first | assumption | omega) ?_
      refine ow_len (pc := 11) hX rfl (by decide) d_P_leadsUp_11 (by show _ < 2; first | assumption | omega) ?_
      refine ow_st (st2 := .int (nI (n)) :: _) rfl ?_
      refine ow_nc_ge (pc := 12) (tgt := 40) hX d_P_leadsUp_12 (by decide) (by first | assumption | omega) (by first | assumption | omega) (fun h12 => ?_) (fun h12 => ?_)
      · skip
        exact absurd h12 (by omega)
      · skip
        refine ow_iload_n (pc := 15) hX d_P_leadsUp_15 rfl ?_
        refine ow_iconst (pc := 16) (v := (-1)) hX d_P_leadsUp_16 (by decide) ?_
        refine ow_ic_eq (pc := 17) (tgt := 40) hX d_P_leadsUp_17 (by decide) (fun h17 => ?_) (fun h17 => ?_)
        · skip
          exact absurd h17 (nI_m1 (by first | assumption | omega))
        · skip
          refine ow_iload_n (pc := 20) hX d_P_leadsUp_20 rfl ?_
          refine ow_iload_n (pc := 21) hX d_P_leadsUp_21 rfl ?_
          refine ow_nc_ne (pc := 22) (tgt := 27) hX d_P_leadsUp_22 (by decide) (by first | assumption | omega) (by first | assumption | omega) (fun h22 => ?_) (fun h22 => ?_)
          · skip
            refine ow_aload_n (pc := 27) hX d_P_leadsUp_27 rfl ?_
            refine ow_gR (pc := 28) hX (kd_P Y n s c) 3 d_P_leadsUp_28 kw_172 rfl (by show _ < 2; first | assumption | omega) ?_
            refine ow_iload_n (pc := 31) hX d_P_leadsUp_31 rfl ?_
            refine ow_aI (pc := 32) hX rfl d_P_leadsUp_32 (by show _ < 2; first | assumption | omega) (by show _ < n; first | assumption | omega) ?_
            refine ow_val (hfa a ha) ?_
            refine ow_istore_n (pc := 33) (l2 := [(0, _), (1, _), (2, _), (3, _), (4, _)]) hX d_P_leadsUp_33 (by decide) rfl rfl ?_
            refine ow_iinc (pc := 34) (l2 := [(0, _), (1, _), (2, _), (3, _), (4, _)]) hX d_P_leadsUp_34 rfl (ii_1 _) (by decide) rfl rfl ?_
            refine ow_goto (pc := 37) (tgt := 5) hX d_P_leadsUp_37 (by decide) ?_
            rw [kleads, if_neg h22]
            exact ih (k + 1) _ (fun z hz => hf1 _ _ hz) (by omega)
          · skip
            refine ow_iconst (pc := 25) (v := nI 1) hX d_P_leadsUp_25 (by decide) ?_
            exact ow_zret (pc := 26) hX d_P_leadsUp_26 (nb_01 (by first | decide | assumption | omega | exact kbit_le _ _)) (by first | rfl | (rw [kleads, if_pos h22])) (by first | rfl | (rw [kleads, if_pos h22]))
set_option maxRecDepth 100000 in
set_option maxHeartbeats 4000000 in
theorem c_P_leadsUp (l : Launch) (Y : YY) (n s c : Nat) (hV : pv_ok (vC Y n s c)) (u : UU) (p x b : Nat) (hp : p < 2) (hb : b < 10) (hn : n ≤ 6) (fa : Nat → Option Nat) (hfa : ∀ i, i < n → u.2.1 17 p i = io (fa i)) (hf1 : ∀ i a, fa i = some a → a < n) (hx : x < n) : Ct l (vC Y n s c) ⟨"SlottedMesh$Plan", "leadsUp", "(II)Z"⟩ (wz ⟨"SlottedMesh$Plan", "leadsUp", "(II)Z"⟩ b_P_leadsUp 5 (some .boolean)) (rd 0) [.ref (pv_ad (vC Y n s c) 15 p), .int (nI x), .int (nI b)] u (some (.int (nI (kleads fa b n (some x))))) (u) := by
  refine ct_mk hV (by decide +kernel) (Nat.le_of_ble_eq_true rfl) (fun X hX => ?_)
  have hX : ox X (vC Y n s c) (rd 0) b_P_leadsUp 5 "SlottedMesh$Plan" gz (some .boolean) := hX
  show ow X (vC Y n s c) (some (.int (nI (kleads fa b n (some x))))) (u) u [(0, .ref (pv_ad (vC Y n s c) 15 p)), (1, .int (nI x)), (2, .int (nI b))] 0 []
  refine ow_iload_n (pc := 0) hX d_P_leadsUp_0 rfl ?_
  refine ow_istore_n (pc := 1) (l2 := [(0, _), (1, _), (2, _), (3, _)]) hX d_P_leadsUp_1 (by decide) rfl rfl ?_
  refine ow_iconst (pc := 2) (v := nI 0) hX d_P_leadsUp_2 (by decide) ?_
  refine ow_istore (pc := 3) (l2 := [(0, _), (1, _), (2, _), (3, _), (4, _)]) hX d_P_leadsUp_3 (by decide) rfl rfl ?_
  exact w_P_leads Y n s c hX u p x b hp hb hn fa hfa hf1 n 0 (some x) (fun a h => by cases h; exact hx) (by omega)
end
section
/-! Plan: ranks, parents, make (by program, wip/whole/gen/c6.py) -/
def kfr (o : Option Nat) : Nat := match o with
  | some a => a + 1
  | none => 0
theorem io_1 (o : Option Nat) : io o + nI 1 = nI (kfr o) := by
  cases o with
  | none => decide
  | some a => exact nI_add a 1
theorem fnd_lt {q : Nat → Bool} {j k b : Nat} (h : fnd q j k = some b) : b < k + j := by
  induction j generalizing k with
  | zero => cases h
  | succ j ih =>
    rw [fnd] at h
    split at h
    · cases h; omega
    · have := ih h; omega
theorem kfr_le {n : Nat} {u : UU} {p i f : Nat} {rk : Int32} (hf : f ≤ n) : kfr (kc_next n u p i rk f) ≤ n := by
  unfold kfr
  split
  · rename_i a h
    have := fnd_lt h
    omega
  · omega
/-- one node's parents -/
def kpar1 (n p k : Nat) (w : UU) : UU := ui (ui w 17 p k (io (kc_next n w p k (w.2.1 16 p k - nI 1) 0))) 18 p k (io (kc_next n (ui w 17 p k (io (kc_next n w p k (w.2.1 16 p k - nI 1) 0))) p k (w.2.1 16 p k - nI 1) (kfr (kc_next n w p k (w.2.1 16 p k - nI 1) 0))))
def kpars (n p : Nat) : Nat → Nat → UU → UU
  | 0, _, w => w
  | j + 1, k, w => kpars n p j (k + 1) (kpar1 n p k w)
def kc_parents (n : Nat) (u : UU) (p : Nat) : UU := kpars n p (n - 1) 1 (ui (ui u 17 p 0 (-1)) 18 p 0 (-1))
set_option maxRecDepth 100000 in
set_option maxHeartbeats 4000000 in
theorem w_P_parents {X : OX} (Y : YY) (n s c : Nat) (hX : ox X (vC Y n s c) (rd 1) b_P_findParents 3 "SlottedMesh$Plan" gz none) (hV : pv_ok (vC Y n s c)) (p : Nat) (hp : p < 2) (hn : n ≤ 6) : ∀ j k w, (∀ a b, w.1 7 a b ≤ 1) → k + j = n → ow X (vC Y n s c) none (kpars n p j k w) w [(0, .ref (pv_ad (vC Y n s c) 15 p)), (1, .ref (pv_ad (vC Y n s c) 1 0)), (2, .int (nI k))] 16 [] := by
  intro j
  induction j with
  | zero =>
    intro k w hz hk
    refine ow_iload_n (pc := 16) hX d_P_findParents_16 rfl ?_
    refine ow_aload_n (pc := 17) hX d_P_findParents_17 rfl ?_
    refine ow_len (pc := 18) hX rfl (by decide) d_P_findParents_18 Nat.zero_lt_one ?_
    refine ow_st (st2 := .int (nI (n)) :: _) rfl ?_
    refine ow_nc_ge (pc := 19) (tgt := 79) hX d_P_findParents_19 (by decide) (by first | assumption | omega) (by first | assumption | omega) (fun h19 => ?_) (fun h19 => ?_)
    · skip
      exact ow_vret (pc := 79) hX d_P_findParents_79 rfl (by rfl)
    · skip
      exact absurd h19 (by omega)
  | succ j ih =>
    intro k w hz hk
    refine ow_iload_n (pc := 16) hX d_P_findParents_16 rfl ?_
    refine ow_aload_n (pc := 17) hX d_P_findParents_17 rfl ?_
    refine ow_len (pc := 18) hX rfl (by decide) d_P_findParents_18 Nat.zero_lt_one ?_
    refine ow_st (st2 := .int (nI (n)) :: _) rfl ?_
    refine ow_nc_ge (pc := 19) (tgt := 79) hX d_P_findParents_19 (by decide) (by first | assumption | omega) (by first | assumption | omega) (fun h19 => ?_) (fun h19 => ?_)
    · skip
      exact absurd h19 (by omega)
    · skip
      refine ow_aload_n (pc := 22) hX d_P_findParents_22 rfl ?_
      refine ow_gR (pc := 23) hX (kd_P Y n s c) 3 d_P_findParents_23 kw_172 rfl (by show _ < 2; first | assumption | omega) ?_
      refine ow_iload_n (pc := 26) hX d_P_findParents_26 rfl ?_
      refine ow_aload_n (pc := 27) hX d_P_findParents_27 rfl ?_
      refine ow_aload_n (pc := 28) hX d_P_findParents_28 rfl ?_
      refine ow_iload_n (pc := 29) hX d_P_findParents_29 rfl ?_
      refine ow_aR (pc := 30) hX rfl d_P_findParents_30 Nat.zero_lt_one (by show _ < n; first | assumption | omega) ?_
      refine ow_aload_n (pc := 31) hX d_P_findParents_31 rfl ?_
      refine ow_gR (pc := 32) hX (kd_P Y n s c) 2 d_P_findParents_32 kw_170 rfl (by show _ < 2; first | assumption | omega) ?_
      refine ow_iload_n (pc := 35) hX d_P_findParents_35 rfl ?_
      refine ow_aI (pc := 36) hX rfl d_P_findParents_36 (by show _ < 2; first | assumption | omega) (by show _ < n; first | assumption | omega) ?_
      refine ow_iconst (pc := 37) (v := nI 1) hX d_P_findParents_37 (by decide) ?_
      refine ow_isub (pc := 38) hX d_P_findParents_38 ?_
      refine ow_iconst (pc := 39) (v := nI 0) hX d_P_findParents_39 (by decide) ?_
      refine ow_callV (pc := 40) hX (kd_P Y n s c) (by show _ < 2; first | assumption | omega) (c_P_nextNearOfRank _ Y n s c hV w p k (w.2.1 16 p k - nI 1) 0 hp h19 hz hn (by omega)) (cw_V hX mz_P_nextNearOfRank kw_252 ⟨rfl, rfl⟩ (by decide)) rfl (Nat.le_of_ble_eq_true rfl) d_P_findParents_40 rfl ?_
      refine ow_sI (pc := 43) hX rfl d_P_findParents_43 (by show _ < 2; first | assumption | omega) (by show _ < n; first | assumption | omega) ?_
      refine ow_aload_n (pc := 44) hX d_P_findParents_44 rfl ?_
      refine ow_gR (pc := 45) hX (kd_P Y n s c) 4 d_P_findParents_45 kw_174 rfl (by show _ < 2; first | assumption | omega) ?_
      refine ow_iload_n (pc := 48) hX d_P_findParents_48 rfl ?_
      refine ow_aload_n (pc := 49) hX d_P_findParents_49 rfl ?_
      refine ow_aload_n (pc := 50) hX d_P_findParents_50 rfl ?_
      refine ow_iload_n (pc := 51) hX d_P_findParents_51 rfl ?_
      refine ow_aR (pc := 52) hX rfl d_P_findParents_52 Nat.zero_lt_one (by show _ < n; first | assumption | omega) ?_
      refine ow_aload_n (pc := 53) hX d_P_findParents_53 rfl ?_
      refine ow_gR (pc := 54) hX (kd_P Y n s c) 2 d_P_findParents_54 kw_170 rfl (by show _ < 2; first | assumption | omega) ?_
      refine ow_iload_n (pc := 57) hX d_P_findParents_57 rfl ?_
      refine ow_aI (pc := 58) hX rfl d_P_findParents_58 (by show _ < 2; first | assumption | omega) (by show _ < n; first | assumption | omega) ?_
      try simp only [un_1, un_2, ui_1, ui_2, ui_3, ul_1, ul_2, ul_3, ul_4, ur_1, ur_2, ur_3, ur_4, Nat.reduceEqDiff, false_and, and_false, true_and, and_true, and_self, reduceIte]
      refine ow_iconst (pc := 59) (v := nI 1) hX d_P_findParents_59 (by decide) ?_
      refine ow_isub (pc := 60) hX d_P_findParents_60 ?_
      refine ow_aload_n (pc := 61) hX d_P_findParents_61 rfl ?_
      refine ow_gR (pc := 62) hX (kd_P Y n s c) 3 d_P_findParents_62 kw_172 rfl (by show _ < 2; first | assumption | omega) ?_
      refine ow_iload_n (pc := 65) hX d_P_findParents_65 rfl ?_
      refine ow_aI (pc := 66) hX rfl d_P_findParents_66 (by show _ < 2; first | assumption | omega) (by show _ < n; first | assumption | omega) ?_
      try simp only [un_1, un_2, ui_1, ui_2, ui_3, ul_1, ul_2, ul_3, ul_4, ur_1, ur_2, ur_3, ur_4, Nat.reduceEqDiff, false_and, and_false, true_and, and_true, and_self, reduceIte]
      refine ow_iconst (pc := 67) (v := nI 1) hX d_P_findParents_67 (by decide) ?_
      refine ow_iadd (pc := 68) hX d_P_findParents_68 ?_
      rw [io_1]
      refine ow_callV (pc := 69) hX (kd_P Y n s c) (by show _ < 2; first | assumption | omega) (c_P_nextNearOfRank _ Y n s c hV _ p k (w.2.1 16 p k - nI 1) _ hp h19 hz hn (kfr_le (by omega))) (cw_V hX mz_P_nextNearOfRank kw_252 ⟨rfl, rfl⟩ (by decide)) rfl (Nat.le_of_ble_eq_true rfl) d_P_findParents_69 rfl ?_
      refine ow_sI (pc := 72) hX rfl d_P_findParents_72 (by show _ < 2; first | assumption | omega) (by show _ < n; first | assumption | omega) ?_
      refine ow_iinc (pc := 73) (l2 := [(0, _), (1, _), (2, _)]) hX d_P_findParents_73 rfl (ii_1 _) (by decide) rfl rfl ?_
      refine ow_goto (pc := 76) (tgt := 16) hX d_P_findParents_76 (by decide) ?_
      exact ih (k + 1) _ hz (by omega)
set_option maxRecDepth 100000 in
set_option maxHeartbeats 4000000 in
theorem c_P_findParents (l : Launch) (Y : YY) (n s c : Nat) (hV : pv_ok (vC Y n s c)) (u : UU) (p : Nat) (hp : p < 2) (hn : n ≤ 6) (h1 : 1 ≤ n) (hz : ∀ a b, u.1 7 a b ≤ 1) : Ct l (vC Y n s c) ⟨"SlottedMesh$Plan", "findParents", "([LSlottedMesh$Node;)V"⟩ (wz ⟨"SlottedMesh$Plan", "findParents", "([LSlottedMesh$Node;)V"⟩ b_P_findParents 3 none) (rd 1) [.ref (pv_ad (vC Y n s c) 15 p), .ref (pv_ad (vC Y n s c) 1 0)] u none (kc_parents n u p) := by
  refine ct_mk hV (by decide +kernel) (Nat.le_of_ble_eq_true rfl) (fun X hX => ?_)
  have hX : ox X (vC Y n s c) (rd 1) b_P_findParents 3 "SlottedMesh$Plan" gz none := hX
  show ow X (vC Y n s c) none (kc_parents n u p) u [(0, .ref (pv_ad (vC Y n s c) 15 p)), (1, .ref (pv_ad (vC Y n s c) 1 0))] 0 []
  refine ow_aload_n (pc := 0) hX d_P_findParents_0 rfl ?_
  refine ow_gR (pc := 1) hX (kd_P Y n s c) 3 d_P_findParents_1 kw_172 rfl (by show _ < 2; first | assumption | omega) ?_
  refine ow_iconst (pc := 4) (v := nI 0) hX d_P_findParents_4 (by decide) ?_
  refine ow_iconst (pc := 5) (v := (-1)) hX d_P_findParents_5 (by decide) ?_
  refine ow_sI (pc := 6) hX rfl d_P_findParents_6 (by show _ < 2; first | assumption | omega) (by show _ < n; first | assumption | omega) ?_
  refine ow_aload_n (pc := 7) hX d_P_findParents_7 rfl ?_
  refine ow_gR (pc := 8) hX (kd_P Y n s c) 4 d_P_findParents_8 kw_174 rfl (by show _ < 2; first | assumption | omega) ?_
  refine ow_iconst (pc := 11) (v := nI 0) hX d_P_findParents_11 (by decide) ?_
  refine ow_iconst (pc := 12) (v := (-1)) hX d_P_findParents_12 (by decide) ?_
  refine ow_sI (pc := 13) hX rfl d_P_findParents_13 (by show _ < 2; first | assumption | omega) (by show _ < n; first | assumption | omega) ?_
  refine ow_iconst (pc := 14) (v := nI 1) hX d_P_findParents_14 (by decide) ?_
  refine ow_istore_n (pc := 15) (l2 := [(0, _), (1, _), (2, _)]) hX d_P_findParents_15 (by decide) rfl rfl ?_
  exact w_P_parents Y n s c hX hV p hp hn (n - 1) 1 _ hz (by omega)
/-- how many of the first m q holds of -/
def cn (q : Nat → Bool) : Nat → Nat
  | 0 => 0
  | m + 1 => cn q m + (if q m then 1 else 0)
theorem cn_le (q : Nat → Bool) (m : Nat) : cn q m ≤ m := by
  induction m with
  | zero => exact Nat.le_refl 0
  | succ m ih => rw [cn]; split <;> omega
theorem cn_lt {q : Nat → Bool} {m k : Nat} (hk : k < m) (h : q k = false) : cn q m < m := by
  induction m with
  | zero => omega
  | succ m ih =>
    rw [cn]
    by_cases e : k = m
    · subst e
      have := cn_le q k
      rw [if_neg (by rw [h]; decide)]; omega
    · have := ih (by omega)
      split <;> omega
theorem cn_eq {q r : Nat → Bool} {m : Nat} (h : ∀ k, k < m → q k = r k) : cn q m = cn r m := by
  induction m with
  | zero => rfl
  | succ m ih => rw [cn, cn, ih (fun k hk => h k (by omega)), h m (by omega)]
theorem cn_up {q r : Nat → Bool} {m k : Nat} (hk : k < m) (h : q k = false) (h1 : r k = true) (h2 : ∀ a, a ≠ k → r a = q a) : cn r m = cn q m + 1 := by
  induction m with
  | zero => omega
  | succ m ih =>
    rw [cn, cn]
    by_cases e : k = m
    · subst e
      rw [cn_eq (q := r) (r := q) (fun a ha => h2 a (by omega)), h1, h]
      simp
    · rw [ih (by omega), h2 m (Ne.symm e)]
      split <;> omega
def kas (w : UU) (p : Nat) : Nat → Bool := fun k => decide (w.2.1 16 p k ≠ -1)
/-- one look at node k in round r -/
def krk1 (n p r k : Nat) (w : UU × Nat) : UU × Nat := if w.1.2.1 16 p k = -1 ∧ kc_next n w.1 p k (nI (r - 1)) 0 ≠ none then (un (ui w.1 16 p k (nI r)) 19 p w.2 k, w.2 + 1) else w
def krk2 (n p r : Nat) : Nat → Nat → UU × Nat → UU × Nat
  | 0, _, w => w
  | j + 1, k, w => krk2 n p r j (k + 1) (krk1 n p r k w)
def krk3 (n p : Nat) : Nat → Nat → UU × Nat → UU × Nat
  | 0, _, w => w
  | j + 1, r, w => krk3 n p j (r + 1) (krk2 n p r n 0 w)
def krk0 (n : Nat) (u : UU) (p : Nat) : UU := un (ui (fo (fun j w => ui w 16 p j (-1)) u n) 16 p 0 (nI 0)) 19 p 0 0
def kc_ranks (n : Nat) (u : UU) (p : Nat) : UU × Nat := krk3 n p (n - 1) 1 (krk0 n u p, 1)
/-- as many were found as have a rank; near's places are 0 or 1 -/
def kri (n p : Nat) (w : UU × Nat) : Prop := w.2 = cn (kas w.1 p) n ∧ ∀ a b, w.1.1 7 a b ≤ 1
theorem kri_1 {n p r k : Nat} {w : UU × Nat} (h : kri n p w) (hk : k < n) (hr : r < 2 ^ 31) : kri n p (krk1 n p r k w) := by
  unfold krk1
  split
  · rename_i h1
    refine ⟨?_, fun a b => ?_⟩
    · show w.2 + 1 = _
      rw [h.1]
      refine (cn_up hk ?_ ?_ ?_).symm
      · simp [kas, h1.1]
      · show decide ((ui w.1 16 p k (nI r)).2.1 16 p k ≠ -1) = true
        rw [ui_2, if_pos ⟨rfl, rfl, rfl⟩]
        exact decide_eq_true (nI_m1 hr)
      · intro a ha
        show decide ((ui w.1 16 p k (nI r)).2.1 16 p a ≠ -1) = decide (w.1.2.1 16 p a ≠ -1)
        rw [ui_2, if_neg (fun q => ha q.2.2)]
    · show (un (ui w.1 16 p k (nI r)) 19 p w.2 k).1 7 a b ≤ 1
      rw [un_1, if_neg (by omega)]
      exact h.2 a b
  · exact h
theorem krk1_a {n p r k : Nat} {w : UU × Nat} (h : ¬ w.1.2.1 16 p k = -1) : krk1 n p r k w = w := by unfold krk1; rw [if_neg (fun q => h q.1)]
theorem krk1_b {n p r k : Nat} {w : UU × Nat} (h : kc_next n w.1 p k (nI (r - 1)) 0 = none) : krk1 n p r k w = w := by unfold krk1; rw [if_neg (fun q => q.2 h)]
theorem krk1_c {n p r k b : Nat} {w : UU × Nat} (h : w.1.2.1 16 p k = -1) (ho : kc_next n w.1 p k (nI (r - 1)) 0 = some b) : krk1 n p r k w = (un (ui w.1 16 p k (nI r)) 19 p w.2 k, w.2 + 1) := by
  unfold krk1; rw [if_pos ⟨h, by rw [ho]; exact fun q => by cases q⟩]
theorem kri_2 {n p r : Nat} (hr : r < 2 ^ 31) : ∀ j k (w : UU × Nat), kri n p w → k + j = n → kri n p (krk2 n p r j k w) := by
  intro j
  induction j with
  | zero => intro k w h _; exact h
  | succ j ih => intro k w h hk; exact ih (k + 1) _ (kri_1 h (by omega) hr) (by omega)
set_option maxRecDepth 100000 in
set_option maxHeartbeats 4000000 in
theorem w_P_ranks2 {X : OX} (Y : YY) (n s c : Nat) (hX : ox X (vC Y n s c) (rd 1) b_P_findRanks 5 "SlottedMesh$Plan" gz (some .boolean)) (hV : pv_ok (vC Y n s c)) (p : Nat) (hp : p < 2) (hn : n ≤ 6) (r : Nat) (rr : Option Value) (uu : UU) : ∀ j k (w : UU × Nat), kri n p w → (1 ≤ r ∧ r < n) → k + j = n → (∀ z : UU × Nat, z = krk2 n p r j k w → ow X (vC Y n s c) rr uu z.1 [(0, .ref (pv_ad (vC Y n s c) 15 p)), (1, .ref (pv_ad (vC Y n s c) 1 0)), (2, .int (nI z.2)), (3, .int (nI r)), (4, .int (nI n))] 94 []) → ow X (vC Y n s c) rr uu w.1 [(0, .ref (pv_ad (vC Y n s c) 15 p)), (1, .ref (pv_ad (vC Y n s c) 1 0)), (2, .int (nI w.2)), (3, .int (nI r)), (4, .int (nI k))] 35 [] := by
  intro j
  induction j with
  | zero =>
    intro k w hI hr hk K
    refine ow_iload (pc := 35) hX d_P_findRanks_35 rfl ?_
    refine ow_aload_n (pc := 37) hX d_P_findRanks_37 rfl ?_
    refine ow_len (pc := 38) hX rfl (by decide) d_P_findRanks_38 Nat.zero_lt_one ?_
    refine ow_st (st2 := .int (nI (n)) :: _) rfl ?_
    refine ow_nc_ge (pc := 39) (tgt := 94) hX d_P_findRanks_39 (by decide) (by first | assumption | omega | (have := cn_le (kas w.1 p) n; have := hI.1; omega)) (by first | assumption | omega | (have := cn_le (kas w.1 p) n; have := hI.1; omega)) (fun h39 => ?_) (fun h39 => ?_)
    · skip
      have e9 : k = n := by omega
      subst e9
      exact K w rfl
    · skip
      exact absurd h39 (by omega)
  | succ j ih =>
    intro k w hI hr hk K
    refine ow_iload (pc := 35) hX d_P_findRanks_35 rfl ?_
    refine ow_aload_n (pc := 37) hX d_P_findRanks_37 rfl ?_
    refine ow_len (pc := 38) hX rfl (by decide) d_P_findRanks_38 Nat.zero_lt_one ?_
    refine ow_st (st2 := .int (nI (n)) :: _) rfl ?_
    refine ow_nc_ge (pc := 39) (tgt := 94) hX d_P_findRanks_39 (by decide) (by first | assumption | omega | (have := cn_le (kas w.1 p) n; have := hI.1; omega)) (by first | assumption | omega | (have := cn_le (kas w.1 p) n; have := hI.1; omega)) (fun h39 => ?_) (fun h39 => ?_)
    · skip
      exact absurd h39 (by omega)
    · skip
      refine ow_aload_n (pc := 42) hX d_P_findRanks_42 rfl ?_
      refine ow_gR (pc := 43) hX (kd_P Y n s c) 2 d_P_findRanks_43 kw_170 rfl (by show _ < 2; first | assumption | omega | (have h9 := cn_lt (q := kas w.1 p) h39 (by simp [kas, h50]); have := hI.1; omega)) ?_
      refine ow_iload (pc := 46) hX d_P_findRanks_46 rfl ?_
      refine ow_aI (pc := 48) hX rfl d_P_findRanks_48 (by show _ < 2; first | assumption | omega | (have h9 := cn_lt (q := kas w.1 p) h39 (by simp [kas, h50]); have := hI.1; omega)) (by show _ < n; first | assumption | omega | (have h9 := cn_lt (q := kas w.1 p) h39 (by simp [kas, h50]); have := hI.1; omega)) ?_
      refine ow_iconst (pc := 49) (v := (-1)) hX d_P_findRanks_49 (by decide) ?_
      refine ow_ic_ne (pc := 50) (tgt := 88) hX d_P_findRanks_50 (by decide) (fun h50 => ?_) (fun h50 => ?_)
      · skip
        refine ow_iinc (pc := 88) (l2 := [(0, _), (1, _), (2, _), (3, _), (4, _)]) hX d_P_findRanks_88 rfl (ii_1 _) (by decide) rfl rfl ?_
        refine ow_goto (pc := 91) (tgt := 35) hX d_P_findRanks_91 (by decide) ?_
        first | exact ih (k + 1) w hI hr (by omega) (fun z hz => K z (by rw [hz, krk2, krk1_a h50])) | exact ih (k + 1) w hI hr (by omega) (fun z hz => K z (by rw [hz, krk2, krk1_b ho])) | exact ih (k + 1) (un (ui w.1 16 p k (nI r)) 19 p w.2 k, w.2 + 1) (by rw [← krk1_c h50 ho]; exact kri_1 hI h39 (by omega)) hr (by omega) (fun z hz => K z (by rw [hz, krk2, krk1_c h50 ho]))
      · skip
        refine ow_aload_n (pc := 53) hX d_P_findRanks_53 rfl ?_
        refine ow_aload_n (pc := 54) hX d_P_findRanks_54 rfl ?_
        refine ow_iload (pc := 55) hX d_P_findRanks_55 rfl ?_
        refine ow_aR (pc := 57) hX rfl d_P_findRanks_57 Nat.zero_lt_one (by show _ < n; first | assumption | omega | (have h9 := cn_lt (q := kas w.1 p) h39 (by simp [kas, h50]); have := hI.1; omega)) ?_
        refine ow_iload_n (pc := 58) hX d_P_findRanks_58 rfl ?_
        refine ow_iconst (pc := 59) (v := nI 1) hX d_P_findRanks_59 (by decide) ?_
        refine ow_subn (pc := 60) hX d_P_findRanks_60 (by first | assumption | omega | (have := cn_le (kas w.1 p) n; have := hI.1; omega)) ?_
        refine ow_iconst (pc := 61) (v := nI 0) hX d_P_findRanks_61 (by decide) ?_
        refine ow_callV (pc := 62) hX (kd_P Y n s c) (by show _ < 2; first | assumption | omega | (have h9 := cn_lt (q := kas w.1 p) h39 (by simp [kas, h50]); have := hI.1; omega)) (c_P_nextNearOfRank _ Y n s c hV w.1 p k (nI (r - 1)) 0 hp h39 hI.2 hn (by omega)) (cw_V hX mz_P_nextNearOfRank kw_252 ⟨rfl, rfl⟩ (by decide)) rfl (Nat.le_of_ble_eq_true rfl) d_P_findRanks_62 rfl ?_
        rcases ho : kc_next n w.1 p k (nI (r - 1)) 0 with _ | b
        · skip
          refine ow_st (st2 := .int (-1) :: _) rfl ?_
          refine ow_iconst (pc := 65) (v := (-1)) hX d_P_findRanks_65 (by decide) ?_
          refine ow_ic_eq (pc := 66) (tgt := 88) hX d_P_findRanks_66 (by decide) (fun h66 => ?_) (fun h66 => ?_)
          · skip
            refine ow_iinc (pc := 88) (l2 := [(0, _), (1, _), (2, _), (3, _), (4, _)]) hX d_P_findRanks_88 rfl (ii_1 _) (by decide) rfl rfl ?_
            refine ow_goto (pc := 91) (tgt := 35) hX d_P_findRanks_91 (by decide) ?_
            first | exact ih (k + 1) w hI hr (by omega) (fun z hz => K z (by rw [hz, krk2, krk1_a h50])) | exact ih (k + 1) w hI hr (by omega) (fun z hz => K z (by rw [hz, krk2, krk1_b ho])) | exact ih (k + 1) (un (ui w.1 16 p k (nI r)) 19 p w.2 k, w.2 + 1) (by rw [← krk1_c h50 ho]; exact kri_1 hI h39 (by omega)) hr (by omega) (fun z hz => K z (by rw [hz, krk2, krk1_c h50 ho]))
          · skip
            exact absurd rfl h66
        · skip
          have hb : b < n := by have := fnd_lt ho; omega
          refine ow_st (st2 := .int (nI b) :: _) rfl ?_
          refine ow_iconst (pc := 65) (v := (-1)) hX d_P_findRanks_65 (by decide) ?_
          refine ow_ic_eq (pc := 66) (tgt := 88) hX d_P_findRanks_66 (by decide) (fun h66 => ?_) (fun h66 => ?_)
          · skip
            exact absurd h66 (nI_m1 (by first | assumption | omega | (have := cn_le (kas w.1 p) n; have := hI.1; omega)))
          · skip
            refine ow_aload_n (pc := 69) hX d_P_findRanks_69 rfl ?_
            refine ow_gR (pc := 70) hX (kd_P Y n s c) 2 d_P_findRanks_70 kw_170 rfl (by show _ < 2; first | assumption | omega | (have h9 := cn_lt (q := kas w.1 p) h39 (by simp [kas, h50]); have := hI.1; omega)) ?_
            refine ow_iload (pc := 73) hX d_P_findRanks_73 rfl ?_
            refine ow_iload_n (pc := 75) hX d_P_findRanks_75 rfl ?_
            refine ow_sI (pc := 76) hX rfl d_P_findRanks_76 (by show _ < 2; first | assumption | omega | (have h9 := cn_lt (q := kas w.1 p) h39 (by simp [kas, h50]); have := hI.1; omega)) (by show _ < n; first | assumption | omega | (have h9 := cn_lt (q := kas w.1 p) h39 (by simp [kas, h50]); have := hI.1; omega)) ?_
            refine ow_aload_n (pc := 77) hX d_P_findRanks_77 rfl ?_
            refine ow_gR (pc := 78) hX (kd_P Y n s c) 5 d_P_findRanks_78 kw_176 rfl (by show _ < 2; first | assumption | omega | (have h9 := cn_lt (q := kas w.1 p) h39 (by simp [kas, h50]); have := hI.1; omega)) ?_
            refine ow_iload_n (pc := 81) hX d_P_findRanks_81 rfl ?_
            refine ow_iload (pc := 82) hX d_P_findRanks_82 rfl ?_
            refine ow_sN (pc := 84) hX rfl d_P_findRanks_84 (by show _ < 2; first | assumption | omega | (have h9 := cn_lt (q := kas w.1 p) h39 (by simp [kas, h50]); have := hI.1; omega)) (by show _ < n; first | assumption | omega | (have h9 := cn_lt (q := kas w.1 p) h39 (by simp [kas, h50]); have := hI.1; omega)) ?_
            refine ow_iinc (pc := 85) (l2 := [(0, _), (1, _), (2, _), (3, _), (4, _)]) hX d_P_findRanks_85 rfl (ii_1 _) (by decide) rfl rfl ?_
            refine ow_iinc (pc := 88) (l2 := [(0, _), (1, _), (2, _), (3, _), (4, _)]) hX d_P_findRanks_88 rfl (ii_1 _) (by decide) rfl rfl ?_
            refine ow_goto (pc := 91) (tgt := 35) hX d_P_findRanks_91 (by decide) ?_
            first | exact ih (k + 1) w hI hr (by omega) (fun z hz => K z (by rw [hz, krk2, krk1_a h50])) | exact ih (k + 1) w hI hr (by omega) (fun z hz => K z (by rw [hz, krk2, krk1_b ho])) | exact ih (k + 1) (un (ui w.1 16 p k (nI r)) 19 p w.2 k, w.2 + 1) (by rw [← krk1_c h50 ho]; exact kri_1 hI h39 (by omega)) hr (by omega) (fun z hz => K z (by rw [hz, krk2, krk1_c h50 ho]))
set_option maxRecDepth 100000 in
set_option maxHeartbeats 4000000 in
theorem w_P_ranks3 {X : OX} (Y : YY) (n s c : Nat) (hX : ox X (vC Y n s c) (rd 1) b_P_findRanks 5 "SlottedMesh$Plan" gz (some .boolean)) (hV : pv_ok (vC Y n s c)) (p : Nat) (hp : p < 2) (hn : n ≤ 6) : ∀ j r (w : UU × Nat), kri n p w → 1 ≤ r → r + j = n → ow X (vC Y n s c) (some (.int (nI (if (krk3 n p j r w).2 = n then 1 else 0)))) (krk3 n p j r w).1 w.1 [(0, .ref (pv_ad (vC Y n s c) 15 p)), (1, .ref (pv_ad (vC Y n s c) 1 0)), (2, .int (nI w.2)), (3, .int (nI r))] 26 [] := by
  intro j
  induction j with
  | zero =>
    intro r w hI hr1 hk
    refine ow_iload_n (pc := 26) hX d_P_findRanks_26 rfl ?_
    refine ow_aload_n (pc := 27) hX d_P_findRanks_27 rfl ?_
    refine ow_len (pc := 28) hX rfl (by decide) d_P_findRanks_28 Nat.zero_lt_one ?_
    refine ow_st (st2 := .int (nI (n)) :: _) rfl ?_
    refine ow_nc_ge (pc := 29) (tgt := 100) hX d_P_findRanks_29 (by decide) (by first | assumption | omega | (have := cn_le (kas w.1 p) n; have := hI.1; omega)) (by first | assumption | omega | (have := cn_le (kas w.1 p) n; have := hI.1; omega)) (fun h29 => ?_) (fun h29 => ?_)
    · skip
      refine ow_iload_n (pc := 100) hX d_P_findRanks_100 rfl ?_
      refine ow_aload_n (pc := 101) hX d_P_findRanks_101 rfl ?_
      refine ow_len (pc := 102) hX rfl (by decide) d_P_findRanks_102 Nat.zero_lt_one ?_
      refine ow_st (st2 := .int (nI (n)) :: _) rfl ?_
      refine ow_nc_ne (pc := 103) (tgt := 110) hX d_P_findRanks_103 (by decide) (by first | assumption | omega | (have := cn_le (kas w.1 p) n; have := hI.1; omega)) (by first | assumption | omega | (have := cn_le (kas w.1 p) n; have := hI.1; omega)) (fun h103 => ?_) (fun h103 => ?_)
      · skip
        refine ow_iconst (pc := 110) (v := nI 0) hX d_P_findRanks_110 (by decide) ?_
        exact ow_zret (pc := 111) hX d_P_findRanks_111 (nb_01 (by first | decide | assumption | omega | exact kbit_le _ _)) (by first | rfl | (rw [krk3]; first | rw [if_pos h103] | rw [if_neg h103])) (by first | rfl | (rw [krk3]; first | rw [if_pos h103] | rw [if_neg h103]))
      · skip
        refine ow_iconst (pc := 106) (v := nI 1) hX d_P_findRanks_106 (by decide) ?_
        refine ow_goto (pc := 107) (tgt := 111) hX d_P_findRanks_107 (by decide) ?_
        exact ow_zret (pc := 111) hX d_P_findRanks_111 (nb_01 (by first | decide | assumption | omega | exact kbit_le _ _)) (by first | rfl | (rw [krk3]; first | rw [if_pos h103] | rw [if_neg h103])) (by first | rfl | (rw [krk3]; first | rw [if_pos h103] | rw [if_neg h103]))
    · skip
      exact absurd h29 (by omega)
  | succ j ih =>
    intro r w hI hr1 hk
    refine ow_iload_n (pc := 26) hX d_P_findRanks_26 rfl ?_
    refine ow_aload_n (pc := 27) hX d_P_findRanks_27 rfl ?_
    refine ow_len (pc := 28) hX rfl (by decide) d_P_findRanks_28 Nat.zero_lt_one ?_
    refine ow_st (st2 := .int (nI (n)) :: _) rfl ?_
    refine ow_nc_ge (pc := 29) (tgt := 100) hX d_P_findRanks_29 (by decide) (by first | assumption | omega) (by first | assumption | omega) (fun h29 => ?_) (fun h29 => ?_)
    · skip
      exact absurd h29 (by omega)
    · skip
      refine ow_iconst (pc := 32) (v := nI 0) hX d_P_findRanks_32 (by decide) ?_
      refine ow_istore (pc := 33) (l2 := [(0, _), (1, _), (2, _), (3, _), (4, _)]) hX d_P_findRanks_33 (by decide) rfl rfl ?_
      refine w_P_ranks2 Y n s c hX hV p hp hn r _ _ n 0 w hI ⟨hr1, h29⟩ (by omega) (fun z hz => ?_)
      refine ow_iinc (pc := 94) (l2 := [(0, _), (1, _), (2, _), (3, _), (4, _)]) hX d_P_findRanks_94 rfl (ii_1 _) (by decide) rfl rfl ?_
      refine ow_goto (pc := 97) (tgt := 26) hX d_P_findRanks_97 (by decide) ?_
      rw [krk3, ← hz]
      refine ow_loc (l2 := [(0, _), (1, _), (2, _), (3, _)]) (fun q hq => by simp only [List.mem_cons, List.not_mem_nil, or_false] at hq ⊢; rcases hq with rfl | rfl | rfl | rfl <;> simp) (ih (r + 1) z (by rw [hz]; exact kri_2 (by omega) n 0 w hI (by omega)) (by omega) (by omega))
theorem kri_0 {n p : Nat} {u : UU} (h1 : 1 ≤ n) (hz : ∀ a b, u.1 7 a b ≤ 1) : kri n p (krk0 n u p, 1) := by
  have hf : ∀ m, (fo (fun j w => ui w 16 p j (-1)) u m).1 = u.1 ∧ ∀ k, k < m → (fo (fun j w => ui w 16 p j (-1)) u m).2.1 16 p k = -1 := by
    intro m
    induction m with
    | zero => exact ⟨rfl, fun k hk => by omega⟩
    | succ m ih =>
      refine ⟨ih.1, fun k hk => ?_⟩
      show (ui (fo (fun j w => ui w 16 p j (-1)) u m) 16 p m (-1)).2.1 16 p k = -1
      rw [ui_2]
      split
      · rfl
      · exact ih.2 k (by omega)
  refine ⟨?_, fun a b => ?_⟩
  · have e : ∀ k, k < n → kas (krk0 n u p) p k = decide (k = 0) := by
      intro k hk
      show decide ((ui (fo (fun j w => ui w 16 p j (-1)) u n) 16 p 0 (nI 0)).2.1 16 p k ≠ -1) = decide (k = 0)
      rw [ui_2]
      by_cases h0 : k = 0
      · subst h0
        rw [if_pos ⟨rfl, rfl, rfl⟩]
        decide
      · rw [if_neg (fun q => h0 q.2.2), (hf n).2 k hk]
        simp [h0]
    rw [cn_eq e]
    clear e hf
    induction n with
    | zero => omega
    | succ n ih =>
      rw [cn]
      by_cases h0 : n = 0
      · subst h0; rfl
      · rw [← ih (by omega)]
        simp [h0]
  · show (un (ui (fo (fun j w => ui w 16 p j (-1)) u n) 16 p 0 (nI 0)) 19 p 0 0).1 7 a b ≤ 1
    rw [un_1, if_neg (by omega)]
    show (fo (fun j w => ui w 16 p j (-1)) u n).1 7 a b ≤ 1
    rw [(hf n).1]
    exact hz a b
set_option maxRecDepth 100000 in
set_option maxHeartbeats 4000000 in
theorem c_P_findRanks (l : Launch) (Y : YY) (n s c : Nat) (hV : pv_ok (vC Y n s c)) (u : UU) (p : Nat) (hp : p < 2) (hn : n ≤ 6) (h1 : 1 ≤ n) (hz : ∀ a b, u.1 7 a b ≤ 1) : Ct l (vC Y n s c) ⟨"SlottedMesh$Plan", "findRanks", "([LSlottedMesh$Node;)Z"⟩ (wz ⟨"SlottedMesh$Plan", "findRanks", "([LSlottedMesh$Node;)Z"⟩ b_P_findRanks 5 (some .boolean)) (rd 1) [.ref (pv_ad (vC Y n s c) 15 p), .ref (pv_ad (vC Y n s c) 1 0)] u (some (.int (nI (if (kc_ranks n u p).2 = n then 1 else 0)))) ((kc_ranks n u p).1) := by
  refine ct_mk hV (by decide +kernel) (Nat.le_of_ble_eq_true rfl) (fun X hX => ?_)
  have hX : ox X (vC Y n s c) (rd 1) b_P_findRanks 5 "SlottedMesh$Plan" gz (some .boolean) := hX
  show ow X (vC Y n s c) (some (.int (nI (if (kc_ranks n u p).2 = n then 1 else 0)))) ((kc_ranks n u p).1) u [(0, .ref (pv_ad (vC Y n s c) 15 p)), (1, .ref (pv_ad (vC Y n s c) 1 0))] 0 []
  refine ow_aload_n (pc := 0) hX d_P_findRanks_0 rfl ?_
  refine ow_gR (pc := 1) hX (kd_P Y n s c) 2 d_P_findRanks_1 kw_170 rfl (by show _ < 2; first | assumption | omega) ?_
  refine ow_iconst (pc := 4) (v := (-1)) hX d_P_findRanks_4 (by decide) ?_
  refine ow_callS (pc := 5) hX (c_A_fill_i _ Y n s c hV u 16 p 0 (-1) rfl hp (by show n < 2 ^ 31; omega)) (cw_S hX mz_A_fill kw_245 ⟨rfl, rfl⟩ (by decide)) rfl (Nat.le_of_ble_eq_true rfl) d_P_findRanks_5 rfl ?_
  refine ow_aload_n (pc := 8) hX d_P_findRanks_8 rfl ?_
  refine ow_gR (pc := 9) hX (kd_P Y n s c) 2 d_P_findRanks_9 kw_170 rfl (by show _ < 2; first | assumption | omega) ?_
  refine ow_iconst (pc := 12) (v := nI 0) hX d_P_findRanks_12 (by decide) ?_
  refine ow_iconst (pc := 13) (v := nI 0) hX d_P_findRanks_13 (by decide) ?_
  refine ow_sI (pc := 14) hX rfl d_P_findRanks_14 (by show _ < 2; first | assumption | omega) (by show _ < n; first | assumption | omega) ?_
  refine ow_aload_n (pc := 15) hX d_P_findRanks_15 rfl ?_
  refine ow_gR (pc := 16) hX (kd_P Y n s c) 5 d_P_findRanks_16 kw_176 rfl (by show _ < 2; first | assumption | omega) ?_
  refine ow_iconst (pc := 19) (v := nI 0) hX d_P_findRanks_19 (by decide) ?_
  refine ow_iconst (pc := 20) (v := nI 0) hX d_P_findRanks_20 (by decide) ?_
  refine ow_sN (pc := 21) hX rfl d_P_findRanks_21 (by show _ < 2; first | assumption | omega) (by show _ < n; first | assumption | omega) ?_
  refine ow_iconst (pc := 22) (v := nI 1) hX d_P_findRanks_22 (by decide) ?_
  refine ow_istore_n (pc := 23) (l2 := [(0, _), (1, _), (2, _)]) hX d_P_findRanks_23 (by decide) rfl rfl ?_
  refine ow_iconst (pc := 24) (v := nI 1) hX d_P_findRanks_24 (by decide) ?_
  refine ow_istore_n (pc := 25) (l2 := [(0, _), (1, _), (2, _), (3, _)]) hX d_P_findRanks_25 (by decide) rfl rfl ?_
  exact w_P_ranks3 Y n s c hX hV p hp hn (n - 1) 1 (krk0 n u p, 1) (kri_0 h1 hz) (by omega) (by omega)
end
section
/-! Plan: what the loops leave (pure rows) -/
theorem fnd_some {q : Nat → Bool} {j k b : Nat} (h : fnd q j k = some b) : q b = true ∧ k ≤ b ∧ b < k + j := by
  induction j generalizing k with
  | zero => cases h
  | succ j ih =>
    rw [fnd] at h
    split at h
    · rename_i hq; cases h; exact ⟨hq, by omega, by omega⟩
    · have := ih h; exact ⟨this.1, by omega, by omega⟩
theorem fnd_none {q : Nat → Bool} {j k : Nat} (h : fnd q j k = none) : ∀ b, k ≤ b → b < k + j → q b = false := by
  induction j generalizing k with
  | zero => intro b h1 h2; omega
  | succ j ih =>
    intro b h1 h2
    rw [fnd] at h
    split at h
    · cases h
    · rename_i hq
      by_cases e : b = k
      · subst e; simpa using hq
      · exact ih h b (by omega) (by omega)
theorem fnd_ex {q : Nat → Bool} {j k b : Nat} (h1 : k ≤ b) (h2 : b < k + j) (hq : q b = true) : ∃ a, fnd q j k = some a := by
  cases h : fnd q j k with
  | some a => exact ⟨a, rfl⟩
  | none => have := fnd_none h b h1 h2; rw [hq] at this; cases this
theorem fnd_first {q : Nat → Bool} {j k b : Nat} (h : fnd q j k = some b) : ∀ a, k ≤ a → a < b → q a = false := by
  induction j generalizing k with
  | zero => cases h
  | succ j ih =>
    intro a h1 h2
    rw [fnd] at h
    split at h
    · cases h; omega
    · rename_i hq
      by_cases e : a = k
      · subst e; simpa using hq
      · exact ih h a (by omega) h2
theorem fnd_cong {q r : Nat → Bool} {j k : Nat} (h : ∀ a, k ≤ a → a < k + j → q a = r a) : fnd q j k = fnd r j k := by
  induction j generalizing k with
  | zero => rfl
  | succ j ih => rw [fnd, fnd, h k (by omega) (by omega), ih (fun a h1 h2 => h a (by omega) (by omega))]
theorem knr_cong {u w : UU} {p i : Nat} {rk : Int32} (h1 : ∀ k, w.1 7 i k = u.1 7 i k) (h2 : ∀ k, w.2.1 16 p k = u.2.1 16 p k) : knr w p i rk = knr u p i rk := by
  funext k
  unfold knr
  rw [h1, h2]
/-- parents, by ranks -/
def kfa (n : Nat) (u : UU) (p i : Nat) : Option Nat := if i = 0 then none else kc_next n u p i (u.2.1 16 p i - nI 1) 0
def ksa (n : Nat) (u : UU) (p i : Nat) : Option Nat := if i = 0 then none else kc_next n u p i (u.2.1 16 p i - nI 1) (kfr (kfa n u p i))
theorem kfa_lt {n : Nat} {u : UU} {p i a : Nat} (h : kfa n u p i = some a) : a < n := by
  unfold kfa at h
  split at h
  · cases h
  · have := fnd_lt h; omega
theorem ksa_lt {n : Nat} {u : UU} {p i a : Nat} (h : ksa n u p i = some a) : a < n := by
  unfold ksa at h
  split at h
  · cases h
  · have h1 := fnd_lt h
    have h2 : kfr (kfa n u p i) ≤ n := by
      cases e : kfa n u p i with
      | none => simp [kfr]
      | some b => have := kfa_lt e; simp [kfr]; omega
    omega
/-- what findParents leaves: i0 nodes are done -/
def kpi (u : UU) (n p m : Nat) (w : UU) : Prop := w.1 = u.1 ∧ w.2.2 = u.2.2 ∧ (∀ a b c, a ≠ 17 → a ≠ 18 → w.2.1 a b c = u.2.1 a b c) ∧ (∀ b c, b ≠ p → w.2.1 17 b c = u.2.1 17 b c ∧ w.2.1 18 b c = u.2.1 18 b c) ∧ ∀ i, i < m → w.2.1 17 p i = io (kfa n u p i) ∧ w.2.1 18 p i = io (ksa n u p i)
theorem kpi_next {u w : UU} {n p m k : Nat} (h : kpi u n p m w) (i : Nat) (rk : Int32) : kc_next n w p i rk k = kc_next n u p i rk k := by
  unfold kc_next
  rw [knr_cong (fun a => by rw [h.1]) (fun a => h.2.2.1 16 p a (by decide) (by decide))]
theorem kpi_1 {u w : UU} {n p m : Nat} (h : kpi u n p m w) (hm : m ≠ 0) : kpi u n p (m + 1) (kpar1 n p m w) := by
  have e16 : w.2.1 16 p m = u.2.1 16 p m := h.2.2.1 16 p m (by decide) (by decide)
  have e1 : kc_next n w p m (w.2.1 16 p m - nI 1) 0 = kfa n u p m := by rw [kpi_next h, e16]; unfold kfa; rw [if_neg hm]
  have e2 : ∀ z k, kc_next n (ui w 17 p m z) p m (w.2.1 16 p m - nI 1) k = kc_next n u p m (u.2.1 16 p m - nI 1) k := by
    intro z k
    rw [e16]
    unfold kc_next
    rw [knr_cong (u := u) (w := ui w 17 p m z) (fun a => by rw [ui_1, h.1]) (fun a => by rw [ui_2, if_neg (by omega)]; exact h.2.2.1 16 p a (by decide) (by decide))]
  have e3 : kpar1 n p m w = ui (ui w 17 p m (io (kfa n u p m))) 18 p m (io (ksa n u p m)) := by
    unfold kpar1
    rw [e2, e1]
    congr 2
    unfold ksa
    rw [if_neg hm]
  rw [e3]
  refine ⟨h.1, h.2.1, fun a b c h1 h2 => ?_, fun b c hb => ?_, fun i hi => ?_⟩
  · rw [ui_2, if_neg (fun q => h2 q.1), ui_2, if_neg (fun q => h1 q.1)]; exact h.2.2.1 a b c h1 h2
  · rw [ui_2, if_neg (fun q => hb q.2.1), ui_2, if_neg (fun q => hb q.2.1), ui_2, if_neg (fun q => hb q.2.1), ui_2, if_neg (fun q => hb q.2.1)]; exact h.2.2.2.1 b c hb
  · by_cases e : i = m
    · subst e
      rw [ui_2, if_neg (by omega), ui_2, if_pos ⟨rfl, rfl, rfl⟩, ui_2, if_pos ⟨rfl, rfl, rfl⟩]
      exact ⟨rfl, rfl⟩
    · rw [ui_2, if_neg (by omega), ui_2, if_neg (by omega), ui_2, if_neg (by omega), ui_2, if_neg (by omega)]
      exact h.2.2.2.2 i (by omega)
theorem kpi_s {u : UU} {n p : Nat} : ∀ j k w, kpi u n p k w → k ≠ 0 → kpi u n p (k + j) (kpars n p j k w) := by
  intro j
  induction j with
  | zero => intro k w h _; exact h
  | succ j ih =>
    intro k w h hk
    have := ih (k + 1) _ (kpi_1 h hk) (by omega)
    rw [show k + (j + 1) = k + 1 + j by omega]
    exact this
theorem kpi_all {u : UU} {n p : Nat} (h1 : 1 ≤ n) : kpi u n p n (kc_parents n u p) := by
  have h0 : kpi u n p 1 (ui (ui u 17 p 0 (-1)) 18 p 0 (-1)) := by
    refine ⟨rfl, rfl, fun a b c h1 h2 => ?_, fun b c hb => ?_, fun i hi => ?_⟩
    · rw [ui_2, if_neg (fun q => h2 q.1), ui_2, if_neg (fun q => h1 q.1)]
    · rw [ui_2, if_neg (fun q => hb q.2.1), ui_2, if_neg (fun q => hb q.2.1), ui_2, if_neg (fun q => hb q.2.1), ui_2, if_neg (fun q => hb q.2.1)]
      exact ⟨rfl, rfl⟩
    · have e : i = 0 := by omega
      subst e
      rw [ui_2, if_neg (by omega), ui_2, if_pos ⟨rfl, rfl, rfl⟩, ui_2, if_pos ⟨rfl, rfl, rfl⟩]
      exact ⟨rfl, rfl⟩
  have := kpi_s (n - 1) 1 _ h0 (by omega)
  rw [show 1 + (n - 1) = n by omega] at this
  exact this
/-- what findRanks keeps: found nodes stand in the order, each but the first with a near one of the rank before -/
def kro (u : UU) (n p : Nat) (w : UU × Nat) : Prop :=
  (∀ a b c, a ≠ 19 → w.1.1 a b c = u.1 a b c) ∧ w.1.2.2 = u.2.2 ∧ (∀ a b c, a ≠ 16 → w.1.2.1 a b c = u.2.1 a b c) ∧ (∀ b c, b ≠ p → w.1.2.1 16 b c = u.2.1 16 b c ∧ w.1.1 19 b c = u.1 19 b c) ∧
  1 ≤ w.2 ∧ ¬ w.1.2.1 16 p 0 = -1 ∧ (∀ i, i < w.2 → w.1.1 19 p i < n) ∧
  ∀ i, 1 ≤ i → i < w.2 → w.1.1 19 p i ≠ 0 ∧ ¬ w.1.2.1 16 p (w.1.1 19 p i) = -1 ∧ ∃ b, b < n ∧ w.1.1 7 (w.1.1 19 p i) b ≠ 0 ∧ ¬ w.1.2.1 16 p b = -1 ∧ w.1.2.1 16 p b = w.1.2.1 16 p (w.1.1 19 p i) - nI 1
theorem kro_1 {u : UU} {n p r k : Nat} {w : UU × Nat} (h : kro u n p w) (hk : k < n) (h1 : 1 ≤ r) (hr : r < 2 ^ 31) : kro u n p (krk1 n p r k w) := by
  obtain ⟨c1, c2, c3, c4, c5, c6, c7, c8⟩ := h
  unfold krk1
  split
  · rename_i h0
    obtain ⟨hm, hne⟩ := h0
    obtain ⟨b, hb⟩ : ∃ b, kc_next n w.1 p k (nI (r - 1)) 0 = some b := by
      cases e : kc_next n w.1 p k (nI (r - 1)) 0 with
      | none => exact absurd e hne
      | some b => exact ⟨b, rfl⟩
    have hs := fnd_some hb
    have hq : w.1.1 7 k b ≠ 0 ∧ w.1.2.1 16 p b = nI (r - 1) := by simpa [knr] using hs.1
    have hk0 : k ≠ 0 := fun e => c6 (by rw [← e]; exact hm)
    have hbk : b ≠ k := fun e => by
      have h2 := hq.2
      rw [e, hm] at h2
      exact nI_m1 (by omega) h2.symm
    have en : ∀ a b c, a ≠ 19 → (un (ui w.1 16 p k (nI r)) 19 p w.2 k).1 a b c = w.1.1 a b c := fun a b c ha => by rw [un_1, if_neg (fun q => ha q.1)]; rfl
    have eo : ∀ i, (un (ui w.1 16 p k (nI r)) 19 p w.2 k).1 19 p i = if i = w.2 then k else w.1.1 19 p i := fun i => by
      rw [un_1]
      by_cases e : i = w.2
      · rw [if_pos ⟨rfl, rfl, e⟩, if_pos e]
      · rw [if_neg (fun q => e q.2.2), if_neg e]; rfl
    have er : ∀ i, (un (ui w.1 16 p k (nI r)) 19 p w.2 k).2.1 16 p i = if i = k then nI r else w.1.2.1 16 p i := fun i => by
      rw [un_2, ui_2]
      by_cases e : i = k
      · rw [if_pos ⟨rfl, rfl, e⟩, if_pos e]
      · rw [if_neg (fun q => e q.2.2), if_neg e]
    refine ⟨fun a b c ha => ?_, c2, fun a b c ha => ?_, fun b c hb => ⟨?_, ?_⟩, by show 1 ≤ w.2 + 1; omega, ?_, fun i hi => ?_, fun i hi1 hi2 => ?_⟩
    · rw [en a b c ha]; exact c1 a b c ha
    · show (ui w.1 16 p k (nI r)).2.1 a b c = _
      rw [ui_2, if_neg (fun q => ha q.1)]; exact c3 a b c ha
    · show (ui w.1 16 p k (nI r)).2.1 16 b c = _
      rw [ui_2, if_neg (fun q => hb q.2.1)]; exact (c4 b c hb).1
    · rw [un_1, if_neg (fun q => hb q.2.1)]; exact (c4 b c hb).2
    · rw [er, if_neg (Ne.symm hk0)]; exact c6
    · show (un (ui w.1 16 p k (nI r)) 19 p w.2 k).1 19 p i < n
      rw [eo]
      split
      · exact hk
      · exact c7 i (by have : i < w.2 + 1 := hi; omega)
    · show (un (ui w.1 16 p k (nI r)) 19 p w.2 k).1 19 p i ≠ 0 ∧ ¬ (un (ui w.1 16 p k (nI r)) 19 p w.2 k).2.1 16 p ((un (ui w.1 16 p k (nI r)) 19 p w.2 k).1 19 p i) = -1 ∧ ∃ b, b < n ∧ (un (ui w.1 16 p k (nI r)) 19 p w.2 k).1 7 ((un (ui w.1 16 p k (nI r)) 19 p w.2 k).1 19 p i) b ≠ 0 ∧ ¬ (un (ui w.1 16 p k (nI r)) 19 p w.2 k).2.1 16 p b = -1 ∧ (un (ui w.1 16 p k (nI r)) 19 p w.2 k).2.1 16 p b = (un (ui w.1 16 p k (nI r)) 19 p w.2 k).2.1 16 p ((un (ui w.1 16 p k (nI r)) 19 p w.2 k).1 19 p i) - nI 1
      rw [eo]
      by_cases e : i = w.2
      · rw [if_pos e, er, if_pos rfl]
        refine ⟨hk0, nI_m1 hr, b, by have := hs.2.2; omega, by rw [en 7 k b (by decide)]; exact hq.1, by rw [er, if_neg hbk, hq.2]; exact nI_m1 (by omega), ?_⟩
        rw [er, if_neg hbk, hq.2, pk_sub h1]
      · obtain ⟨d1, d2, b2, d3, d4, d5, d6⟩ := c8 i hi1 (by have : i < w.2 + 1 := hi2; omega)
        have hb2 : b2 ≠ k := fun q => d5 (by rw [q]; exact hm)
        have ho2 : w.1.1 19 p i ≠ k := fun q => d2 (by rw [q]; exact hm)
        rw [if_neg e, er, if_neg ho2]
        exact ⟨d1, d2, b2, d3, by rw [en 7 _ b2 (by decide)]; exact d4, by rw [er, if_neg hb2]; exact d5, by rw [er, if_neg hb2]; exact d6⟩
  · exact ⟨c1, c2, c3, c4, c5, c6, c7, c8⟩
theorem kro_2 {u : UU} {n p r : Nat} (h1 : 1 ≤ r) (hr : r < 2 ^ 31) : ∀ j k (w : UU × Nat), kro u n p w → k + j = n → kro u n p (krk2 n p r j k w) := by
  intro j
  induction j with
  | zero => intro k w h _; exact h
  | succ j ih => intro k w h hk; exact ih (k + 1) _ (kro_1 h (by omega) h1 hr) (by omega)
theorem kro_3 {u : UU} {n p : Nat} (hn : n < 2 ^ 31) : ∀ j r (w : UU × Nat), kro u n p w → 1 ≤ r → r + j = n → kro u n p (krk3 n p j r w) := by
  intro j
  induction j with
  | zero => intro r w h _ _; exact h
  | succ j ih => intro r w h h1 hk; exact ih (r + 1) _ (kro_2 h1 (by omega) n 0 w h (by omega)) (by omega) (by omega)
theorem kfl16 (u : UU) (p : Nat) (v : Int32) (m : Nat) : (fo (fun j w => ui w 16 p j v) u m).1 = u.1 ∧ (fo (fun j w => ui w 16 p j v) u m).2.2 = u.2.2 ∧ ∀ a b c, (fo (fun j w => ui w 16 p j v) u m).2.1 a b c = if a = 16 ∧ b = p ∧ c < m then v else u.2.1 a b c := by
  induction m with
  | zero => exact ⟨rfl, rfl, fun a b c => by rw [if_neg (by omega)]; rfl⟩
  | succ m ih =>
    refine ⟨ih.1, ih.2.1, fun a b c => ?_⟩
    show (ui (fo (fun j w => ui w 16 p j v) u m) 16 p m v).2.1 a b c = _
    rw [ui_2, ih.2.2]
    by_cases h1 : a = 16 ∧ b = p ∧ c = m
    · rw [if_pos h1, if_pos (by omega)]
    · rw [if_neg h1]
      by_cases h2 : a = 16 ∧ b = p ∧ c < m
      · rw [if_pos h2, if_pos (by omega)]
      · rw [if_neg h2, if_neg (by omega)]
theorem kro_all {u : UU} {n p : Nat} (h1 : 1 ≤ n) (hn : n < 2 ^ 31) : kro u n p (kc_ranks n u p) := by
  obtain ⟨f1, f2, f3⟩ := kfl16 u p (-1) n
  refine kro_3 hn (n - 1) 1 _ ⟨fun a b c ha => ?_, f2, fun a b c ha => ?_, fun b c hb => ⟨?_, ?_⟩, Nat.le_refl 1, ?_, fun i hi => ?_, fun i hi1 hi2 => absurd hi2 (by show ¬ i < 1; omega)⟩ (by omega) (by omega)
  · show (un (ui _ 16 p 0 (nI 0)) 19 p 0 0).1 a b c = _
    rw [un_1, if_neg (fun q => ha q.1), ui_1, f1]
  · show (ui _ 16 p 0 (nI 0)).2.1 a b c = _
    rw [ui_2, if_neg (fun q => ha q.1), f3, if_neg (fun q => ha q.1)]
  · show (ui _ 16 p 0 (nI 0)).2.1 16 b c = _
    rw [ui_2, if_neg (fun q => hb q.2.1), f3, if_neg (fun q => hb q.2.1)]
  · show (un (ui _ 16 p 0 (nI 0)) 19 p 0 0).1 19 b c = _
    rw [un_1, if_neg (fun q => hb q.2.1), ui_1, f1]
  · show ¬ (ui _ 16 p 0 (nI 0)).2.1 16 p 0 = -1
    rw [ui_2, if_pos ⟨rfl, rfl, rfl⟩]
    exact nI_m1 (by decide)
  · have e : i = 0 := by have : i < 1 := hi; omega
    subst e
    show (un (ui _ 16 p 0 (nI 0)) 19 p 0 0).1 19 p 0 < n
    rw [un_1, if_pos ⟨rfl, rfl, rfl⟩]
    omega
/-- behind ranks that were found for all, the parents are as placeLinks needs them -/
theorem kj_all {u : UU} {n p : Nat} (h1 : 1 ≤ n) (hn : n < 2 ^ 31) (hg : ∀ q, u.1 20 p q < 400) (hf : (kc_ranks n u p).2 = n) : kj n p (kfa n (kc_ranks n u p).1 p) (ksa n (kc_ranks n u p).1 p) (kc_parents n (kc_ranks n u p).1 p) := by
  obtain ⟨c1, c2, c3, c4, c5, c6, c7, c8⟩ := kro_all (u := u) (p := p) h1 hn
  obtain ⟨p1, p2, p3, p4, p5⟩ := kpi_all (u := (kc_ranks n u p).1) (p := p) h1
  refine ⟨⟨fun q => by rw [p1, c1 20 p q (by decide)]; exact hg q, fun k hk => by rw [p1]; exact c7 k (by omega)⟩, fun i hi => (p5 i hi).1, fun i hi => (p5 i hi).2, fun k hk1 hk2 => ?_, fun i a h => ksa_lt h⟩
  rw [p1]
  obtain ⟨d1, d2, b, d3, d4, d5, d6⟩ := c8 k hk1 (by omega)
  obtain ⟨a, ha⟩ := fnd_ex (q := knr (kc_ranks n u p).1 p ((kc_ranks n u p).1.1 19 p k) ((kc_ranks n u p).1.2.1 16 p ((kc_ranks n u p).1.1 19 p k) - nI 1)) (j := n - 0) (k := 0) (Nat.zero_le b) (by omega) (knr_t d4 d6)
  have e : kfa n (kc_ranks n u p).1 p ((kc_ranks n u p).1.1 19 p k) = some a := by
    unfold kfa kc_next
    rw [if_neg d1]
    exact ha
  exact ⟨a, e, kfa_lt e⟩
/-- adverts leave the rest -/
theorem kc_adv_2 {c p x : Nat} {w : UU} {o : Option Nat} : (kc_adv c w p x o).2.2 = w.2 := by
  cases o with
  | none => rfl
  | some a => show (un (kc_fill c w p a (100 + 10 * x)) 15 p 7 _).2 = _; rw [un_2, kc_fill_2]
theorem kc_adv_o {c p x : Nat} {w : UU} {o : Option Nat} (i k : Nat) : (kc_adv c w p x o).2.1 19 i k = w.1 19 i k := by
  cases o with
  | none => rfl
  | some a =>
    show (un (kc_fill c w p a (100 + 10 * x)) 15 p 7 _).1 19 i k = _
    rw [un_1, if_neg (by omega), kc_fill_1, if_neg (by omega)]
theorem kj_adv {n p s c : Nat} {fa sa : Nat → Option Nat} {w : UU} {x : Nat} (h : kj n p fa sa w) (hx : x < 10) : kj n p fa sa (kc_advert s c w p x).2 := by
  unfold kc_advert
  refine ⟨ki_adv h.1 hx, fun i hi => ?_, fun i hi => ?_, fun k h1 h2 => ?_, h.2.2.2.2⟩
  · rw [kc_adv_2]; exact h.2.1 i hi
  · rw [kc_adv_2]; exact h.2.2.1 i hi
  · rw [kc_adv_o]; exact h.2.2.2.1 k h1 h2
theorem kj_advs {n p s c : Nat} {fa sa : Nat → Option Nat} (hn : n ≤ 6) : ∀ j k w, kj n p fa sa w → k + j = n → kj n p fa sa (kadvs s c p j k w).2 := by
  intro j
  induction j with
  | zero => intro k w h _; exact h
  | succ j ih =>
    intro k w h hk
    have hx := h.1.2 k (by omega)
    rw [kadvs]
    split
    · exact kj_adv h (by omega)
    · exact ih (k + 1) _ (kj_adv h (by omega)) (by omega)
end
section
/-! Plan.make; SlottedMesh: small calls (by program, wip/whole/gen/c7.py) -/
theorem kfl20 (u : UU) (p v : Nat) (m : Nat) : (fo (fun j w => un w 20 p j v) u m).2 = u.2 ∧ ∀ a b c, (fo (fun j w => un w 20 p j v) u m).1 a b c = if a = 20 ∧ b = p ∧ c < m then v else u.1 a b c := by
  induction m with
  | zero => exact ⟨rfl, fun a b c => by rw [if_neg (by omega)]; rfl⟩
  | succ m ih =>
    refine ⟨ih.1, fun a b c => ?_⟩
    show (un (fo (fun j w => un w 20 p j v) u m) 20 p m v).1 a b c = _
    rw [un_1, ih.2]
    by_cases h1 : a = 20 ∧ b = p ∧ c = m
    · rw [if_pos h1, if_pos (by omega)]
    · rw [if_neg h1]
      by_cases h2 : a = 20 ∧ b = p ∧ c < m
      · rw [if_pos h2, if_pos (by omega)]
      · rw [if_neg h2, if_neg (by omega)]
/-- a plan that is empty -/
def kmk (s c : Nat) (u : UU) (p : Nat) : UU := fo (fun j w => un w 20 p j 0) (un (un u 15 p 8 0) 15 p 7 0) (s * c)
theorem kmk_z {s c : Nat} {u : UU} {p : Nat} (hz : ∀ a b, u.1 7 a b ≤ 1) : ∀ a b, (kmk s c u p).1 7 a b ≤ 1 := fun a b => by
  unfold kmk
  rw [(kfl20 _ p 0 (s * c)).2, if_neg (by omega), un_1, if_neg (by omega), un_1, if_neg (by omega)]
  exact hz a b
theorem kmk_g {s c : Nat} {u : UU} {p : Nat} (hg : ∀ q, u.1 20 p q < 400) : ∀ q, (kmk s c u p).1 20 p q < 400 := fun q => by
  unfold kmk
  rw [(kfl20 _ p 0 (s * c)).2]
  split
  · omega
  · rw [un_1, if_neg (by omega), un_1, if_neg (by omega)]; exact hg q
def kc_mk3 (n s c : Nat) (u : UU) (p : Nat) (R : UU) : Nat × UU := if (kadvs s c p n 0 u).1 = 0 then (0, un (kadvs s c p n 0 u).2 15 p 8 0) else if (klnks s c p (kfa n R p) (ksa n R p) (n - 1) 1 (kadvs s c p n 0 u).2).1 = 0 then (0, un (klnks s c p (kfa n R p) (ksa n R p) (n - 1) 1 (kadvs s c p n 0 u).2).2 15 p 8 0) else (1, un (klnks s c p (kfa n R p) (ksa n R p) (n - 1) 1 (kadvs s c p n 0 u).2).2 15 p 8 1)
def kc_make (n s c : Nat) (u : UU) (p : Nat) : Nat × UU := if (kc_ranks n (kmk s c u p) p).2 = n then kc_mk3 n s c (kc_parents n (kc_ranks n (kmk s c u p) p).1 p) p (kc_ranks n (kmk s c u p) p).1 else (0, (kc_ranks n (kmk s c u p) p).1)
theorem kadvs_lt {s c p : Nat} : ∀ j k w, (kadvs s c p j k w).1 < 2 ^ 31 := by
  intro j
  induction j with
  | zero => intro k w; show 1 < 2 ^ 31; decide
  | succ j ih => intro k w; rw [kadvs]; split; (· show 0 < 2 ^ 31; decide); exact ih _ _
theorem klnks_lt {s c p : Nat} {fa sa : Nat → Option Nat} : ∀ j k w, (klnks s c p fa sa j k w).1 < 2 ^ 31 := by
  intro j
  induction j with
  | zero => intro k w; show 1 < 2 ^ 31; decide
  | succ j ih =>
    intro k w
    rw [klnks]
    split
    · show 0 < 2 ^ 31; decide
    · unfold kl1 kl2 kl3
      repeat' split
      all_goals first | exact ih _ _ | (show 0 < 2 ^ 31; decide)
set_option maxRecDepth 100000 in
set_option maxHeartbeats 4000000 in
theorem c_P_make (l : Launch) (Y : YY) (n s c : Nat) (hV : pv_ok (vC Y n s c)) (u : UU) (p : Nat) (hp : p < 2) (hs : s < 2 ^ 31) (hsc : s * c < 2 ^ 31) (h0 : 0 < c) (hc : c ≤ 4) (hn : n ≤ 6) (h1 : 1 ≤ n) (hz : ∀ a b, u.1 7 a b ≤ 1) (hg : ∀ q, u.1 20 p q < 400) : Ct l (vC Y n s c) ⟨"SlottedMesh$Plan", "make", "([LSlottedMesh$Node;)Z"⟩ (wz ⟨"SlottedMesh$Plan", "make", "([LSlottedMesh$Node;)Z"⟩ b_P_make 2 (some .boolean)) (rd 5) [.ref (pv_ad (vC Y n s c) 15 p), .ref (pv_ad (vC Y n s c) 1 0)] u (some (.int (nI (kc_make n s c u p).1))) ((kc_make n s c u p).2) := by
  refine ct_mk hV (by decide +kernel) (Nat.le_of_ble_eq_true rfl) (fun X hX => ?_)
  have hX : ox X (vC Y n s c) (rd 5) b_P_make 2 "SlottedMesh$Plan" gz (some .boolean) := hX
  show ow X (vC Y n s c) (some (.int (nI (kc_make n s c u p).1))) ((kc_make n s c u p).2) u [(0, .ref (pv_ad (vC Y n s c) 15 p)), (1, .ref (pv_ad (vC Y n s c) 1 0))] 0 []
  refine ow_aload_n (pc := 0) hX d_P_make_0 rfl ?_
  refine ow_iconst (pc := 1) (v := nI 0) hX d_P_make_1 (by decide) ?_
  refine ow_pZ (pc := 2) hX (kd_P Y n s c) 8 d_P_make_2 kw_180 rfl (by show _ < 2; first | assumption | omega) rfl (by decide +kernel) (by first | assumption | omega | exact kadvs_lt _ _ _ | exact klnks_lt _ _ _ | (split <;> decide)) ?_
  refine ow_aload_n (pc := 5) hX d_P_make_5 rfl ?_
  refine ow_iconst (pc := 6) (v := nI 0) hX d_P_make_6 (by decide) ?_
  refine ow_pN (pc := 7) hX (kd_P Y n s c) 7 d_P_make_7 kw_179 rfl (by show _ < 2; first | assumption | omega) rfl (by decide +kernel) ?_
  refine ow_aload_n (pc := 10) hX d_P_make_10 rfl ?_
  refine ow_gR (pc := 11) hX (kd_P Y n s c) 6 d_P_make_11 kw_177 rfl (by show _ < 2; first | assumption | omega) ?_
  refine ow_iconst (pc := 14) (v := nI 0) hX d_P_make_14 (by decide) ?_
  refine ow_callS (pc := 15) hX (c_A_fill_n _ Y n s c hV _ 20 p 0 0 rfl hp (by show s * c < 2 ^ 31; exact hsc)) (cw_S hX mz_A_fill kw_245 ⟨rfl, rfl⟩ (by decide)) rfl (Nat.le_of_ble_eq_true rfl) d_P_make_15 rfl ?_
  refine ow_aload_n (pc := 18) hX d_P_make_18 rfl ?_
  refine ow_aload_n (pc := 19) hX d_P_make_19 rfl ?_
  refine ow_callV (pc := 20) hX (kd_P Y n s c) (by show _ < 2; first | assumption | omega) (c_P_findRanks _ Y n s c hV (kmk s c u p) p hp hn h1 (kmk_z hz)) (cw_V hX mz_P_findRanks kw_248 ⟨rfl, rfl⟩ (by decide)) rfl (Nat.le_of_ble_eq_true rfl) d_P_make_20 rfl ?_
  refine ow_nz_ne (pc := 23) (tgt := 28) hX d_P_make_23 (by decide) (by first | assumption | omega | exact kadvs_lt _ _ _ | exact klnks_lt _ _ _ | (split <;> decide)) (fun h23 => ?_) (fun h23 => ?_)
  · skip
    have hf : (kc_ranks n (kmk s c u p) p).2 = n := Classical.byContradiction (fun q => h23 (by rw [if_neg q]))
    have hz2 : ∀ a b, (kc_ranks n (kmk s c u p) p).1.1 7 a b ≤ 1 := fun a b => by rw [(kro_all h1 (by omega)).1 7 a b (by decide)]; exact kmk_z hz a b
    have hJ := kj_all h1 (by omega) (kmk_g hg) hf
    refine ow_aload_n (pc := 28) hX d_P_make_28 rfl ?_
    refine ow_aload_n (pc := 29) hX d_P_make_29 rfl ?_
    refine ow_callV (pc := 30) hX (kd_P Y n s c) (by show _ < 2; first | assumption | omega) (c_P_findParents _ Y n s c hV (kc_ranks n (kmk s c u p) p).1 p hp hn h1 hz2) (cw_V hX mz_P_findParents kw_256 ⟨rfl, rfl⟩ (by decide)) rfl (Nat.le_of_ble_eq_true rfl) d_P_make_30 rfl ?_
    refine ow_aload_n (pc := 33) hX d_P_make_33 rfl ?_
    refine ow_aload_n (pc := 34) hX d_P_make_34 rfl ?_
    refine ow_callV (pc := 35) hX (kd_P Y n s c) (by show _ < 2; first | assumption | omega) (c_P_placeAdverts _ Y n s c hV (kc_parents n (kc_ranks n (kmk s c u p) p).1 p) p hp hs h0 hc hn hJ.1) (cw_V hX mz_P_placeAdverts kw_260 ⟨rfl, rfl⟩ (by decide)) rfl (Nat.le_of_ble_eq_true rfl) d_P_make_35 rfl ?_
    refine ow_nz_eq (pc := 38) (tgt := 52) hX d_P_make_38 (by decide) (by first | assumption | omega | exact kadvs_lt _ _ _ | exact klnks_lt _ _ _ | (split <;> decide)) (fun h38 => ?_) (fun h38 => ?_)
    · skip
      refine ow_iconst (pc := 52) (v := nI 0) hX d_P_make_52 (by decide) ?_
      refine ow_pZ (pc := 53) hX (kd_P Y n s c) 8 d_P_make_53 kw_180 rfl (by show _ < 2; first | assumption | omega) rfl (by decide +kernel) (by first | assumption | omega | exact kadvs_lt _ _ _ | exact klnks_lt _ _ _ | (split <;> decide)) ?_
      refine ow_aload_n (pc := 56) hX d_P_make_56 rfl ?_
      refine ow_gN (pc := 57) hX (kd_P Y n s c) 8 d_P_make_57 kw_180 rfl (by show _ < 2; first | assumption | omega) ?_
      try simp only [un_1, un_2, ui_1, ui_2, ui_3, ul_1, ul_2, ul_3, ul_4, ur_1, ur_2, ur_3, ur_4, Nat.reduceEqDiff, false_and, and_false, true_and, and_true, and_self, reduceIte]
      exact ow_zret (pc := 60) hX d_P_make_60 (nb_01 (by first | decide | assumption | omega | exact kbit_le _ _)) (by (unfold kc_make; first | (rw [if_neg (fun q => by rw [if_pos q] at h23; cases h23)]; done) | (rw [if_pos hf]; unfold kc_mk3; first | rw [if_pos h38] | rw [if_neg h38, if_pos h45] | rw [if_neg h38, if_neg h45]))) (by (unfold kc_make; first | (rw [if_neg (fun q => by rw [if_pos q] at h23; cases h23)]; done) | (rw [if_pos hf]; unfold kc_mk3; first | rw [if_pos h38] | rw [if_neg h38, if_pos h45] | rw [if_neg h38, if_neg h45])))
    · skip
      refine ow_aload_n (pc := 41) hX d_P_make_41 rfl ?_
      refine ow_callV (pc := 42) hX (kd_P Y n s c) (by show _ < 2; first | assumption | omega) (c_P_placeLinks _ Y n s c hV _ p hp hs h0 hc hn h1 (kfa n (kc_ranks n (kmk s c u p) p).1 p) (ksa n (kc_ranks n (kmk s c u p) p).1 p) (kj_advs hn n 0 _ hJ (by omega))) (cw_V hX mz_P_placeLinks kw_276 ⟨rfl, rfl⟩ (by decide)) rfl (Nat.le_of_ble_eq_true rfl) d_P_make_42 rfl ?_
      refine ow_nz_eq (pc := 45) (tgt := 52) hX d_P_make_45 (by decide) (by first | assumption | omega | exact kadvs_lt _ _ _ | exact klnks_lt _ _ _ | (split <;> decide)) (fun h45 => ?_) (fun h45 => ?_)
      · skip
        refine ow_iconst (pc := 52) (v := nI 0) hX d_P_make_52 (by decide) ?_
        refine ow_pZ (pc := 53) hX (kd_P Y n s c) 8 d_P_make_53 kw_180 rfl (by show _ < 2; first | assumption | omega) rfl (by decide +kernel) (by first | assumption | omega | exact kadvs_lt _ _ _ | exact klnks_lt _ _ _ | (split <;> decide)) ?_
        refine ow_aload_n (pc := 56) hX d_P_make_56 rfl ?_
        refine ow_gN (pc := 57) hX (kd_P Y n s c) 8 d_P_make_57 kw_180 rfl (by show _ < 2; first | assumption | omega) ?_
        try simp only [un_1, un_2, ui_1, ui_2, ui_3, ul_1, ul_2, ul_3, ul_4, ur_1, ur_2, ur_3, ur_4, Nat.reduceEqDiff, false_and, and_false, true_and, and_true, and_self, reduceIte]
        exact ow_zret (pc := 60) hX d_P_make_60 (nb_01 (by first | decide | assumption | omega | exact kbit_le _ _)) (by (unfold kc_make; first | (rw [if_neg (fun q => by rw [if_pos q] at h23; cases h23)]; done) | (rw [if_pos hf]; unfold kc_mk3; first | rw [if_pos h38] | rw [if_neg h38, if_pos h45] | rw [if_neg h38, if_neg h45]))) (by (unfold kc_make; first | (rw [if_neg (fun q => by rw [if_pos q] at h23; cases h23)]; done) | (rw [if_pos hf]; unfold kc_mk3; first | rw [if_pos h38] | rw [if_neg h38, if_pos h45] | rw [if_neg h38, if_neg h45])))
      · skip
        refine ow_iconst (pc := 48) (v := nI 1) hX d_P_make_48 (by decide) ?_
        refine ow_goto (pc := 49) (tgt := 53) hX d_P_make_49 (by decide) ?_
        refine ow_pZ (pc := 53) hX (kd_P Y n s c) 8 d_P_make_53 kw_180 rfl (by show _ < 2; first | assumption | omega) rfl (by decide +kernel) (by first | assumption | omega | exact kadvs_lt _ _ _ | exact klnks_lt _ _ _ | (split <;> decide)) ?_
        refine ow_aload_n (pc := 56) hX d_P_make_56 rfl ?_
        refine ow_gN (pc := 57) hX (kd_P Y n s c) 8 d_P_make_57 kw_180 rfl (by show _ < 2; first | assumption | omega) ?_
        try simp only [un_1, un_2, ui_1, ui_2, ui_3, ul_1, ul_2, ul_3, ul_4, ur_1, ur_2, ur_3, ur_4, Nat.reduceEqDiff, false_and, and_false, true_and, and_true, and_self, reduceIte]
        exact ow_zret (pc := 60) hX d_P_make_60 (nb_01 (by first | decide | assumption | omega | exact kbit_le _ _)) (by (unfold kc_make; first | (rw [if_neg (fun q => by rw [if_pos q] at h23; cases h23)]; done) | (rw [if_pos hf]; unfold kc_mk3; first | rw [if_pos h38] | rw [if_neg h38, if_pos h45] | rw [if_neg h38, if_neg h45]))) (by (unfold kc_make; first | (rw [if_neg (fun q => by rw [if_pos q] at h23; cases h23)]; done) | (rw [if_pos hf]; unfold kc_mk3; first | rw [if_pos h38] | rw [if_neg h38, if_pos h45] | rw [if_neg h38, if_neg h45])))
  · skip
    refine ow_iconst (pc := 26) (v := nI 0) hX d_P_make_26 (by decide) ?_
    exact ow_zret (pc := 27) hX d_P_make_27 (nb_01 (by first | decide | assumption | omega | exact kbit_le _ _)) (by (unfold kc_make; first | (rw [if_neg (fun q => by rw [if_pos q] at h23; cases h23)]; done) | (rw [if_pos hf]; unfold kc_mk3; first | rw [if_pos h38] | rw [if_neg h38, if_pos h45] | rw [if_neg h38, if_neg h45]))) (by (unfold kc_make; first | (rw [if_neg (fun q => by rw [if_pos q] at h23; cases h23)]; done) | (rw [if_pos hf]; unfold kc_mk3; first | rw [if_pos h38] | rw [if_neg h38, if_pos h45] | rw [if_neg h38, if_neg h45])))
/-- a number that names one of n things -/
def nd (n : Nat) (x : Int32) : Option Nat := if x < 0 then none else if nI n ≤ x then none else some x.toNatClampNeg
theorem nd_some {n a : Nat} {x : Int32} (hn : n < 2 ^ 31) (h : nd n x = some a) : a < n ∧ x = nI a := by
  unfold nd at h
  split at h
  · cases h
  · split at h
    · cases h
    · rename_i h1 h2
      obtain ⟨j, hj, rfl⟩ : ∃ j : Nat, j < n ∧ x = nI j := by
        rcases pk_ix x hn with h3 | h3 | h3
        · exact absurd h3 h1
        · exact absurd h3 h2
        · exact h3
      rw [nI_clamp (by omega)] at h
      cases h
      exact ⟨hj, rfl⟩
theorem nd_nI {n a : Nat} (hn : n < 2 ^ 31) (h : a < n) : nd n (nI a) = some a := by
  unfold nd
  rw [if_neg (nI_pos (by omega)), if_neg (nI_ge h hn), nI_clamp (by omega)]
def kb (o : Option Nat) : Nat := match o with
  | some _ => 1
  | none => 0
theorem kb_le (o : Option Nat) : kb o ≤ 1 := by cases o <;> simp [kb]
/-- a field node -/
def nf (n : Nat) (x : Int32) : Option Nat := if x = 0 then none else nd n x
def kin (v lo hi : Int32) : Nat := if v < lo then 0 else if hi < v then 0 else 1
theorem kin_le (v lo hi : Int32) : kin v lo hi ≤ 1 := by unfold kin; split; (· omega); split <;> omega
set_option maxRecDepth 100000 in
set_option maxHeartbeats 4000000 in
theorem c_S_isNode (l : Launch) (Y : YY) (n s c : Nat) (hV : pv_ok (vC Y n s c)) (u : UU) (x : Int32) (hn : n ≤ 6) : Ct l (vC Y n s c) ⟨"SlottedMesh", "isNode", "(I)Z"⟩ (wz ⟨"SlottedMesh", "isNode", "(I)Z"⟩ b_S_isNode 2 (some .boolean)) (rd 0) [.ref (pv_ad (vC Y n s c) 0 0), .int x] u (some (.int (nI (kb (nd n x))))) (u) := by
  refine ct_mk hV (by decide +kernel) (Nat.le_of_ble_eq_true rfl) (fun X hX => ?_)
  have hX : ox X (vC Y n s c) (rd 0) b_S_isNode 2 "SlottedMesh" gz (some .boolean) := hX
  show ow X (vC Y n s c) (some (.int (nI (kb (nd n x))))) (u) u [(0, .ref (pv_ad (vC Y n s c) 0 0)), (1, .int x)] 0 []
  refine ow_iload_n (pc := 0) hX d_S_isNode_0 rfl ?_
  refine ow_if_lt (pc := 1) (tgt := 17) hX d_S_isNode_1 (by decide) (fun h1 => ?_) (fun h1 => ?_)
  · skip
    refine ow_iconst (pc := 17) (v := nI 0) hX d_S_isNode_17 (by decide) ?_
    exact ow_zret (pc := 18) hX d_S_isNode_18 (nb_01 (by first | decide | assumption | omega | exact kbit_le _ _)) (by first | rfl | ((unfold nd; first | rw [if_pos h1] | rw [if_neg h1, if_pos h10] | rw [if_neg h1, if_neg h10]) <;> rfl)) (by first | rfl | ((unfold nd; first | rw [if_pos h1] | rw [if_neg h1, if_pos h10] | rw [if_neg h1, if_neg h10]) <;> rfl))
  · skip
    refine ow_iload_n (pc := 4) hX d_S_isNode_4 rfl ?_
    refine ow_aload_n (pc := 5) hX d_S_isNode_5 rfl ?_
    refine ow_gR (pc := 6) hX (kd_S Y n s c) 2 d_S_isNode_6 kw_203 rfl Nat.zero_lt_one ?_
    refine ow_len (pc := 9) hX rfl (by decide) d_S_isNode_9 Nat.zero_lt_one ?_
    refine ow_st (st2 := .int (nI (n)) :: _) rfl ?_
    refine ow_ic_ge (pc := 10) (tgt := 17) hX d_S_isNode_10 (by decide) (fun h10 => ?_) (fun h10 => ?_)
    · skip
      refine ow_iconst (pc := 17) (v := nI 0) hX d_S_isNode_17 (by decide) ?_
      exact ow_zret (pc := 18) hX d_S_isNode_18 (nb_01 (by first | decide | assumption | omega | exact kbit_le _ _)) (by first | rfl | ((unfold nd; first | rw [if_pos h1] | rw [if_neg h1, if_pos h10] | rw [if_neg h1, if_neg h10]) <;> rfl)) (by first | rfl | ((unfold nd; first | rw [if_pos h1] | rw [if_neg h1, if_pos h10] | rw [if_neg h1, if_neg h10]) <;> rfl))
    · skip
      refine ow_iconst (pc := 13) (v := nI 1) hX d_S_isNode_13 (by decide) ?_
      refine ow_goto (pc := 14) (tgt := 18) hX d_S_isNode_14 (by decide) ?_
      exact ow_zret (pc := 18) hX d_S_isNode_18 (nb_01 (by first | decide | assumption | omega | exact kbit_le _ _)) (by first | rfl | ((unfold nd; first | rw [if_pos h1] | rw [if_neg h1, if_pos h10] | rw [if_neg h1, if_neg h10]) <;> rfl)) (by first | rfl | ((unfold nd; first | rw [if_pos h1] | rw [if_neg h1, if_pos h10] | rw [if_neg h1, if_neg h10]) <;> rfl))
set_option maxRecDepth 100000 in
set_option maxHeartbeats 4000000 in
theorem c_S_isChannel (l : Launch) (Y : YY) (n s c : Nat) (hV : pv_ok (vC Y n s c)) (u : UU) (x : Int32) : Ct l (vC Y n s c) ⟨"SlottedMesh", "isChannel", "(I)Z"⟩ (wz ⟨"SlottedMesh", "isChannel", "(I)Z"⟩ b_S_isChannel 2 (some .boolean)) (rd 0) [.ref (pv_ad (vC Y n s c) 0 0), .int x] u (some (.int (nI (kb (nd c x))))) (u) := by
  refine ct_mk hV (by decide +kernel) (Nat.le_of_ble_eq_true rfl) (fun X hX => ?_)
  have hX : ox X (vC Y n s c) (rd 0) b_S_isChannel 2 "SlottedMesh" gz (some .boolean) := hX
  show ow X (vC Y n s c) (some (.int (nI (kb (nd c x))))) (u) u [(0, .ref (pv_ad (vC Y n s c) 0 0)), (1, .int x)] 0 []
  refine ow_iload_n (pc := 0) hX d_S_isChannel_0 rfl ?_
  refine ow_if_lt (pc := 1) (tgt := 16) hX d_S_isChannel_1 (by decide) (fun h1 => ?_) (fun h1 => ?_)
  · skip
    refine ow_iconst (pc := 16) (v := nI 0) hX d_S_isChannel_16 (by decide) ?_
    exact ow_zret (pc := 17) hX d_S_isChannel_17 (nb_01 (by first | decide | assumption | omega | exact kbit_le _ _)) (by first | rfl | ((unfold nd; first | rw [if_pos h1] | rw [if_neg h1, if_pos h9] | rw [if_neg h1, if_neg h9]) <;> rfl)) (by first | rfl | ((unfold nd; first | rw [if_pos h1] | rw [if_neg h1, if_pos h9] | rw [if_neg h1, if_neg h9]) <;> rfl))
  · skip
    refine ow_iload_n (pc := 4) hX d_S_isChannel_4 rfl ?_
    refine ow_aload_n (pc := 5) hX d_S_isChannel_5 rfl ?_
    refine ow_gK (pc := 6) hX (kd_S Y n s c) 1 d_S_isChannel_6 kw_202 rfl Nat.zero_lt_one ?_
    refine ow_ic_ge (pc := 9) (tgt := 16) hX d_S_isChannel_9 (by decide) (fun h9 => ?_) (fun h9 => ?_)
    · skip
      refine ow_iconst (pc := 16) (v := nI 0) hX d_S_isChannel_16 (by decide) ?_
      exact ow_zret (pc := 17) hX d_S_isChannel_17 (nb_01 (by first | decide | assumption | omega | exact kbit_le _ _)) (by first | rfl | ((unfold nd; first | rw [if_pos h1] | rw [if_neg h1, if_pos h9] | rw [if_neg h1, if_neg h9]) <;> rfl)) (by first | rfl | ((unfold nd; first | rw [if_pos h1] | rw [if_neg h1, if_pos h9] | rw [if_neg h1, if_neg h9]) <;> rfl))
    · skip
      refine ow_iconst (pc := 12) (v := nI 1) hX d_S_isChannel_12 (by decide) ?_
      refine ow_goto (pc := 13) (tgt := 17) hX d_S_isChannel_13 (by decide) ?_
      exact ow_zret (pc := 17) hX d_S_isChannel_17 (nb_01 (by first | decide | assumption | omega | exact kbit_le _ _)) (by first | rfl | ((unfold nd; first | rw [if_pos h1] | rw [if_neg h1, if_pos h9] | rw [if_neg h1, if_neg h9]) <;> rfl)) (by first | rfl | ((unfold nd; first | rw [if_pos h1] | rw [if_neg h1, if_pos h9] | rw [if_neg h1, if_neg h9]) <;> rfl))
set_option maxRecDepth 100000 in
set_option maxHeartbeats 4000000 in
theorem c_S_isWithin (l : Launch) (Y : YY) (n s c : Nat) (hV : pv_ok (vC Y n s c)) (u : UU) (v lo hi : Int32) : Ct l (vC Y n s c) ⟨"SlottedMesh", "isWithin", "(III)Z"⟩ (wz ⟨"SlottedMesh", "isWithin", "(III)Z"⟩ b_S_isWithin 3 (some .boolean)) (rd 0) [.int v, .int lo, .int hi] u (some (.int (nI (kin v lo hi)))) (u) := by
  refine ct_mk hV (by decide +kernel) (Nat.le_of_ble_eq_true rfl) (fun X hX => ?_)
  have hX : ox X (vC Y n s c) (rd 0) b_S_isWithin 3 "SlottedMesh" gz (some .boolean) := hX
  show ow X (vC Y n s c) (some (.int (nI (kin v lo hi)))) (u) u [(0, .int v), (1, .int lo), (2, .int hi)] 0 []
  refine ow_iload_n (pc := 0) hX d_S_isWithin_0 rfl ?_
  refine ow_iload_n (pc := 1) hX d_S_isWithin_1 rfl ?_
  refine ow_ic_lt (pc := 2) (tgt := 14) hX d_S_isWithin_2 (by decide) (fun h2 => ?_) (fun h2 => ?_)
  · skip
    refine ow_iconst (pc := 14) (v := nI 0) hX d_S_isWithin_14 (by decide) ?_
    exact ow_zret (pc := 15) hX d_S_isWithin_15 (nb_01 (by first | decide | assumption | omega | exact kbit_le _ _)) (by first | rfl | (unfold kin; first | rw [if_pos h2] | rw [if_neg h2, if_pos h7] | rw [if_neg h2, if_neg h7])) (by first | rfl | (unfold kin; first | rw [if_pos h2] | rw [if_neg h2, if_pos h7] | rw [if_neg h2, if_neg h7]))
  · skip
    refine ow_iload_n (pc := 5) hX d_S_isWithin_5 rfl ?_
    refine ow_iload_n (pc := 6) hX d_S_isWithin_6 rfl ?_
    refine ow_ic_gt (pc := 7) (tgt := 14) hX d_S_isWithin_7 (by decide) (fun h7 => ?_) (fun h7 => ?_)
    · skip
      refine ow_iconst (pc := 14) (v := nI 0) hX d_S_isWithin_14 (by decide) ?_
      exact ow_zret (pc := 15) hX d_S_isWithin_15 (nb_01 (by first | decide | assumption | omega | exact kbit_le _ _)) (by first | rfl | (unfold kin; first | rw [if_pos h2] | rw [if_neg h2, if_pos h7] | rw [if_neg h2, if_neg h7])) (by first | rfl | (unfold kin; first | rw [if_pos h2] | rw [if_neg h2, if_pos h7] | rw [if_neg h2, if_neg h7]))
    · skip
      refine ow_iconst (pc := 10) (v := nI 1) hX d_S_isWithin_10 (by decide) ?_
      refine ow_goto (pc := 11) (tgt := 15) hX d_S_isWithin_11 (by decide) ?_
      exact ow_zret (pc := 15) hX d_S_isWithin_15 (nb_01 (by first | decide | assumption | omega | exact kbit_le _ _)) (by first | rfl | (unfold kin; first | rw [if_pos h2] | rw [if_neg h2, if_pos h7] | rw [if_neg h2, if_neg h7])) (by first | rfl | (unfold kin; first | rw [if_pos h2] | rw [if_neg h2, if_pos h7] | rw [if_neg h2, if_neg h7]))
set_option maxRecDepth 100000 in
set_option maxHeartbeats 4000000 in
theorem c_S_isFieldNode (l : Launch) (Y : YY) (n s c : Nat) (hV : pv_ok (vC Y n s c)) (u : UU) (x : Int32) (hn : n ≤ 6) : Ct l (vC Y n s c) ⟨"SlottedMesh", "isFieldNode", "(I)Z"⟩ (wz ⟨"SlottedMesh", "isFieldNode", "(I)Z"⟩ b_S_isFieldNode 2 (some .boolean)) (rd 1) [.ref (pv_ad (vC Y n s c) 0 0), .int x] u (some (.int (nI (kb (nf n x))))) (u) := by
  refine ct_mk hV (by decide +kernel) (Nat.le_of_ble_eq_true rfl) (fun X hX => ?_)
  have hX : ox X (vC Y n s c) (rd 1) b_S_isFieldNode 2 "SlottedMesh" gz (some .boolean) := hX
  show ow X (vC Y n s c) (some (.int (nI (kb (nf n x))))) (u) u [(0, .ref (pv_ad (vC Y n s c) 0 0)), (1, .int x)] 0 []
  refine ow_aload_n (pc := 0) hX d_S_isFieldNode_0 rfl ?_
  refine ow_iload_n (pc := 1) hX d_S_isFieldNode_1 rfl ?_
  refine ow_callV (pc := 2) hX (kd_S Y n s c) Nat.zero_lt_one (c_S_isNode _ Y n s c hV u x hn) (cw_V hX mz_S_isNode kw_233 ⟨rfl, rfl⟩ (by decide)) rfl (Nat.le_of_ble_eq_true rfl) d_S_isFieldNode_2 rfl ?_
  rcases hx : nd n x with _ | a
  · skip
    refine ow_st (st2 := .int (nI 0) :: _) rfl ?_
    refine ow_nz_eq (pc := 5) (tgt := 16) hX d_S_isFieldNode_5 (by decide) (by first | assumption | omega | (have := kb_le (nd n x); omega)) (fun h5 => ?_) (fun h5 => ?_)
    · skip
      refine ow_iconst (pc := 16) (v := nI 0) hX d_S_isFieldNode_16 (by decide) ?_
      exact ow_zret (pc := 17) hX d_S_isFieldNode_17 (nb_01 (by first | decide | assumption | omega | exact kbit_le _ _)) (by first | rfl | (unfold nf; split <;> simp_all [kb])) (by first | rfl | (unfold nf; split <;> simp_all [kb]))
    · skip
      exact absurd h5 (by decide)
  · skip
    refine ow_st (st2 := .int (nI 1) :: _) rfl ?_
    refine ow_nz_eq (pc := 5) (tgt := 16) hX d_S_isFieldNode_5 (by decide) (by first | assumption | omega | (have := kb_le (nd n x); omega)) (fun h5 => ?_) (fun h5 => ?_)
    · skip
      exact absurd h5 (by decide)
    · skip
      refine ow_iload_n (pc := 8) hX d_S_isFieldNode_8 rfl ?_
      refine ow_if_eq (pc := 9) (tgt := 16) hX d_S_isFieldNode_9 (by decide) (fun h9 => ?_) (fun h9 => ?_)
      · skip
        refine ow_iconst (pc := 16) (v := nI 0) hX d_S_isFieldNode_16 (by decide) ?_
        exact ow_zret (pc := 17) hX d_S_isFieldNode_17 (nb_01 (by first | decide | assumption | omega | exact kbit_le _ _)) (by first | rfl | (unfold nf; split <;> simp_all [kb])) (by first | rfl | (unfold nf; split <;> simp_all [kb]))
      · skip
        refine ow_iconst (pc := 12) (v := nI 1) hX d_S_isFieldNode_12 (by decide) ?_
        refine ow_goto (pc := 13) (tgt := 17) hX d_S_isFieldNode_13 (by decide) ?_
        exact ow_zret (pc := 17) hX d_S_isFieldNode_17 (nb_01 (by first | decide | assumption | omega | exact kbit_le _ _)) (by first | rfl | (unfold nf; split <;> simp_all [kb])) (by first | rfl | (unfold nf; split <;> simp_all [kb]))
end
section
/-! SlottedMesh: public calls (by program, wip/whole/gen/c8.py) -/
theorem nf_some {n a : Nat} {x : Int32} (hn : n < 2 ^ 31) (h : nf n x = some a) : a < n ∧ a ≠ 0 ∧ x = nI a := by
  unfold nf at h
  split at h
  · cases h
  · rename_i h0
    obtain ⟨h1, h2⟩ := nd_some hn h
    exact ⟨h1, fun e => h0 (by rw [h2, e]; rfl), h2⟩
theorem nf_nI {n a : Nat} (hn : n < 2 ^ 31) (h : a < n) (h0 : a ≠ 0) : nf n (nI a) = some a := by
  unfold nf
  rw [if_neg (nI_ne0 (by omega) (by omega)), nd_nI hn h]
def kc_start (n : Nat) (u : UU) (x : Int32) : Nat × UU := match nd n x with
  | none => (0, u)
  | some a => if u.1 4 a 6 = 0 then (1, un (un u 4 a 6 1) 4 a 7 0) else (0, u)
def kc_stop (n : Nat) (u : UU) (x : Int32) : Nat × UU := match nf n x with
  | none => (0, u)
  | some a => if u.1 4 a 6 = 0 then (0, u) else (1, kc_off n u a)
def kc_drift (n : Nat) (u : UU) (x d : Int32) : Nat × UU := match nf n x with
  | none => (0, u)
  | some a => if kin d (-3) (nI 3) = 0 then (0, u) else (1, ui u 4 a 9 d)
def kc_radio (c : Nat) (u : UU) (x : Int32) (f g : Int64) : Nat × UU := match nd c x with
  | none => (0, u)
  | some a => (1, ul (ul u 5 a 0 f) 5 a 1 g)
def kc_pair (n : Nat) (u : UU) (x y : Int32) (z : Nat) : Nat × UU := match nd n x with
  | none => (0, u)
  | some a => match nd n y with
    | none => (0, u)
    | some b => if a = b then (0, u) else if u.1 7 a b = z then (0, u) else (1, un (un u 7 a b z) 7 b a z)
def kc_control (n : Nat) (u : UU) (x t p i : Int32) : Nat × UU := match nf n x with
  | none => (0, u)
  | some a => if kin t (-1000) (nI 1000) = 0 then (0, u) else if kin p (nI 0) (nI 16) = 0 then (0, u) else if kin i (nI 0) (nI 16) = 0 then (0, u) else (1, ui (ui (ui u 6 a 2 t) 6 a 3 p) 6 a 4 i)
def kc_sample (n : Nat) (u : UU) (x v : Int32) : Int32 × UU := match nf n x with
  | none => (-1, u)
  | some a => if u.1 4 a 6 = 0 then (-1, u) else if kin v (-1000) (nI 1000) = 0 then (-1, u) else if u.1 8 (2 * a) 3 < 4 then ((kc_append u (2 * a) a (u.2.1 4 a 12 + nI 1) v).2.1 4 a 12 + nI 1, ui (kc_append u (2 * a) a (u.2.1 4 a 12 + nI 1) v) 4 a 12 ((kc_append u (2 * a) a (u.2.1 4 a 12 + nI 1) v).2.1 4 a 12 + nI 1)) else (-1, u)
def kc_rank (n : Nat) (u : UU) (x : Int32) : Int32 := if u.1 15 (u.2.2.2 5) 8 = 0 then -1 else match nd n x with
  | none => -1
  | some a => u.2.1 16 (u.2.2.2 5) a
def kc_parent (n : Nat) (u : UU) (x k : Int32) : Int32 := if u.1 15 (u.2.2.2 5) 8 = 0 then -1 else match nd n x with
  | none => -1
  | some a => if k = 0 then u.2.1 17 (u.2.2.2 5) a else if k = nI 1 then u.2.1 18 (u.2.2.2 5) a else -1
def kc_cell (s c : Nat) (u : UU) (x y : Int32) : Int32 := match nd s x with
  | none => -1
  | some a => match nd c y with
    | none => -1
    | some b => if u.1 15 (u.2.2.2 5) 8 = 0 then nI 0 else nI (u.1 20 (u.2.2.2 5) (a * c + b))
def kc_current (n : Nat) (u : UU) (x : Int32) : Nat := match nd n x with
  | none => 0
  | some a => if u.1 4 a 7 = 0 then 0 else 1
def kc_offset (n : Nat) (u : UU) (x : Int32) : Int32 := match nd n x with
  | none => -9999
  | some a => u.2.1 4 a 8
def kc_latest (n : Nat) (u : UU) (x : Int32) : Int32 := match nd n x with
  | none => -1
  | some a => u.2.1 9 0 a
def kc_actuator (n : Nat) (u : UU) (x : Int32) : Int32 := match nf n x with
  | none => -9999
  | some a => u.2.1 4 a 13
def kc_cached (n : Nat) (u : UU) (x k : Int32) : Int32 := match nd n x with
  | none => -9999
  | some a => match nd (u.1 6 a 1) k with
    | none => -9999
    | some b => u.2.1 11 a b
def kc_count (n : Nat) (u : UU) (x k : Int32) : Int32 := match nd n x with
  | none => -1
  | some a => match nd 4 k with
    | some 0 => nI (u.1 8 (2 * a) 3)
    | some 1 => nI (u.1 8 (2 * a + 1) 3)
    | some 2 => nI (u.1 4 a 10)
    | some 3 => nI (u.1 4 a 11)
    | _ => -1
set_option maxRecDepth 100000 in
set_option maxHeartbeats 4000000 in
theorem c_S_start (l : Launch) (Y : YY) (n s c : Nat) (hV : pv_ok (vC Y n s c)) (u : UU) (x : Int32) (hn : n ≤ 6) (hs1 : ∀ i, u.1 4 i 6 ≤ 1) : Ct l (vC Y n s c) ⟨"SlottedMesh", "start", "(I)Z"⟩ (wz ⟨"SlottedMesh", "start", "(I)Z"⟩ b_S_start 2 (some .boolean)) (rd 1) [.ref (pv_ad (vC Y n s c) 0 0), .int x] u (some (.int (nI (kc_start n u x).1))) ((kc_start n u x).2) := by
  refine ct_mk hV (by decide +kernel) (Nat.le_of_ble_eq_true rfl) (fun X hX => ?_)
  have hX : ox X (vC Y n s c) (rd 1) b_S_start 2 "SlottedMesh" gz (some .boolean) := hX
  show ow X (vC Y n s c) (some (.int (nI (kc_start n u x).1))) ((kc_start n u x).2) u [(0, .ref (pv_ad (vC Y n s c) 0 0)), (1, .int x)] 0 []
  rcases hx : nd n x with _ | a
  · skip
    refine ow_aload_n (pc := 0) hX d_S_start_0 rfl ?_
    refine ow_iload_n (pc := 1) hX d_S_start_1 rfl ?_
    refine ow_callV (pc := 2) hX (kd_S Y n s c) Nat.zero_lt_one (c_S_isNode _ Y n s c hV u x hn) (cw_V hX mz_S_isNode kw_233 ⟨rfl, rfl⟩ (by decide)) rfl (Nat.le_of_ble_eq_true rfl) d_S_start_2 rfl ?_
    refine ow_st (st2 := .int (nI 0) :: _) (by rw [hx]; rfl) ?_
    refine ow_nz_eq (pc := 5) (tgt := 20) hX d_S_start_5 (by decide) (by first | assumption | omega | (have := hs1 a; omega)) (fun h5 => ?_) (fun h5 => ?_)
    · skip
      refine ow_iconst (pc := 20) (v := nI 0) hX d_S_start_20 (by decide) ?_
      exact ow_zret (pc := 21) hX d_S_start_21 (nb_01 (by first | decide | assumption | omega | exact kbit_le _ _)) (by first | rfl | (simp only [kc_start, hx]; done) | (simp only [kc_start, hx]; (repeat' split) <;> first | rfl | omega | (simp_all; done))) (by first | rfl | (simp only [kc_start, hx]; done) | (simp only [kc_start, hx]; (repeat' split) <;> first | rfl | omega | (simp_all; done)))
    · skip
      exact absurd h5 (by decide)
  · skip
    obtain ⟨ha, rfl⟩ := nd_some (by omega) hx
    refine ow_aload_n (pc := 0) hX d_S_start_0 rfl ?_
    refine ow_iload_n (pc := 1) hX d_S_start_1 rfl ?_
    refine ow_callV (pc := 2) hX (kd_S Y n s c) Nat.zero_lt_one (c_S_isNode _ Y n s c hV u (nI a) hn) (cw_V hX mz_S_isNode kw_233 ⟨rfl, rfl⟩ (by decide)) rfl (Nat.le_of_ble_eq_true rfl) d_S_start_2 rfl ?_
    refine ow_st (st2 := .int (nI 1) :: _) (by rw [hx]; rfl) ?_
    refine ow_nz_eq (pc := 5) (tgt := 20) hX d_S_start_5 (by decide) (by first | assumption | omega | (have := hs1 a; omega)) (fun h5 => ?_) (fun h5 => ?_)
    · skip
      exact absurd h5 (by decide)
    · skip
      refine ow_aload_n (pc := 8) hX d_S_start_8 rfl ?_
      refine ow_gR (pc := 9) hX (kd_S Y n s c) 2 d_S_start_9 kw_203 rfl Nat.zero_lt_one ?_
      refine ow_iload_n (pc := 12) hX d_S_start_12 rfl ?_
      refine ow_aR (pc := 13) hX rfl d_S_start_13 Nat.zero_lt_one (by show _ < n; first | assumption | omega) ?_
      refine ow_gN (pc := 14) hX (kd_N Y n s c) 6 d_S_start_14 kw_75 rfl (by show _ < n; first | assumption | omega) ?_
      refine ow_nz_eq (pc := 17) (tgt := 22) hX d_S_start_17 (by decide) (by first | assumption | omega | (have := hs1 a; omega)) (fun h17 => ?_) (fun h17 => ?_)
      · skip
        refine ow_aload_n (pc := 22) hX d_S_start_22 rfl ?_
        refine ow_gR (pc := 23) hX (kd_S Y n s c) 2 d_S_start_23 kw_203 rfl Nat.zero_lt_one ?_
        refine ow_iload_n (pc := 26) hX d_S_start_26 rfl ?_
        refine ow_aR (pc := 27) hX rfl d_S_start_27 Nat.zero_lt_one (by show _ < n; first | assumption | omega) ?_
        refine ow_iconst (pc := 28) (v := nI 1) hX d_S_start_28 (by decide) ?_
        refine ow_pZ (pc := 29) hX (kd_N Y n s c) 6 d_S_start_29 kw_75 rfl (by show _ < n; first | assumption | omega) rfl (by decide +kernel) (by first | assumption | omega | (have := hs1 a; omega)) ?_
        refine ow_aload_n (pc := 32) hX d_S_start_32 rfl ?_
        refine ow_gR (pc := 33) hX (kd_S Y n s c) 2 d_S_start_33 kw_203 rfl Nat.zero_lt_one ?_
        refine ow_iload_n (pc := 36) hX d_S_start_36 rfl ?_
        refine ow_aR (pc := 37) hX rfl d_S_start_37 Nat.zero_lt_one (by show _ < n; first | assumption | omega) ?_
        refine ow_iconst (pc := 38) (v := nI 0) hX d_S_start_38 (by decide) ?_
        refine ow_pZ (pc := 39) hX (kd_N Y n s c) 7 d_S_start_39 kw_77 rfl (by show _ < n; first | assumption | omega) rfl (by decide +kernel) (by first | assumption | omega | (have := hs1 a; omega)) ?_
        refine ow_iconst (pc := 42) (v := nI 1) hX d_S_start_42 (by decide) ?_
        exact ow_zret (pc := 43) hX d_S_start_43 (nb_01 (by first | decide | assumption | omega | exact kbit_le _ _)) (by first | rfl | (simp only [kc_start, hx]; done) | (simp only [kc_start, hx]; (repeat' split) <;> first | rfl | omega | (simp_all; done))) (by first | rfl | (simp only [kc_start, hx]; done) | (simp only [kc_start, hx]; (repeat' split) <;> first | rfl | omega | (simp_all; done)))
      · skip
        refine ow_iconst (pc := 20) (v := nI 0) hX d_S_start_20 (by decide) ?_
        exact ow_zret (pc := 21) hX d_S_start_21 (nb_01 (by first | decide | assumption | omega | exact kbit_le _ _)) (by first | rfl | (simp only [kc_start, hx]; done) | (simp only [kc_start, hx]; (repeat' split) <;> first | rfl | omega | (simp_all; done))) (by first | rfl | (simp only [kc_start, hx]; done) | (simp only [kc_start, hx]; (repeat' split) <;> first | rfl | omega | (simp_all; done)))
set_option maxRecDepth 100000 in
set_option maxHeartbeats 4000000 in
theorem c_S_stop (l : Launch) (Y : YY) (n s c : Nat) (hV : pv_ok (vC Y n s c)) (u : UU) (x : Int32) (hn : n ≤ 6) (hs1 : ∀ i, u.1 4 i 6 ≤ 1) : Ct l (vC Y n s c) ⟨"SlottedMesh", "stop", "(I)Z"⟩ (wz ⟨"SlottedMesh", "stop", "(I)Z"⟩ b_S_stop 2 (some .boolean)) (rd 2) [.ref (pv_ad (vC Y n s c) 0 0), .int x] u (some (.int (nI (kc_stop n u x).1))) ((kc_stop n u x).2) := by
  refine ct_mk hV (by decide +kernel) (Nat.le_of_ble_eq_true rfl) (fun X hX => ?_)
  have hX : ox X (vC Y n s c) (rd 2) b_S_stop 2 "SlottedMesh" gz (some .boolean) := hX
  show ow X (vC Y n s c) (some (.int (nI (kc_stop n u x).1))) ((kc_stop n u x).2) u [(0, .ref (pv_ad (vC Y n s c) 0 0)), (1, .int x)] 0 []
  rcases hx : nf n x with _ | a
  · skip
    refine ow_aload_n (pc := 0) hX d_S_stop_0 rfl ?_
    refine ow_iload_n (pc := 1) hX d_S_stop_1 rfl ?_
    refine ow_callV (pc := 2) hX (kd_S Y n s c) Nat.zero_lt_one (c_S_isFieldNode _ Y n s c hV u x hn) (cw_V hX mz_S_isFieldNode kw_316 ⟨rfl, rfl⟩ (by decide)) rfl (Nat.le_of_ble_eq_true rfl) d_S_stop_2 rfl ?_
    refine ow_st (st2 := .int (nI 0) :: _) (by rw [hx]; rfl) ?_
    refine ow_nz_eq (pc := 5) (tgt := 20) hX d_S_stop_5 (by decide) (by first | assumption | omega | (have := hs1 a; omega)) (fun h5 => ?_) (fun h5 => ?_)
    · skip
      refine ow_iconst (pc := 20) (v := nI 0) hX d_S_stop_20 (by decide) ?_
      exact ow_zret (pc := 21) hX d_S_stop_21 (nb_01 (by first | decide | assumption | omega | exact kbit_le _ _)) (by first | rfl | (simp only [kc_stop, hx]; done) | (simp only [kc_stop, hx]; (repeat' split) <;> first | rfl | omega | (simp_all; done))) (by first | rfl | (simp only [kc_stop, hx]; done) | (simp only [kc_stop, hx]; (repeat' split) <;> first | rfl | omega | (simp_all; done)))
    · skip
      exact absurd h5 (by decide)
  · skip
    obtain ⟨ha, ha0, rfl⟩ := nf_some (by omega) hx
    refine ow_aload_n (pc := 0) hX d_S_stop_0 rfl ?_
    refine ow_iload_n (pc := 1) hX d_S_stop_1 rfl ?_
    refine ow_callV (pc := 2) hX (kd_S Y n s c) Nat.zero_lt_one (c_S_isFieldNode _ Y n s c hV u (nI a) hn) (cw_V hX mz_S_isFieldNode kw_316 ⟨rfl, rfl⟩ (by decide)) rfl (Nat.le_of_ble_eq_true rfl) d_S_stop_2 rfl ?_
    refine ow_st (st2 := .int (nI 1) :: _) (by rw [hx]; rfl) ?_
    refine ow_nz_eq (pc := 5) (tgt := 20) hX d_S_stop_5 (by decide) (by first | assumption | omega | (have := hs1 a; omega)) (fun h5 => ?_) (fun h5 => ?_)
    · skip
      exact absurd h5 (by decide)
    · skip
      refine ow_aload_n (pc := 8) hX d_S_stop_8 rfl ?_
      refine ow_gR (pc := 9) hX (kd_S Y n s c) 2 d_S_stop_9 kw_203 rfl Nat.zero_lt_one ?_
      refine ow_iload_n (pc := 12) hX d_S_stop_12 rfl ?_
      refine ow_aR (pc := 13) hX rfl d_S_stop_13 Nat.zero_lt_one (by show _ < n; first | assumption | omega) ?_
      refine ow_gN (pc := 14) hX (kd_N Y n s c) 6 d_S_stop_14 kw_75 rfl (by show _ < n; first | assumption | omega) ?_
      refine ow_nz_ne (pc := 17) (tgt := 22) hX d_S_stop_17 (by decide) (by first | assumption | omega | (have := hs1 a; omega)) (fun h17 => ?_) (fun h17 => ?_)
      · skip
        refine ow_aload_n (pc := 22) hX d_S_stop_22 rfl ?_
        refine ow_gR (pc := 23) hX (kd_S Y n s c) 2 d_S_stop_23 kw_203 rfl Nat.zero_lt_one ?_
        refine ow_iload_n (pc := 26) hX d_S_stop_26 rfl ?_
        refine ow_aR (pc := 27) hX rfl d_S_stop_27 Nat.zero_lt_one (by show _ < n; first | assumption | omega) ?_
        refine ow_callV (pc := 28) hX (kd_N Y n s c) (by show _ < n; first | assumption | omega) (c_N_switchOff _ Y n s c hV u a ha hn) (cw_V hX mz_N_switchOff kw_320 ⟨rfl, rfl⟩ (by decide)) rfl (Nat.le_of_ble_eq_true rfl) d_S_stop_28 rfl ?_
        refine ow_iconst (pc := 31) (v := nI 1) hX d_S_stop_31 (by decide) ?_
        exact ow_zret (pc := 32) hX d_S_stop_32 (nb_01 (by first | decide | assumption | omega | exact kbit_le _ _)) (by first | rfl | (simp only [kc_stop, hx]; done) | (simp only [kc_stop, hx]; (repeat' split) <;> first | rfl | omega | (simp_all; done))) (by first | rfl | (simp only [kc_stop, hx]; done) | (simp only [kc_stop, hx]; (repeat' split) <;> first | rfl | omega | (simp_all; done)))
      · skip
        refine ow_iconst (pc := 20) (v := nI 0) hX d_S_stop_20 (by decide) ?_
        exact ow_zret (pc := 21) hX d_S_stop_21 (nb_01 (by first | decide | assumption | omega | exact kbit_le _ _)) (by first | rfl | (simp only [kc_stop, hx]; done) | (simp only [kc_stop, hx]; (repeat' split) <;> first | rfl | omega | (simp_all; done))) (by first | rfl | (simp only [kc_stop, hx]; done) | (simp only [kc_stop, hx]; (repeat' split) <;> first | rfl | omega | (simp_all; done)))
set_option maxRecDepth 100000 in
set_option maxHeartbeats 4000000 in
theorem c_S_drift (l : Launch) (Y : YY) (n s c : Nat) (hV : pv_ok (vC Y n s c)) (u : UU) (x d : Int32) (hn : n ≤ 6) : Ct l (vC Y n s c) ⟨"SlottedMesh", "drift", "(II)Z"⟩ (wz ⟨"SlottedMesh", "drift", "(II)Z"⟩ b_S_drift 3 (some .boolean)) (rd 2) [.ref (pv_ad (vC Y n s c) 0 0), .int x, .int d] u (some (.int (nI (kc_drift n u x d).1))) ((kc_drift n u x d).2) := by
  refine ct_mk hV (by decide +kernel) (Nat.le_of_ble_eq_true rfl) (fun X hX => ?_)
  have hX : ox X (vC Y n s c) (rd 2) b_S_drift 3 "SlottedMesh" gz (some .boolean) := hX
  show ow X (vC Y n s c) (some (.int (nI (kc_drift n u x d).1))) ((kc_drift n u x d).2) u [(0, .ref (pv_ad (vC Y n s c) 0 0)), (1, .int x), (2, .int d)] 0 []
  rcases hx : nf n x with _ | a
  · skip
    refine ow_aload_n (pc := 0) hX d_S_drift_0 rfl ?_
    refine ow_iload_n (pc := 1) hX d_S_drift_1 rfl ?_
    refine ow_callV (pc := 2) hX (kd_S Y n s c) Nat.zero_lt_one (c_S_isFieldNode _ Y n s c hV u x hn) (cw_V hX mz_S_isFieldNode kw_316 ⟨rfl, rfl⟩ (by decide)) rfl (Nat.le_of_ble_eq_true rfl) d_S_drift_2 rfl ?_
    refine ow_st (st2 := .int (nI 0) :: _) (by rw [hx]; rfl) ?_
    refine ow_nz_eq (pc := 5) (tgt := 18) hX d_S_drift_5 (by decide) (by first | assumption | omega | (have := kin_le d (-3) (nI 3); omega)) (fun h5 => ?_) (fun h5 => ?_)
    · skip
      refine ow_iconst (pc := 18) (v := nI 0) hX d_S_drift_18 (by decide) ?_
      exact ow_zret (pc := 19) hX d_S_drift_19 (nb_01 (by first | decide | assumption | omega | exact kbit_le _ _)) (by first | rfl | (simp only [kc_drift, hx]; done) | (simp only [kc_drift, hx]; (repeat' split) <;> first | rfl | omega | (simp_all; done))) (by first | rfl | (simp only [kc_drift, hx]; done) | (simp only [kc_drift, hx]; (repeat' split) <;> first | rfl | omega | (simp_all; done)))
    · skip
      exact absurd h5 (by decide)
  · skip
    obtain ⟨ha, ha0, rfl⟩ := nf_some (by omega) hx
    refine ow_aload_n (pc := 0) hX d_S_drift_0 rfl ?_
    refine ow_iload_n (pc := 1) hX d_S_drift_1 rfl ?_
    refine ow_callV (pc := 2) hX (kd_S Y n s c) Nat.zero_lt_one (c_S_isFieldNode _ Y n s c hV u (nI a) hn) (cw_V hX mz_S_isFieldNode kw_316 ⟨rfl, rfl⟩ (by decide)) rfl (Nat.le_of_ble_eq_true rfl) d_S_drift_2 rfl ?_
    refine ow_st (st2 := .int (nI 1) :: _) (by rw [hx]; rfl) ?_
    refine ow_nz_eq (pc := 5) (tgt := 18) hX d_S_drift_5 (by decide) (by first | assumption | omega | (have := kin_le d (-3) (nI 3); omega)) (fun h5 => ?_) (fun h5 => ?_)
    · skip
      exact absurd h5 (by decide)
    · skip
      refine ow_iload_n (pc := 8) hX d_S_drift_8 rfl ?_
      refine ow_bipush (pc := 9) (v := (-3)) hX d_S_drift_9 (by decide) ?_
      refine ow_iconst (pc := 11) (v := nI 3) hX d_S_drift_11 (by decide) ?_
      refine ow_callS (pc := 12) hX (c_S_isWithin _ Y n s c hV _ d (-3) (nI 3)) (cw_S hX mz_S_isWithin kw_329 ⟨rfl, rfl⟩ (by decide)) rfl (Nat.le_of_ble_eq_true rfl) d_S_drift_12 rfl ?_
      refine ow_nz_ne (pc := 15) (tgt := 20) hX d_S_drift_15 (by decide) (by first | assumption | omega | (have := kin_le d (-3) (nI 3); omega)) (fun h15 => ?_) (fun h15 => ?_)
      · skip
        refine ow_aload_n (pc := 20) hX d_S_drift_20 rfl ?_
        refine ow_gR (pc := 21) hX (kd_S Y n s c) 2 d_S_drift_21 kw_203 rfl Nat.zero_lt_one ?_
        refine ow_iload_n (pc := 24) hX d_S_drift_24 rfl ?_
        refine ow_aR (pc := 25) hX rfl d_S_drift_25 Nat.zero_lt_one (by show _ < n; first | assumption | omega) ?_
        refine ow_iload_n (pc := 26) hX d_S_drift_26 rfl ?_
        refine ow_pI (pc := 27) hX (kd_N Y n s c) 9 d_S_drift_27 kw_80 rfl (by show _ < n; first | assumption | omega) rfl (by decide +kernel) ?_
        refine ow_iconst (pc := 30) (v := nI 1) hX d_S_drift_30 (by decide) ?_
        exact ow_zret (pc := 31) hX d_S_drift_31 (nb_01 (by first | decide | assumption | omega | exact kbit_le _ _)) (by first | rfl | (simp only [kc_drift, hx]; done) | (simp only [kc_drift, hx]; (repeat' split) <;> first | rfl | omega | (simp_all; done))) (by first | rfl | (simp only [kc_drift, hx]; done) | (simp only [kc_drift, hx]; (repeat' split) <;> first | rfl | omega | (simp_all; done)))
      · skip
        refine ow_iconst (pc := 18) (v := nI 0) hX d_S_drift_18 (by decide) ?_
        exact ow_zret (pc := 19) hX d_S_drift_19 (nb_01 (by first | decide | assumption | omega | exact kbit_le _ _)) (by first | rfl | (simp only [kc_drift, hx]; done) | (simp only [kc_drift, hx]; (repeat' split) <;> first | rfl | omega | (simp_all; done))) (by first | rfl | (simp only [kc_drift, hx]; done) | (simp only [kc_drift, hx]; (repeat' split) <;> first | rfl | omega | (simp_all; done)))
set_option maxRecDepth 100000 in
set_option maxHeartbeats 4000000 in
theorem c_S_radio (l : Launch) (Y : YY) (n s c : Nat) (hV : pv_ok (vC Y n s c)) (u : UU) (x : Int32) (f g : Int64) (hc : c ≤ 4) : Ct l (vC Y n s c) ⟨"SlottedMesh", "radio", "(IJJ)Z"⟩ (wz ⟨"SlottedMesh", "radio", "(IJJ)Z"⟩ b_S_radio 6 (some .boolean)) (rd 1) [.ref (pv_ad (vC Y n s c) 0 0), .int x, .long f, .long g] u (some (.int (nI (kc_radio c u x f g).1))) ((kc_radio c u x f g).2) := by
  refine ct_mk hV (by decide +kernel) (Nat.le_of_ble_eq_true rfl) (fun X hX => ?_)
  have hX : ox X (vC Y n s c) (rd 1) b_S_radio 6 "SlottedMesh" gz (some .boolean) := hX
  show ow X (vC Y n s c) (some (.int (nI (kc_radio c u x f g).1))) ((kc_radio c u x f g).2) u [(0, .ref (pv_ad (vC Y n s c) 0 0)), (1, .int x), (2, .long f), (4, .long g)] 0 []
  rcases hx : nd c x with _ | a
  · skip
    refine ow_aload_n (pc := 0) hX d_S_radio_0 rfl ?_
    refine ow_iload_n (pc := 1) hX d_S_radio_1 rfl ?_
    refine ow_callV (pc := 2) hX (kd_S Y n s c) Nat.zero_lt_one (c_S_isChannel _ Y n s c hV u x) (cw_V hX mz_S_isChannel kw_336 ⟨rfl, rfl⟩ (by decide)) rfl (Nat.le_of_ble_eq_true rfl) d_S_radio_2 rfl ?_
    refine ow_st (st2 := .int (nI 0) :: _) (by rw [hx]; rfl) ?_
    refine ow_nz_ne (pc := 5) (tgt := 10) hX d_S_radio_5 (by decide) (by first | assumption | omega) (fun h5 => ?_) (fun h5 => ?_)
    · skip
      exact absurd h5 (by decide)
    · skip
      refine ow_iconst (pc := 8) (v := nI 0) hX d_S_radio_8 (by decide) ?_
      exact ow_zret (pc := 9) hX d_S_radio_9 (nb_01 (by first | decide | assumption | omega | exact kbit_le _ _)) (by first | rfl | (simp only [kc_radio, hx]; done) | (simp only [kc_radio, hx]; (repeat' split) <;> first | rfl | omega | (simp_all; done))) (by first | rfl | (simp only [kc_radio, hx]; done) | (simp only [kc_radio, hx]; (repeat' split) <;> first | rfl | omega | (simp_all; done)))
  · skip
    obtain ⟨ha, rfl⟩ := nd_some (by omega) hx
    refine ow_aload_n (pc := 0) hX d_S_radio_0 rfl ?_
    refine ow_iload_n (pc := 1) hX d_S_radio_1 rfl ?_
    refine ow_callV (pc := 2) hX (kd_S Y n s c) Nat.zero_lt_one (c_S_isChannel _ Y n s c hV u (nI a)) (cw_V hX mz_S_isChannel kw_336 ⟨rfl, rfl⟩ (by decide)) rfl (Nat.le_of_ble_eq_true rfl) d_S_radio_2 rfl ?_
    refine ow_st (st2 := .int (nI 1) :: _) (by rw [hx]; rfl) ?_
    refine ow_nz_ne (pc := 5) (tgt := 10) hX d_S_radio_5 (by decide) (by first | assumption | omega) (fun h5 => ?_) (fun h5 => ?_)
    · skip
      refine ow_aload_n (pc := 10) hX d_S_radio_10 rfl ?_
      refine ow_gR (pc := 11) hX (kd_S Y n s c) 3 d_S_radio_11 kw_204 rfl Nat.zero_lt_one ?_
      refine ow_iload_n (pc := 14) hX d_S_radio_14 rfl ?_
      refine ow_aR (pc := 15) hX rfl d_S_radio_15 Nat.zero_lt_one (by show _ < c; first | assumption | omega) ?_
      refine ow_lload_n (pc := 16) hX d_S_radio_16 rfl ?_
      refine ow_pL (pc := 17) hX (kd_H Y n s c) 0 d_S_radio_17 kw_154 rfl (by show _ < c; first | assumption | omega) rfl (by decide +kernel) ?_
      refine ow_aload_n (pc := 20) hX d_S_radio_20 rfl ?_
      refine ow_gR (pc := 21) hX (kd_S Y n s c) 3 d_S_radio_21 kw_204 rfl Nat.zero_lt_one ?_
      refine ow_iload_n (pc := 24) hX d_S_radio_24 rfl ?_
      refine ow_aR (pc := 25) hX rfl d_S_radio_25 Nat.zero_lt_one (by show _ < c; first | assumption | omega) ?_
      refine ow_lload (pc := 26) hX d_S_radio_26 rfl ?_
      refine ow_pL (pc := 28) hX (kd_H Y n s c) 1 d_S_radio_28 kw_156 rfl (by show _ < c; first | assumption | omega) rfl (by decide +kernel) ?_
      refine ow_iconst (pc := 31) (v := nI 1) hX d_S_radio_31 (by decide) ?_
      exact ow_zret (pc := 32) hX d_S_radio_32 (nb_01 (by first | decide | assumption | omega | exact kbit_le _ _)) (by first | rfl | (simp only [kc_radio, hx]; done) | (simp only [kc_radio, hx]; (repeat' split) <;> first | rfl | omega | (simp_all; done))) (by first | rfl | (simp only [kc_radio, hx]; done) | (simp only [kc_radio, hx]; (repeat' split) <;> first | rfl | omega | (simp_all; done)))
    · skip
      exact absurd h5 (by decide)
set_option maxRecDepth 100000 in
set_option maxHeartbeats 4000000 in
theorem c_S_pair (l : Launch) (Y : YY) (n s c : Nat) (hV : pv_ok (vC Y n s c)) (u : UU) (x y : Int32) (z : Nat) (hn : n ≤ 6) (hz : z ≤ 1) (hnr : ∀ i j, u.1 7 i j ≤ 1) : Ct l (vC Y n s c) ⟨"SlottedMesh", "pair", "(IIZ)Z"⟩ (wz ⟨"SlottedMesh", "pair", "(IIZ)Z"⟩ b_S_pair 4 (some .boolean)) (rd 1) [.ref (pv_ad (vC Y n s c) 0 0), .int x, .int y, .int (nI z)] u (some (.int (nI (kc_pair n u x y z).1))) ((kc_pair n u x y z).2) := by
  refine ct_mk hV (by decide +kernel) (Nat.le_of_ble_eq_true rfl) (fun X hX => ?_)
  have hX : ox X (vC Y n s c) (rd 1) b_S_pair 4 "SlottedMesh" gz (some .boolean) := hX
  show ow X (vC Y n s c) (some (.int (nI (kc_pair n u x y z).1))) ((kc_pair n u x y z).2) u [(0, .ref (pv_ad (vC Y n s c) 0 0)), (1, .int x), (2, .int y), (3, .int (nI z))] 0 []
  rcases hx : nd n x with _ | a
  · skip
    refine ow_aload_n (pc := 0) hX d_S_pair_0 rfl ?_
    refine ow_iload_n (pc := 1) hX d_S_pair_1 rfl ?_
    refine ow_callV (pc := 2) hX (kd_S Y n s c) Nat.zero_lt_one (c_S_isNode _ Y n s c hV u x hn) (cw_V hX mz_S_isNode kw_233 ⟨rfl, rfl⟩ (by decide)) rfl (Nat.le_of_ble_eq_true rfl) d_S_pair_2 rfl ?_
    refine ow_st (st2 := .int (nI 0) :: _) (by rw [hx]; rfl) ?_
    refine ow_nz_eq (pc := 5) (tgt := 36) hX d_S_pair_5 (by decide) (by first | assumption | omega | (have := hnr a b; omega)) (fun h5 => ?_) (fun h5 => ?_)
    · skip
      refine ow_iconst (pc := 36) (v := nI 0) hX d_S_pair_36 (by decide) ?_
      exact ow_zret (pc := 37) hX d_S_pair_37 (nb_01 (by first | decide | assumption | omega | exact kbit_le _ _)) (by first | rfl | (simp only [kc_pair, hx]; done) | (simp only [kc_pair, hx, hy]; done) | (simp only [kc_pair, hx, hy]; (repeat' split) <;> first | rfl | omega | (simp_all; done))) (by first | rfl | (simp only [kc_pair, hx]; done) | (simp only [kc_pair, hx, hy]; done) | (simp only [kc_pair, hx, hy]; (repeat' split) <;> first | rfl | omega | (simp_all; done)))
    · skip
      exact absurd h5 (by decide)
  · skip
    obtain ⟨ha, rfl⟩ := nd_some (by omega) hx
    rcases hy : nd n y with _ | b
    · skip
      refine ow_aload_n (pc := 0) hX d_S_pair_0 rfl ?_
      refine ow_iload_n (pc := 1) hX d_S_pair_1 rfl ?_
      refine ow_callV (pc := 2) hX (kd_S Y n s c) Nat.zero_lt_one (c_S_isNode _ Y n s c hV u (nI a) hn) (cw_V hX mz_S_isNode kw_233 ⟨rfl, rfl⟩ (by decide)) rfl (Nat.le_of_ble_eq_true rfl) d_S_pair_2 rfl ?_
      refine ow_st (st2 := .int (nI 1) :: _) (by rw [hx]; rfl) ?_
      refine ow_nz_eq (pc := 5) (tgt := 36) hX d_S_pair_5 (by decide) (by first | assumption | omega | (have := hnr a b; omega)) (fun h5 => ?_) (fun h5 => ?_)
      · skip
        exact absurd h5 (by decide)
      · skip
        refine ow_aload_n (pc := 8) hX d_S_pair_8 rfl ?_
        refine ow_iload_n (pc := 9) hX d_S_pair_9 rfl ?_
        refine ow_callV (pc := 10) hX (kd_S Y n s c) Nat.zero_lt_one (c_S_isNode _ Y n s c hV u y hn) (cw_V hX mz_S_isNode kw_233 ⟨rfl, rfl⟩ (by decide)) rfl (Nat.le_of_ble_eq_true rfl) d_S_pair_10 rfl ?_
        refine ow_st (st2 := .int (nI 0) :: _) (by rw [hy]; rfl) ?_
        refine ow_nz_eq (pc := 13) (tgt := 36) hX d_S_pair_13 (by decide) (by first | assumption | omega | (have := hnr a b; omega)) (fun h13 => ?_) (fun h13 => ?_)
        · skip
          refine ow_iconst (pc := 36) (v := nI 0) hX d_S_pair_36 (by decide) ?_
          exact ow_zret (pc := 37) hX d_S_pair_37 (nb_01 (by first | decide | assumption | omega | exact kbit_le _ _)) (by first | rfl | (simp only [kc_pair, hx]; done) | (simp only [kc_pair, hx, hy]; done) | (simp only [kc_pair, hx, hy]; (repeat' split) <;> first | rfl | omega | (simp_all; done))) (by first | rfl | (simp only [kc_pair, hx]; done) | (simp only [kc_pair, hx, hy]; done) | (simp only [kc_pair, hx, hy]; (repeat' split) <;> first | rfl | omega | (simp_all; done)))
        · skip
          exact absurd h13 (by decide)
    · skip
      obtain ⟨hb, rfl⟩ := nd_some (by omega) hy
      refine ow_aload_n (pc := 0) hX d_S_pair_0 rfl ?_
      refine ow_iload_n (pc := 1) hX d_S_pair_1 rfl ?_
      refine ow_callV (pc := 2) hX (kd_S Y n s c) Nat.zero_lt_one (c_S_isNode _ Y n s c hV u (nI a) hn) (cw_V hX mz_S_isNode kw_233 ⟨rfl, rfl⟩ (by decide)) rfl (Nat.le_of_ble_eq_true rfl) d_S_pair_2 rfl ?_
      refine ow_st (st2 := .int (nI 1) :: _) (by rw [hx]; rfl) ?_
      refine ow_nz_eq (pc := 5) (tgt := 36) hX d_S_pair_5 (by decide) (by first | assumption | omega | (have := hnr a b; omega)) (fun h5 => ?_) (fun h5 => ?_)
      · skip
        exact absurd h5 (by decide)
      · skip
        refine ow_aload_n (pc := 8) hX d_S_pair_8 rfl ?_
        refine ow_iload_n (pc := 9) hX d_S_pair_9 rfl ?_
        refine ow_callV (pc := 10) hX (kd_S Y n s c) Nat.zero_lt_one (c_S_isNode _ Y n s c hV u (nI b) hn) (cw_V hX mz_S_isNode kw_233 ⟨rfl, rfl⟩ (by decide)) rfl (Nat.le_of_ble_eq_true rfl) d_S_pair_10 rfl ?_
        refine ow_st (st2 := .int (nI 1) :: _) (by rw [hy]; rfl) ?_
        refine ow_nz_eq (pc := 13) (tgt := 36) hX d_S_pair_13 (by decide) (by first | assumption | omega | (have := hnr a b; omega)) (fun h13 => ?_) (fun h13 => ?_)
        · skip
          exact absurd h13 (by decide)
        · skip
          refine ow_iload_n (pc := 16) hX d_S_pair_16 rfl ?_
          refine ow_iload_n (pc := 17) hX d_S_pair_17 rfl ?_
          refine ow_nc_eq (pc := 18) (tgt := 36) hX d_S_pair_18 (by decide) (by first | assumption | omega | (have := hnr a b; omega)) (by first | assumption | omega | (have := hnr a b; omega)) (fun h18 => ?_) (fun h18 => ?_)
          · skip
            refine ow_iconst (pc := 36) (v := nI 0) hX d_S_pair_36 (by decide) ?_
            exact ow_zret (pc := 37) hX d_S_pair_37 (nb_01 (by first | decide | assumption | omega | exact kbit_le _ _)) (by first | rfl | (simp only [kc_pair, hx]; done) | (simp only [kc_pair, hx, hy]; done) | (simp only [kc_pair, hx, hy]; (repeat' split) <;> first | rfl | omega | (simp_all; done))) (by first | rfl | (simp only [kc_pair, hx]; done) | (simp only [kc_pair, hx, hy]; done) | (simp only [kc_pair, hx, hy]; (repeat' split) <;> first | rfl | omega | (simp_all; done)))
          · skip
            refine ow_aload_n (pc := 21) hX d_S_pair_21 rfl ?_
            refine ow_gR (pc := 22) hX (kd_S Y n s c) 2 d_S_pair_22 kw_203 rfl Nat.zero_lt_one ?_
            refine ow_iload_n (pc := 25) hX d_S_pair_25 rfl ?_
            refine ow_aR (pc := 26) hX rfl d_S_pair_26 Nat.zero_lt_one (by show _ < n; first | assumption | omega) ?_
            refine ow_gR (pc := 27) hX (kd_N Y n s c) 1 d_S_pair_27 kw_64 rfl (by show _ < n; first | assumption | omega) ?_
            refine ow_iload_n (pc := 30) hX d_S_pair_30 rfl ?_
            refine ow_aZ (pc := 31) hX rfl d_S_pair_31 (by show _ < n; first | assumption | omega) (by show _ < n; first | assumption | omega) ?_
            refine ow_iload_n (pc := 32) hX d_S_pair_32 rfl ?_
            refine ow_nc_ne (pc := 33) (tgt := 38) hX d_S_pair_33 (by decide) (by first | assumption | omega | (have := hnr a b; omega)) (by first | assumption | omega | (have := hnr a b; omega)) (fun h33 => ?_) (fun h33 => ?_)
            · skip
              refine ow_aload_n (pc := 38) hX d_S_pair_38 rfl ?_
              refine ow_gR (pc := 39) hX (kd_S Y n s c) 2 d_S_pair_39 kw_203 rfl Nat.zero_lt_one ?_
              refine ow_iload_n (pc := 42) hX d_S_pair_42 rfl ?_
              refine ow_aR (pc := 43) hX rfl d_S_pair_43 Nat.zero_lt_one (by show _ < n; first | assumption | omega) ?_
              refine ow_gR (pc := 44) hX (kd_N Y n s c) 1 d_S_pair_44 kw_64 rfl (by show _ < n; first | assumption | omega) ?_
              refine ow_iload_n (pc := 47) hX d_S_pair_47 rfl ?_
              refine ow_iload_n (pc := 48) hX d_S_pair_48 rfl ?_
              refine ow_sZ (pc := 49) hX rfl d_S_pair_49 (by show _ < n; first | assumption | omega) (by show _ < n; first | assumption | omega) (by first | assumption | omega | (have := hnr a b; omega)) ?_
              refine ow_aload_n (pc := 50) hX d_S_pair_50 rfl ?_
              refine ow_gR (pc := 51) hX (kd_S Y n s c) 2 d_S_pair_51 kw_203 rfl Nat.zero_lt_one ?_
              refine ow_iload_n (pc := 54) hX d_S_pair_54 rfl ?_
              refine ow_aR (pc := 55) hX rfl d_S_pair_55 Nat.zero_lt_one (by show _ < n; first | assumption | omega) ?_
              refine ow_gR (pc := 56) hX (kd_N Y n s c) 1 d_S_pair_56 kw_64 rfl (by show _ < n; first | assumption | omega) ?_
              refine ow_iload_n (pc := 59) hX d_S_pair_59 rfl ?_
              refine ow_iload_n (pc := 60) hX d_S_pair_60 rfl ?_
              refine ow_sZ (pc := 61) hX rfl d_S_pair_61 (by show _ < n; first | assumption | omega) (by show _ < n; first | assumption | omega) (by first | assumption | omega | (have := hnr a b; omega)) ?_
              refine ow_iconst (pc := 62) (v := nI 1) hX d_S_pair_62 (by decide) ?_
              exact ow_zret (pc := 63) hX d_S_pair_63 (nb_01 (by first | decide | assumption | omega | exact kbit_le _ _)) (by first | rfl | (simp only [kc_pair, hx]; done) | (simp only [kc_pair, hx, hy]; done) | (simp only [kc_pair, hx, hy]; (repeat' split) <;> first | rfl | omega | (simp_all; done))) (by first | rfl | (simp only [kc_pair, hx]; done) | (simp only [kc_pair, hx, hy]; done) | (simp only [kc_pair, hx, hy]; (repeat' split) <;> first | rfl | omega | (simp_all; done)))
            · skip
              refine ow_iconst (pc := 36) (v := nI 0) hX d_S_pair_36 (by decide) ?_
              exact ow_zret (pc := 37) hX d_S_pair_37 (nb_01 (by first | decide | assumption | omega | exact kbit_le _ _)) (by first | rfl | (simp only [kc_pair, hx]; done) | (simp only [kc_pair, hx, hy]; done) | (simp only [kc_pair, hx, hy]; (repeat' split) <;> first | rfl | omega | (simp_all; done))) (by first | rfl | (simp only [kc_pair, hx]; done) | (simp only [kc_pair, hx, hy]; done) | (simp only [kc_pair, hx, hy]; (repeat' split) <;> first | rfl | omega | (simp_all; done)))
set_option maxRecDepth 100000 in
set_option maxHeartbeats 4000000 in
theorem c_S_control (l : Launch) (Y : YY) (n s c : Nat) (hV : pv_ok (vC Y n s c)) (u : UU) (x t p i : Int32) (hn : n ≤ 6) : Ct l (vC Y n s c) ⟨"SlottedMesh", "control", "(IIII)Z"⟩ (wz ⟨"SlottedMesh", "control", "(IIII)Z"⟩ b_S_control 5 (some .boolean)) (rd 2) [.ref (pv_ad (vC Y n s c) 0 0), .int x, .int t, .int p, .int i] u (some (.int (nI (kc_control n u x t p i).1))) ((kc_control n u x t p i).2) := by
  refine ct_mk hV (by decide +kernel) (Nat.le_of_ble_eq_true rfl) (fun X hX => ?_)
  have hX : ox X (vC Y n s c) (rd 2) b_S_control 5 "SlottedMesh" gz (some .boolean) := hX
  show ow X (vC Y n s c) (some (.int (nI (kc_control n u x t p i).1))) ((kc_control n u x t p i).2) u [(0, .ref (pv_ad (vC Y n s c) 0 0)), (1, .int x), (2, .int t), (3, .int p), (4, .int i)] 0 []
  rcases hx : nf n x with _ | a
  · skip
    refine ow_aload_n (pc := 0) hX d_S_control_0 rfl ?_
    refine ow_iload_n (pc := 1) hX d_S_control_1 rfl ?_
    refine ow_callV (pc := 2) hX (kd_S Y n s c) Nat.zero_lt_one (c_S_isFieldNode _ Y n s c hV u x hn) (cw_V hX mz_S_isFieldNode kw_316 ⟨rfl, rfl⟩ (by decide)) rfl (Nat.le_of_ble_eq_true rfl) d_S_control_2 rfl ?_
    refine ow_st (st2 := .int (nI 0) :: _) (by rw [hx]; rfl) ?_
    refine ow_nz_eq (pc := 5) (tgt := 42) hX d_S_control_5 (by decide) (by first | assumption | omega | (have := kin_le t (-1000) (nI 1000); omega) | (have := kin_le p (nI 0) (nI 16); omega) | (have := kin_le i (nI 0) (nI 16); omega)) (fun h5 => ?_) (fun h5 => ?_)
    · skip
      refine ow_iconst (pc := 42) (v := nI 0) hX d_S_control_42 (by decide) ?_
      exact ow_zret (pc := 43) hX d_S_control_43 (nb_01 (by first | decide | assumption | omega | exact kbit_le _ _)) (by first | rfl | (simp only [kc_control, hx]; done) | (simp only [kc_control, hx]; (repeat' split) <;> first | rfl | omega | (simp_all; done))) (by first | rfl | (simp only [kc_control, hx]; done) | (simp only [kc_control, hx]; (repeat' split) <;> first | rfl | omega | (simp_all; done)))
    · skip
      exact absurd h5 (by decide)
  · skip
    obtain ⟨ha, ha0, rfl⟩ := nf_some (by omega) hx
    refine ow_aload_n (pc := 0) hX d_S_control_0 rfl ?_
    refine ow_iload_n (pc := 1) hX d_S_control_1 rfl ?_
    refine ow_callV (pc := 2) hX (kd_S Y n s c) Nat.zero_lt_one (c_S_isFieldNode _ Y n s c hV u (nI a) hn) (cw_V hX mz_S_isFieldNode kw_316 ⟨rfl, rfl⟩ (by decide)) rfl (Nat.le_of_ble_eq_true rfl) d_S_control_2 rfl ?_
    refine ow_st (st2 := .int (nI 1) :: _) (by rw [hx]; rfl) ?_
    refine ow_nz_eq (pc := 5) (tgt := 42) hX d_S_control_5 (by decide) (by first | assumption | omega | (have := kin_le t (-1000) (nI 1000); omega) | (have := kin_le p (nI 0) (nI 16); omega) | (have := kin_le i (nI 0) (nI 16); omega)) (fun h5 => ?_) (fun h5 => ?_)
    · skip
      exact absurd h5 (by decide)
    · skip
      refine ow_iload_n (pc := 8) hX d_S_control_8 rfl ?_
      refine ow_sipush (pc := 9) (v := (-1000)) hX d_S_control_9 (by decide) ?_
      refine ow_sipush (pc := 12) (v := nI 1000) hX d_S_control_12 (by decide) ?_
      refine ow_callS (pc := 15) hX (c_S_isWithin _ Y n s c hV _ t (-1000) (nI 1000)) (cw_S hX mz_S_isWithin kw_329 ⟨rfl, rfl⟩ (by decide)) rfl (Nat.le_of_ble_eq_true rfl) d_S_control_15 rfl ?_
      refine ow_nz_eq (pc := 18) (tgt := 42) hX d_S_control_18 (by decide) (by first | assumption | omega | (have := kin_le t (-1000) (nI 1000); omega) | (have := kin_le p (nI 0) (nI 16); omega) | (have := kin_le i (nI 0) (nI 16); omega)) (fun h18 => ?_) (fun h18 => ?_)
      · skip
        refine ow_iconst (pc := 42) (v := nI 0) hX d_S_control_42 (by decide) ?_
        exact ow_zret (pc := 43) hX d_S_control_43 (nb_01 (by first | decide | assumption | omega | exact kbit_le _ _)) (by first | rfl | (simp only [kc_control, hx]; done) | (simp only [kc_control, hx]; (repeat' split) <;> first | rfl | omega | (simp_all; done))) (by first | rfl | (simp only [kc_control, hx]; done) | (simp only [kc_control, hx]; (repeat' split) <;> first | rfl | omega | (simp_all; done)))
      · skip
        refine ow_iload_n (pc := 21) hX d_S_control_21 rfl ?_
        refine ow_iconst (pc := 22) (v := nI 0) hX d_S_control_22 (by decide) ?_
        refine ow_bipush (pc := 23) (v := nI 16) hX d_S_control_23 (by decide) ?_
        refine ow_callS (pc := 25) hX (c_S_isWithin _ Y n s c hV _ p (nI 0) (nI 16)) (cw_S hX mz_S_isWithin kw_329 ⟨rfl, rfl⟩ (by decide)) rfl (Nat.le_of_ble_eq_true rfl) d_S_control_25 rfl ?_
        refine ow_nz_eq (pc := 28) (tgt := 42) hX d_S_control_28 (by decide) (by first | assumption | omega | (have := kin_le t (-1000) (nI 1000); omega) | (have := kin_le p (nI 0) (nI 16); omega) | (have := kin_le i (nI 0) (nI 16); omega)) (fun h28 => ?_) (fun h28 => ?_)
        · skip
          refine ow_iconst (pc := 42) (v := nI 0) hX d_S_control_42 (by decide) ?_
          exact ow_zret (pc := 43) hX d_S_control_43 (nb_01 (by first | decide | assumption | omega | exact kbit_le _ _)) (by first | rfl | (simp only [kc_control, hx]; done) | (simp only [kc_control, hx]; (repeat' split) <;> first | rfl | omega | (simp_all; done))) (by first | rfl | (simp only [kc_control, hx]; done) | (simp only [kc_control, hx]; (repeat' split) <;> first | rfl | omega | (simp_all; done)))
        · skip
          refine ow_iload (pc := 31) hX d_S_control_31 rfl ?_
          refine ow_iconst (pc := 33) (v := nI 0) hX d_S_control_33 (by decide) ?_
          refine ow_bipush (pc := 34) (v := nI 16) hX d_S_control_34 (by decide) ?_
          refine ow_callS (pc := 36) hX (c_S_isWithin _ Y n s c hV _ i (nI 0) (nI 16)) (cw_S hX mz_S_isWithin kw_329 ⟨rfl, rfl⟩ (by decide)) rfl (Nat.le_of_ble_eq_true rfl) d_S_control_36 rfl ?_
          refine ow_nz_ne (pc := 39) (tgt := 44) hX d_S_control_39 (by decide) (by first | assumption | omega | (have := kin_le t (-1000) (nI 1000); omega) | (have := kin_le p (nI 0) (nI 16); omega) | (have := kin_le i (nI 0) (nI 16); omega)) (fun h39 => ?_) (fun h39 => ?_)
          · skip
            refine ow_aload_n (pc := 44) hX d_S_control_44 rfl ?_
            refine ow_gR (pc := 45) hX (kd_S Y n s c) 4 d_S_control_45 kw_205 rfl Nat.zero_lt_one ?_
            refine ow_iload_n (pc := 48) hX d_S_control_48 rfl ?_
            refine ow_aR (pc := 49) hX rfl d_S_control_49 Nat.zero_lt_one (by show _ < n; first | assumption | omega) ?_
            refine ow_iload_n (pc := 50) hX d_S_control_50 rfl ?_
            refine ow_pI (pc := 51) hX (kd_O Y n s c) 2 d_S_control_51 kw_126 rfl (by show _ < n; first | assumption | omega) rfl (by decide +kernel) ?_
            refine ow_aload_n (pc := 54) hX d_S_control_54 rfl ?_
            refine ow_gR (pc := 55) hX (kd_S Y n s c) 4 d_S_control_55 kw_205 rfl Nat.zero_lt_one ?_
            refine ow_iload_n (pc := 58) hX d_S_control_58 rfl ?_
            refine ow_aR (pc := 59) hX rfl d_S_control_59 Nat.zero_lt_one (by show _ < n; first | assumption | omega) ?_
            refine ow_iload_n (pc := 60) hX d_S_control_60 rfl ?_
            refine ow_pI (pc := 61) hX (kd_O Y n s c) 3 d_S_control_61 kw_128 rfl (by show _ < n; first | assumption | omega) rfl (by decide +kernel) ?_
            refine ow_aload_n (pc := 64) hX d_S_control_64 rfl ?_
            refine ow_gR (pc := 65) hX (kd_S Y n s c) 4 d_S_control_65 kw_205 rfl Nat.zero_lt_one ?_
            refine ow_iload_n (pc := 68) hX d_S_control_68 rfl ?_
            refine ow_aR (pc := 69) hX rfl d_S_control_69 Nat.zero_lt_one (by show _ < n; first | assumption | omega) ?_
            refine ow_iload (pc := 70) hX d_S_control_70 rfl ?_
            refine ow_pI (pc := 72) hX (kd_O Y n s c) 4 d_S_control_72 kw_130 rfl (by show _ < n; first | assumption | omega) rfl (by decide +kernel) ?_
            refine ow_iconst (pc := 75) (v := nI 1) hX d_S_control_75 (by decide) ?_
            exact ow_zret (pc := 76) hX d_S_control_76 (nb_01 (by first | decide | assumption | omega | exact kbit_le _ _)) (by first | rfl | (simp only [kc_control, hx]; done) | (simp only [kc_control, hx]; (repeat' split) <;> first | rfl | omega | (simp_all; done))) (by first | rfl | (simp only [kc_control, hx]; done) | (simp only [kc_control, hx]; (repeat' split) <;> first | rfl | omega | (simp_all; done)))
          · skip
            refine ow_iconst (pc := 42) (v := nI 0) hX d_S_control_42 (by decide) ?_
            exact ow_zret (pc := 43) hX d_S_control_43 (nb_01 (by first | decide | assumption | omega | exact kbit_le _ _)) (by first | rfl | (simp only [kc_control, hx]; done) | (simp only [kc_control, hx]; (repeat' split) <;> first | rfl | omega | (simp_all; done))) (by first | rfl | (simp only [kc_control, hx]; done) | (simp only [kc_control, hx]; (repeat' split) <;> first | rfl | omega | (simp_all; done)))
set_option maxRecDepth 100000 in
set_option maxHeartbeats 4000000 in
theorem c_S_sample (l : Launch) (Y : YY) (n s c : Nat) (hV : pv_ok (vC Y n s c)) (u : UU) (x v : Int32) (hn : n ≤ 6) (hs1 : ∀ i, u.1 4 i 6 ≤ 1) (hs4 : ∀ r, u.1 8 r 3 ≤ 4) : Ct l (vC Y n s c) ⟨"SlottedMesh", "sample", "(II)I"⟩ (wz ⟨"SlottedMesh", "sample", "(II)I"⟩ b_S_sample 4 (some .int)) (rd 2) [.ref (pv_ad (vC Y n s c) 0 0), .int x, .int v] u (some (.int (kc_sample n u x v).1)) ((kc_sample n u x v).2) := by
  refine ct_mk hV (by decide +kernel) (Nat.le_of_ble_eq_true rfl) (fun X hX => ?_)
  have hX : ox X (vC Y n s c) (rd 2) b_S_sample 4 "SlottedMesh" gz (some .int) := hX
  show ow X (vC Y n s c) (some (.int (kc_sample n u x v).1)) ((kc_sample n u x v).2) u [(0, .ref (pv_ad (vC Y n s c) 0 0)), (1, .int x), (2, .int v)] 0 []
  rcases hx : nf n x with _ | a
  · skip
    refine ow_aload_n (pc := 0) hX d_S_sample_0 rfl ?_
    refine ow_iload_n (pc := 1) hX d_S_sample_1 rfl ?_
    refine ow_callV (pc := 2) hX (kd_S Y n s c) Nat.zero_lt_one (c_S_isFieldNode _ Y n s c hV u x hn) (cw_V hX mz_S_isFieldNode kw_316 ⟨rfl, rfl⟩ (by decide)) rfl (Nat.le_of_ble_eq_true rfl) d_S_sample_2 rfl ?_
    refine ow_st (st2 := .int (nI 0) :: _) (by rw [hx]; rfl) ?_
    refine ow_nz_eq (pc := 5) (tgt := 33) hX d_S_sample_5 (by decide) (by first | assumption | omega | (have := kin_le v (-1000) (nI 1000); omega) | (have := hs1 a; omega) | (split <;> decide)) (fun h5 => ?_) (fun h5 => ?_)
    · skip
      refine ow_iconst (pc := 33) (v := (-1)) hX d_S_sample_33 (by decide) ?_
      exact ow_iret (pc := 34) hX d_S_sample_34 (by first | rfl | (simp only [kc_sample, hx]; done) | (simp only [kc_sample, hx]; first | rw [if_pos h17] | rw [if_neg h17, if_pos h30] | rw [if_neg h17, if_neg h30, if_pos hq] | rw [if_neg h17, if_neg h30, if_neg hq])) (by first | rfl | (simp only [kc_sample, hx]; done) | (simp only [kc_sample, hx]; first | rw [if_pos h17] | rw [if_neg h17, if_pos h30] | rw [if_neg h17, if_neg h30, if_pos hq] | rw [if_neg h17, if_neg h30, if_neg hq]))
    · skip
      exact absurd h5 (by decide)
  · skip
    obtain ⟨ha, ha0, rfl⟩ := nf_some (by omega) hx
    refine ow_aload_n (pc := 0) hX d_S_sample_0 rfl ?_
    refine ow_iload_n (pc := 1) hX d_S_sample_1 rfl ?_
    refine ow_callV (pc := 2) hX (kd_S Y n s c) Nat.zero_lt_one (c_S_isFieldNode _ Y n s c hV u (nI a) hn) (cw_V hX mz_S_isFieldNode kw_316 ⟨rfl, rfl⟩ (by decide)) rfl (Nat.le_of_ble_eq_true rfl) d_S_sample_2 rfl ?_
    refine ow_st (st2 := .int (nI 1) :: _) (by rw [hx]; rfl) ?_
    refine ow_nz_eq (pc := 5) (tgt := 33) hX d_S_sample_5 (by decide) (by first | assumption | omega | (have := kin_le v (-1000) (nI 1000); omega) | (have := hs1 a; omega) | (split <;> decide)) (fun h5 => ?_) (fun h5 => ?_)
    · skip
      exact absurd h5 (by decide)
    · skip
      refine ow_aload_n (pc := 8) hX d_S_sample_8 rfl ?_
      refine ow_gR (pc := 9) hX (kd_S Y n s c) 2 d_S_sample_9 kw_203 rfl Nat.zero_lt_one ?_
      refine ow_iload_n (pc := 12) hX d_S_sample_12 rfl ?_
      refine ow_aR (pc := 13) hX rfl d_S_sample_13 Nat.zero_lt_one (by show _ < n; first | assumption | omega) ?_
      refine ow_gN (pc := 14) hX (kd_N Y n s c) 6 d_S_sample_14 kw_75 rfl (by show _ < n; first | assumption | omega) ?_
      refine ow_nz_eq (pc := 17) (tgt := 33) hX d_S_sample_17 (by decide) (by first | assumption | omega | (have := kin_le v (-1000) (nI 1000); omega) | (have := hs1 a; omega) | (split <;> decide)) (fun h17 => ?_) (fun h17 => ?_)
      · skip
        refine ow_iconst (pc := 33) (v := (-1)) hX d_S_sample_33 (by decide) ?_
        exact ow_iret (pc := 34) hX d_S_sample_34 (by first | rfl | (simp only [kc_sample, hx]; done) | (simp only [kc_sample, hx]; first | rw [if_pos h17] | rw [if_neg h17, if_pos h30] | rw [if_neg h17, if_neg h30, if_pos hq] | rw [if_neg h17, if_neg h30, if_neg hq])) (by first | rfl | (simp only [kc_sample, hx]; done) | (simp only [kc_sample, hx]; first | rw [if_pos h17] | rw [if_neg h17, if_pos h30] | rw [if_neg h17, if_neg h30, if_pos hq] | rw [if_neg h17, if_neg h30, if_neg hq]))
      · skip
        refine ow_iload_n (pc := 20) hX d_S_sample_20 rfl ?_
        refine ow_sipush (pc := 21) (v := (-1000)) hX d_S_sample_21 (by decide) ?_
        refine ow_sipush (pc := 24) (v := nI 1000) hX d_S_sample_24 (by decide) ?_
        refine ow_callS (pc := 27) hX (c_S_isWithin _ Y n s c hV _ v (-1000) (nI 1000)) (cw_S hX mz_S_isWithin kw_329 ⟨rfl, rfl⟩ (by decide)) rfl (Nat.le_of_ble_eq_true rfl) d_S_sample_27 rfl ?_
        refine ow_nz_ne (pc := 30) (tgt := 35) hX d_S_sample_30 (by decide) (by first | assumption | omega | (have := kin_le v (-1000) (nI 1000); omega) | (have := hs1 a; omega) | (split <;> decide)) (fun h30 => ?_) (fun h30 => ?_)
        · skip
          refine ow_aload_n (pc := 35) hX d_S_sample_35 rfl ?_
          refine ow_gR (pc := 36) hX (kd_S Y n s c) 2 d_S_sample_36 kw_203 rfl Nat.zero_lt_one ?_
          refine ow_iload_n (pc := 39) hX d_S_sample_39 rfl ?_
          refine ow_aR (pc := 40) hX rfl d_S_sample_40 Nat.zero_lt_one (by show _ < n; first | assumption | omega) ?_
          refine ow_astore_n (pc := 41) (l2 := [(0, _), (1, _), (2, _), (3, _)]) hX d_S_sample_41 (by decide) rfl rfl ?_
          refine ow_aload_n (pc := 42) hX d_S_sample_42 rfl ?_
          refine ow_gE (pc := 43) hX (kd_N Y n s c) 2 d_S_sample_43 kw_67 rfl (by show _ < n; first | assumption | omega) ?_
          refine ow_iload_n (pc := 46) hX d_S_sample_46 rfl ?_
          refine ow_aload_n (pc := 47) hX d_S_sample_47 rfl ?_
          refine ow_gI (pc := 48) hX (kd_N Y n s c) 12 d_S_sample_48 kw_85 rfl (by show _ < n; first | assumption | omega) ?_
          refine ow_iconst (pc := 51) (v := nI 1) hX d_S_sample_51 (by decide) ?_
          refine ow_iadd (pc := 52) hX d_S_sample_52 ?_
          refine ow_iload_n (pc := 53) hX d_S_sample_53 rfl ?_
          refine ow_callV (pc := 54) hX (kd_F Y n s c) (by show _ < 2 * n; first | assumption | omega) (c_F_append _ Y n s c hV u (2 * a) a (u.2.1 4 a 12 + nI 1) v (by omega) (hs4 _)) (cw_V hX mz_F_append kw_344 ⟨rfl, rfl⟩ (by decide)) rfl (Nat.le_of_ble_eq_true rfl) d_S_sample_54 rfl ?_
          by_cases hq : u.1 8 (2 * a) 3 < 4
          · skip
            refine ow_st (st2 := .int (nI 1) :: _) (by rw [if_pos hq]; rfl) ?_
            refine ow_nz_ne (pc := 57) (tgt := 62) hX d_S_sample_57 (by decide) (by first | assumption | omega | (have := kin_le v (-1000) (nI 1000); omega) | (have := hs1 a; omega) | (split <;> decide)) (fun h57 => ?_) (fun h57 => ?_)
            · skip
              refine ow_aload_n (pc := 62) hX d_S_sample_62 rfl ?_
              refine ow_dup (pc := 63) hX d_S_sample_63 rfl ?_
              refine ow_gI (pc := 64) hX (kd_N Y n s c) 12 d_S_sample_64 kw_85 rfl (by show _ < n; first | assumption | omega) ?_
              try simp only [un_1, un_2, ui_1, ui_2, ui_3, ul_1, ul_2, ul_3, ul_4, ur_1, ur_2, ur_3, ur_4, Nat.reduceEqDiff, false_and, and_false, true_and, and_true, and_self, reduceIte]
              refine ow_iconst (pc := 67) (v := nI 1) hX d_S_sample_67 (by decide) ?_
              refine ow_iadd (pc := 68) hX d_S_sample_68 ?_
              refine ow_pI (pc := 69) hX (kd_N Y n s c) 12 d_S_sample_69 kw_85 rfl (by show _ < n; first | assumption | omega) rfl (by decide +kernel) ?_
              refine ow_aload_n (pc := 72) hX d_S_sample_72 rfl ?_
              refine ow_gI (pc := 73) hX (kd_N Y n s c) 12 d_S_sample_73 kw_85 rfl (by show _ < n; first | assumption | omega) ?_
              try simp only [un_1, un_2, ui_1, ui_2, ui_3, ul_1, ul_2, ul_3, ul_4, ur_1, ur_2, ur_3, ur_4, Nat.reduceEqDiff, false_and, and_false, true_and, and_true, and_self, reduceIte]
              exact ow_iret (pc := 76) hX d_S_sample_76 (by first | rfl | (simp only [kc_sample, hx]; done) | (simp only [kc_sample, hx]; first | rw [if_pos h17] | rw [if_neg h17, if_pos h30] | rw [if_neg h17, if_neg h30, if_pos hq] | rw [if_neg h17, if_neg h30, if_neg hq])) (by first | rfl | (simp only [kc_sample, hx]; done) | (simp only [kc_sample, hx]; first | rw [if_pos h17] | rw [if_neg h17, if_pos h30] | rw [if_neg h17, if_neg h30, if_pos hq] | rw [if_neg h17, if_neg h30, if_neg hq]))
            · skip
              exact absurd h57 (by decide)
          · skip
            refine ow_st (st2 := .int (nI 0) :: _) (by rw [if_neg hq]; rfl) ?_
            refine ow_nz_ne (pc := 57) (tgt := 62) hX d_S_sample_57 (by decide) (by first | assumption | omega | (have := kin_le v (-1000) (nI 1000); omega) | (have := hs1 a; omega) | (split <;> decide)) (fun h57 => ?_) (fun h57 => ?_)
            · skip
              exact absurd h57 (by decide)
            · skip
              have e9 : kc_append u (2 * a) a (u.2.1 4 a 12 + nI 1) v = u := by unfold kc_append; rw [if_neg hq]
              rw [e9]
              refine ow_iconst (pc := 60) (v := (-1)) hX d_S_sample_60 (by decide) ?_
              exact ow_iret (pc := 61) hX d_S_sample_61 (by first | rfl | (simp only [kc_sample, hx]; done) | (simp only [kc_sample, hx]; first | rw [if_pos h17] | rw [if_neg h17, if_pos h30] | rw [if_neg h17, if_neg h30, if_pos hq] | rw [if_neg h17, if_neg h30, if_neg hq])) (by first | rfl | (simp only [kc_sample, hx]; done) | (simp only [kc_sample, hx]; first | rw [if_pos h17] | rw [if_neg h17, if_pos h30] | rw [if_neg h17, if_neg h30, if_pos hq] | rw [if_neg h17, if_neg h30, if_neg hq]))
        · skip
          refine ow_iconst (pc := 33) (v := (-1)) hX d_S_sample_33 (by decide) ?_
          exact ow_iret (pc := 34) hX d_S_sample_34 (by first | rfl | (simp only [kc_sample, hx]; done) | (simp only [kc_sample, hx]; first | rw [if_pos h17] | rw [if_neg h17, if_pos h30] | rw [if_neg h17, if_neg h30, if_pos hq] | rw [if_neg h17, if_neg h30, if_neg hq])) (by first | rfl | (simp only [kc_sample, hx]; done) | (simp only [kc_sample, hx]; first | rw [if_pos h17] | rw [if_neg h17, if_pos h30] | rw [if_neg h17, if_neg h30, if_pos hq] | rw [if_neg h17, if_neg h30, if_neg hq]))
set_option maxRecDepth 100000 in
set_option maxHeartbeats 4000000 in
theorem c_S_rank (l : Launch) (Y : YY) (n s c : Nat) (hV : pv_ok (vC Y n s c)) (u : UU) (x : Int32) (hn : n ≤ 6) (hp : u.2.2.2 5 < 2) (hm : ∀ i, u.1 15 i 8 ≤ 1) : Ct l (vC Y n s c) ⟨"SlottedMesh", "rank", "(I)I"⟩ (wz ⟨"SlottedMesh", "rank", "(I)I"⟩ b_S_rank 2 (some .int)) (rd 1) [.ref (pv_ad (vC Y n s c) 0 0), .int x] u (some (.int (kc_rank n u x))) (u) := by
  refine ct_mk hV (by decide +kernel) (Nat.le_of_ble_eq_true rfl) (fun X hX => ?_)
  have hX : ox X (vC Y n s c) (rd 1) b_S_rank 2 "SlottedMesh" gz (some .int) := hX
  show ow X (vC Y n s c) (some (.int (kc_rank n u x))) (u) u [(0, .ref (pv_ad (vC Y n s c) 0 0)), (1, .int x)] 0 []
  rcases hx : nd n x with _ | a
  · skip
    refine ow_aload_n (pc := 0) hX d_S_rank_0 rfl ?_
    refine ow_gM (pc := 1) hX (kd_S Y n s c) 5 d_S_rank_1 kw_206 rfl Nat.zero_lt_one ?_
    refine ow_gN (pc := 4) hX (kd_P Y n s c) 8 d_S_rank_4 kw_181 rfl (by show _ < 2; first | assumption | omega) ?_
    refine ow_nz_eq (pc := 7) (tgt := 30) hX d_S_rank_7 (by decide) (by first | assumption | omega | (have := hm (u.2.2.2 5); omega)) (fun h7 => ?_) (fun h7 => ?_)
    · skip
      refine ow_iconst (pc := 30) (v := (-1)) hX d_S_rank_30 (by decide) ?_
      exact ow_iret (pc := 31) hX d_S_rank_31 (by first | rfl | (simp only [kc_rank, hx]; first | rw [if_pos h7] | rw [if_neg h7])) (by first | rfl | (simp only [kc_rank, hx]; first | rw [if_pos h7] | rw [if_neg h7]))
    · skip
      refine ow_aload_n (pc := 10) hX d_S_rank_10 rfl ?_
      refine ow_iload_n (pc := 11) hX d_S_rank_11 rfl ?_
      refine ow_callV (pc := 12) hX (kd_S Y n s c) Nat.zero_lt_one (c_S_isNode _ Y n s c hV u x hn) (cw_V hX mz_S_isNode kw_233 ⟨rfl, rfl⟩ (by decide)) rfl (Nat.le_of_ble_eq_true rfl) d_S_rank_12 rfl ?_
      refine ow_st (st2 := .int (nI 0) :: _) (by rw [hx]; rfl) ?_
      refine ow_nz_eq (pc := 15) (tgt := 30) hX d_S_rank_15 (by decide) (by first | assumption | omega | (have := hm (u.2.2.2 5); omega)) (fun h15 => ?_) (fun h15 => ?_)
      · skip
        refine ow_iconst (pc := 30) (v := (-1)) hX d_S_rank_30 (by decide) ?_
        exact ow_iret (pc := 31) hX d_S_rank_31 (by first | rfl | (simp only [kc_rank, hx]; first | rw [if_pos h7] | rw [if_neg h7])) (by first | rfl | (simp only [kc_rank, hx]; first | rw [if_pos h7] | rw [if_neg h7]))
      · skip
        exact absurd h15 (by decide)
  · skip
    obtain ⟨ha, rfl⟩ := nd_some (by omega) hx
    refine ow_aload_n (pc := 0) hX d_S_rank_0 rfl ?_
    refine ow_gM (pc := 1) hX (kd_S Y n s c) 5 d_S_rank_1 kw_206 rfl Nat.zero_lt_one ?_
    refine ow_gN (pc := 4) hX (kd_P Y n s c) 8 d_S_rank_4 kw_181 rfl (by show _ < 2; first | assumption | omega) ?_
    refine ow_nz_eq (pc := 7) (tgt := 30) hX d_S_rank_7 (by decide) (by first | assumption | omega | (have := hm (u.2.2.2 5); omega)) (fun h7 => ?_) (fun h7 => ?_)
    · skip
      refine ow_iconst (pc := 30) (v := (-1)) hX d_S_rank_30 (by decide) ?_
      exact ow_iret (pc := 31) hX d_S_rank_31 (by first | rfl | (simp only [kc_rank, hx]; first | rw [if_pos h7] | rw [if_neg h7])) (by first | rfl | (simp only [kc_rank, hx]; first | rw [if_pos h7] | rw [if_neg h7]))
    · skip
      refine ow_aload_n (pc := 10) hX d_S_rank_10 rfl ?_
      refine ow_iload_n (pc := 11) hX d_S_rank_11 rfl ?_
      refine ow_callV (pc := 12) hX (kd_S Y n s c) Nat.zero_lt_one (c_S_isNode _ Y n s c hV u (nI a) hn) (cw_V hX mz_S_isNode kw_233 ⟨rfl, rfl⟩ (by decide)) rfl (Nat.le_of_ble_eq_true rfl) d_S_rank_12 rfl ?_
      refine ow_st (st2 := .int (nI 1) :: _) (by rw [hx]; rfl) ?_
      refine ow_nz_eq (pc := 15) (tgt := 30) hX d_S_rank_15 (by decide) (by first | assumption | omega | (have := hm (u.2.2.2 5); omega)) (fun h15 => ?_) (fun h15 => ?_)
      · skip
        exact absurd h15 (by decide)
      · skip
        refine ow_aload_n (pc := 18) hX d_S_rank_18 rfl ?_
        refine ow_gM (pc := 19) hX (kd_S Y n s c) 5 d_S_rank_19 kw_206 rfl Nat.zero_lt_one ?_
        refine ow_gR (pc := 22) hX (kd_P Y n s c) 2 d_S_rank_22 kw_171 rfl (by show _ < 2; first | assumption | omega) ?_
        refine ow_iload_n (pc := 25) hX d_S_rank_25 rfl ?_
        refine ow_aI (pc := 26) hX rfl d_S_rank_26 (by show _ < 2; first | assumption | omega) (by show _ < n; first | assumption | omega) ?_
        refine ow_goto (pc := 27) (tgt := 31) hX d_S_rank_27 (by decide) ?_
        exact ow_iret (pc := 31) hX d_S_rank_31 (by first | rfl | (simp only [kc_rank, hx]; first | rw [if_pos h7] | rw [if_neg h7])) (by first | rfl | (simp only [kc_rank, hx]; first | rw [if_pos h7] | rw [if_neg h7]))
set_option maxRecDepth 100000 in
set_option maxHeartbeats 4000000 in
theorem c_S_parent (l : Launch) (Y : YY) (n s c : Nat) (hV : pv_ok (vC Y n s c)) (u : UU) (x k : Int32) (hn : n ≤ 6) (hp : u.2.2.2 5 < 2) (hm : ∀ i, u.1 15 i 8 ≤ 1) : Ct l (vC Y n s c) ⟨"SlottedMesh", "parent", "(II)I"⟩ (wz ⟨"SlottedMesh", "parent", "(II)I"⟩ b_S_parent 3 (some .int)) (rd 1) [.ref (pv_ad (vC Y n s c) 0 0), .int x, .int k] u (some (.int (kc_parent n u x k))) (u) := by
  refine ct_mk hV (by decide +kernel) (Nat.le_of_ble_eq_true rfl) (fun X hX => ?_)
  have hX : ox X (vC Y n s c) (rd 1) b_S_parent 3 "SlottedMesh" gz (some .int) := hX
  show ow X (vC Y n s c) (some (.int (kc_parent n u x k))) (u) u [(0, .ref (pv_ad (vC Y n s c) 0 0)), (1, .int x), (2, .int k)] 0 []
  rcases hx : nd n x with _ | a
  · skip
    refine ow_aload_n (pc := 0) hX d_S_parent_0 rfl ?_
    refine ow_gM (pc := 1) hX (kd_S Y n s c) 5 d_S_parent_1 kw_206 rfl Nat.zero_lt_one ?_
    refine ow_gN (pc := 4) hX (kd_P Y n s c) 8 d_S_parent_4 kw_181 rfl (by show _ < 2; first | assumption | omega) ?_
    refine ow_nz_eq (pc := 7) (tgt := 18) hX d_S_parent_7 (by decide) (by first | assumption | omega | (have := hm (u.2.2.2 5); omega)) (fun h7 => ?_) (fun h7 => ?_)
    · skip
      refine ow_iconst (pc := 18) (v := (-1)) hX d_S_parent_18 (by decide) ?_
      exact ow_iret (pc := 19) hX d_S_parent_19 (by first | rfl | (simp only [kc_parent, hx]; first | rw [if_pos h7] | rw [if_neg h7, if_pos h21] | rw [if_neg h7, if_neg h21, if_pos h36] | rw [if_neg h7, if_neg h21, if_neg h36] | rw [if_neg h7])) (by first | rfl | (simp only [kc_parent, hx]; first | rw [if_pos h7] | rw [if_neg h7, if_pos h21] | rw [if_neg h7, if_neg h21, if_pos h36] | rw [if_neg h7, if_neg h21, if_neg h36] | rw [if_neg h7]))
    · skip
      refine ow_aload_n (pc := 10) hX d_S_parent_10 rfl ?_
      refine ow_iload_n (pc := 11) hX d_S_parent_11 rfl ?_
      refine ow_callV (pc := 12) hX (kd_S Y n s c) Nat.zero_lt_one (c_S_isNode _ Y n s c hV u x hn) (cw_V hX mz_S_isNode kw_233 ⟨rfl, rfl⟩ (by decide)) rfl (Nat.le_of_ble_eq_true rfl) d_S_parent_12 rfl ?_
      refine ow_st (st2 := .int (nI 0) :: _) (by rw [hx]; rfl) ?_
      refine ow_nz_ne (pc := 15) (tgt := 20) hX d_S_parent_15 (by decide) (by first | assumption | omega | (have := hm (u.2.2.2 5); omega)) (fun h15 => ?_) (fun h15 => ?_)
      · skip
        exact absurd h15 (by decide)
      · skip
        refine ow_iconst (pc := 18) (v := (-1)) hX d_S_parent_18 (by decide) ?_
        exact ow_iret (pc := 19) hX d_S_parent_19 (by first | rfl | (simp only [kc_parent, hx]; first | rw [if_pos h7] | rw [if_neg h7, if_pos h21] | rw [if_neg h7, if_neg h21, if_pos h36] | rw [if_neg h7, if_neg h21, if_neg h36] | rw [if_neg h7])) (by first | rfl | (simp only [kc_parent, hx]; first | rw [if_pos h7] | rw [if_neg h7, if_pos h21] | rw [if_neg h7, if_neg h21, if_pos h36] | rw [if_neg h7, if_neg h21, if_neg h36] | rw [if_neg h7]))
  · skip
    obtain ⟨ha, rfl⟩ := nd_some (by omega) hx
    refine ow_aload_n (pc := 0) hX d_S_parent_0 rfl ?_
    refine ow_gM (pc := 1) hX (kd_S Y n s c) 5 d_S_parent_1 kw_206 rfl Nat.zero_lt_one ?_
    refine ow_gN (pc := 4) hX (kd_P Y n s c) 8 d_S_parent_4 kw_181 rfl (by show _ < 2; first | assumption | omega) ?_
    refine ow_nz_eq (pc := 7) (tgt := 18) hX d_S_parent_7 (by decide) (by first | assumption | omega | (have := hm (u.2.2.2 5); omega)) (fun h7 => ?_) (fun h7 => ?_)
    · skip
      refine ow_iconst (pc := 18) (v := (-1)) hX d_S_parent_18 (by decide) ?_
      exact ow_iret (pc := 19) hX d_S_parent_19 (by first | rfl | (simp only [kc_parent, hx]; first | rw [if_pos h7] | rw [if_neg h7, if_pos h21] | rw [if_neg h7, if_neg h21, if_pos h36] | rw [if_neg h7, if_neg h21, if_neg h36] | rw [if_neg h7])) (by first | rfl | (simp only [kc_parent, hx]; first | rw [if_pos h7] | rw [if_neg h7, if_pos h21] | rw [if_neg h7, if_neg h21, if_pos h36] | rw [if_neg h7, if_neg h21, if_neg h36] | rw [if_neg h7]))
    · skip
      refine ow_aload_n (pc := 10) hX d_S_parent_10 rfl ?_
      refine ow_iload_n (pc := 11) hX d_S_parent_11 rfl ?_
      refine ow_callV (pc := 12) hX (kd_S Y n s c) Nat.zero_lt_one (c_S_isNode _ Y n s c hV u (nI a) hn) (cw_V hX mz_S_isNode kw_233 ⟨rfl, rfl⟩ (by decide)) rfl (Nat.le_of_ble_eq_true rfl) d_S_parent_12 rfl ?_
      refine ow_st (st2 := .int (nI 1) :: _) (by rw [hx]; rfl) ?_
      refine ow_nz_ne (pc := 15) (tgt := 20) hX d_S_parent_15 (by decide) (by first | assumption | omega | (have := hm (u.2.2.2 5); omega)) (fun h15 => ?_) (fun h15 => ?_)
      · skip
        refine ow_iload_n (pc := 20) hX d_S_parent_20 rfl ?_
        refine ow_if_ne (pc := 21) (tgt := 34) hX d_S_parent_21 (by decide) (fun h21 => ?_) (fun h21 => ?_)
        · skip
          refine ow_iload_n (pc := 34) hX d_S_parent_34 rfl ?_
          refine ow_iconst (pc := 35) (v := nI 1) hX d_S_parent_35 (by decide) ?_
          refine ow_ic_ne (pc := 36) (tgt := 51) hX d_S_parent_36 (by decide) (fun h36 => ?_) (fun h36 => ?_)
          · skip
            refine ow_iconst (pc := 51) (v := (-1)) hX d_S_parent_51 (by decide) ?_
            exact ow_iret (pc := 52) hX d_S_parent_52 (by first | rfl | (simp only [kc_parent, hx]; first | rw [if_pos h7] | rw [if_neg h7, if_pos h21] | rw [if_neg h7, if_neg h21, if_pos h36] | rw [if_neg h7, if_neg h21, if_neg h36] | rw [if_neg h7])) (by first | rfl | (simp only [kc_parent, hx]; first | rw [if_pos h7] | rw [if_neg h7, if_pos h21] | rw [if_neg h7, if_neg h21, if_pos h36] | rw [if_neg h7, if_neg h21, if_neg h36] | rw [if_neg h7]))
          · skip
            refine ow_aload_n (pc := 39) hX d_S_parent_39 rfl ?_
            refine ow_gM (pc := 40) hX (kd_S Y n s c) 5 d_S_parent_40 kw_206 rfl Nat.zero_lt_one ?_
            refine ow_gR (pc := 43) hX (kd_P Y n s c) 4 d_S_parent_43 kw_175 rfl (by show _ < 2; first | assumption | omega) ?_
            refine ow_iload_n (pc := 46) hX d_S_parent_46 rfl ?_
            refine ow_aI (pc := 47) hX rfl d_S_parent_47 (by show _ < 2; first | assumption | omega) (by show _ < n; first | assumption | omega) ?_
            refine ow_goto (pc := 48) (tgt := 52) hX d_S_parent_48 (by decide) ?_
            exact ow_iret (pc := 52) hX d_S_parent_52 (by first | rfl | (simp only [kc_parent, hx]; first | rw [if_pos h7] | rw [if_neg h7, if_pos h21] | rw [if_neg h7, if_neg h21, if_pos h36] | rw [if_neg h7, if_neg h21, if_neg h36] | rw [if_neg h7])) (by first | rfl | (simp only [kc_parent, hx]; first | rw [if_pos h7] | rw [if_neg h7, if_pos h21] | rw [if_neg h7, if_neg h21, if_pos h36] | rw [if_neg h7, if_neg h21, if_neg h36] | rw [if_neg h7]))
        · skip
          refine ow_aload_n (pc := 24) hX d_S_parent_24 rfl ?_
          refine ow_gM (pc := 25) hX (kd_S Y n s c) 5 d_S_parent_25 kw_206 rfl Nat.zero_lt_one ?_
          refine ow_gR (pc := 28) hX (kd_P Y n s c) 3 d_S_parent_28 kw_173 rfl (by show _ < 2; first | assumption | omega) ?_
          refine ow_iload_n (pc := 31) hX d_S_parent_31 rfl ?_
          refine ow_aI (pc := 32) hX rfl d_S_parent_32 (by show _ < 2; first | assumption | omega) (by show _ < n; first | assumption | omega) ?_
          exact ow_iret (pc := 33) hX d_S_parent_33 (by first | rfl | (simp only [kc_parent, hx]; first | rw [if_pos h7] | rw [if_neg h7, if_pos h21] | rw [if_neg h7, if_neg h21, if_pos h36] | rw [if_neg h7, if_neg h21, if_neg h36] | rw [if_neg h7])) (by first | rfl | (simp only [kc_parent, hx]; first | rw [if_pos h7] | rw [if_neg h7, if_pos h21] | rw [if_neg h7, if_neg h21, if_pos h36] | rw [if_neg h7, if_neg h21, if_neg h36] | rw [if_neg h7]))
      · skip
        exact absurd h15 (by decide)
theorem kin_nd {s : Nat} {x : Int32} (h0 : 0 < s) (hs : s < 2 ^ 31) : kin x (nI 0) (nI (s - 1)) = kb (nd s x) := by
  unfold kin nd
  rw [nI_0]
  by_cases h1 : x < 0
  · rw [if_pos h1, if_pos h1]; rfl
  · rw [if_neg h1, if_neg h1]
    obtain ⟨j, hj, rfl⟩ := nI_of h1
    have e1 : nI (s - 1) < nI j ↔ nI s ≤ nI j := by rw [nI_ltI (by omega) hj, nI_leI hs hj]; omega
    by_cases h2 : nI s ≤ nI j
    · rw [if_pos h2, if_pos (e1.mpr h2)]; rfl
    · rw [if_neg h2, if_neg (fun q => h2 (e1.mp q))]; rfl
set_option maxRecDepth 100000 in
set_option maxHeartbeats 4000000 in
theorem c_S_cell (l : Launch) (Y : YY) (n s c : Nat) (hV : pv_ok (vC Y n s c)) (u : UU) (x y : Int32) (h0 : 0 < s) (hs : s < 2 ^ 31) (hc : c ≤ 4) (hp : u.2.2.2 5 < 2) (hm : ∀ i, u.1 15 i 8 ≤ 1) : Ct l (vC Y n s c) ⟨"SlottedMesh", "cell", "(II)I"⟩ (wz ⟨"SlottedMesh", "cell", "(II)I"⟩ b_S_cell 3 (some .int)) (rd 1) [.ref (pv_ad (vC Y n s c) 0 0), .int x, .int y] u (some (.int (kc_cell s c u x y))) (u) := by
  refine ct_mk hV (by decide +kernel) (Nat.le_of_ble_eq_true rfl) (fun X hX => ?_)
  have hX : ox X (vC Y n s c) (rd 1) b_S_cell 3 "SlottedMesh" gz (some .int) := hX
  show ow X (vC Y n s c) (some (.int (kc_cell s c u x y))) (u) u [(0, .ref (pv_ad (vC Y n s c) 0 0)), (1, .int x), (2, .int y)] 0 []
  rcases hx : nd s x with _ | a
  · skip
    refine ow_iload_n (pc := 0) hX d_S_cell_0 rfl ?_
    refine ow_iconst (pc := 1) (v := nI 0) hX d_S_cell_1 (by decide) ?_
    refine ow_aload_n (pc := 2) hX d_S_cell_2 rfl ?_
    refine ow_gK (pc := 3) hX (kd_S Y n s c) 0 d_S_cell_3 kw_201 rfl Nat.zero_lt_one ?_
    refine ow_iconst (pc := 6) (v := nI 1) hX d_S_cell_6 (by decide) ?_
    refine ow_subn (pc := 7) hX d_S_cell_7 (by first | assumption | omega | (have := hm (u.2.2.2 5); omega)) ?_
    refine ow_callS (pc := 8) hX (c_S_isWithin _ Y n s c hV u x (nI 0) (nI (s - 1))) (cw_S hX mz_S_isWithin kw_329 ⟨rfl, rfl⟩ (by decide)) rfl (Nat.le_of_ble_eq_true rfl) d_S_cell_8 rfl ?_
    refine ow_st (st2 := .int (nI 0) :: _) (by rw [kin_nd h0 hs, hx]; rfl) ?_
    refine ow_nz_eq (pc := 11) (tgt := 22) hX d_S_cell_11 (by decide) (by first | assumption | omega | (have := hm (u.2.2.2 5); omega)) (fun h11 => ?_) (fun h11 => ?_)
    · skip
      refine ow_iconst (pc := 22) (v := (-1)) hX d_S_cell_22 (by decide) ?_
      exact ow_iret (pc := 23) hX d_S_cell_23 (by first | rfl | (simp only [kc_cell, hx]; done) | (simp only [kc_cell, hx, hy]; done) | (simp only [kc_cell, hx, hy]; first | rw [if_pos h31] | rw [if_neg h31])) (by first | rfl | (simp only [kc_cell, hx]; done) | (simp only [kc_cell, hx, hy]; done) | (simp only [kc_cell, hx, hy]; first | rw [if_pos h31] | rw [if_neg h31]))
    · skip
      exact absurd h11 (by decide)
  · skip
    obtain ⟨ha, rfl⟩ := nd_some (by omega) hx
    rcases hy : nd c y with _ | b
    · skip
      refine ow_iload_n (pc := 0) hX d_S_cell_0 rfl ?_
      refine ow_iconst (pc := 1) (v := nI 0) hX d_S_cell_1 (by decide) ?_
      refine ow_aload_n (pc := 2) hX d_S_cell_2 rfl ?_
      refine ow_gK (pc := 3) hX (kd_S Y n s c) 0 d_S_cell_3 kw_201 rfl Nat.zero_lt_one ?_
      refine ow_iconst (pc := 6) (v := nI 1) hX d_S_cell_6 (by decide) ?_
      refine ow_subn (pc := 7) hX d_S_cell_7 (by first | assumption | omega | (have := hm (u.2.2.2 5); omega)) ?_
      refine ow_callS (pc := 8) hX (c_S_isWithin _ Y n s c hV u (nI a) (nI 0) (nI (s - 1))) (cw_S hX mz_S_isWithin kw_329 ⟨rfl, rfl⟩ (by decide)) rfl (Nat.le_of_ble_eq_true rfl) d_S_cell_8 rfl ?_
      refine ow_st (st2 := .int (nI 1) :: _) (by rw [kin_nd h0 hs, hx]; rfl) ?_
      refine ow_nz_eq (pc := 11) (tgt := 22) hX d_S_cell_11 (by decide) (by first | assumption | omega | (have := hm (u.2.2.2 5); omega)) (fun h11 => ?_) (fun h11 => ?_)
      · skip
        exact absurd h11 (by decide)
      · skip
        refine ow_aload_n (pc := 14) hX d_S_cell_14 rfl ?_
        refine ow_iload_n (pc := 15) hX d_S_cell_15 rfl ?_
        refine ow_callV (pc := 16) hX (kd_S Y n s c) Nat.zero_lt_one (c_S_isChannel _ Y n s c hV u y) (cw_V hX mz_S_isChannel kw_336 ⟨rfl, rfl⟩ (by decide)) rfl (Nat.le_of_ble_eq_true rfl) d_S_cell_16 rfl ?_
        refine ow_st (st2 := .int (nI 0) :: _) (by rw [hy]; rfl) ?_
        refine ow_nz_ne (pc := 19) (tgt := 24) hX d_S_cell_19 (by decide) (by first | assumption | omega | (have := hm (u.2.2.2 5); omega)) (fun h19 => ?_) (fun h19 => ?_)
        · skip
          exact absurd h19 (by decide)
        · skip
          refine ow_iconst (pc := 22) (v := (-1)) hX d_S_cell_22 (by decide) ?_
          exact ow_iret (pc := 23) hX d_S_cell_23 (by first | rfl | (simp only [kc_cell, hx]; done) | (simp only [kc_cell, hx, hy]; done) | (simp only [kc_cell, hx, hy]; first | rw [if_pos h31] | rw [if_neg h31])) (by first | rfl | (simp only [kc_cell, hx]; done) | (simp only [kc_cell, hx, hy]; done) | (simp only [kc_cell, hx, hy]; first | rw [if_pos h31] | rw [if_neg h31]))
    · skip
      obtain ⟨hb, rfl⟩ := nd_some (by omega) hy
      refine ow_iload_n (pc := 0) hX d_S_cell_0 rfl ?_
      refine ow_iconst (pc := 1) (v := nI 0) hX d_S_cell_1 (by decide) ?_
      refine ow_aload_n (pc := 2) hX d_S_cell_2 rfl ?_
      refine ow_gK (pc := 3) hX (kd_S Y n s c) 0 d_S_cell_3 kw_201 rfl Nat.zero_lt_one ?_
      refine ow_iconst (pc := 6) (v := nI 1) hX d_S_cell_6 (by decide) ?_
      refine ow_subn (pc := 7) hX d_S_cell_7 (by first | assumption | omega | (have := hm (u.2.2.2 5); omega)) ?_
      refine ow_callS (pc := 8) hX (c_S_isWithin _ Y n s c hV u (nI a) (nI 0) (nI (s - 1))) (cw_S hX mz_S_isWithin kw_329 ⟨rfl, rfl⟩ (by decide)) rfl (Nat.le_of_ble_eq_true rfl) d_S_cell_8 rfl ?_
      refine ow_st (st2 := .int (nI 1) :: _) (by rw [kin_nd h0 hs, hx]; rfl) ?_
      refine ow_nz_eq (pc := 11) (tgt := 22) hX d_S_cell_11 (by decide) (by first | assumption | omega | (have := hm (u.2.2.2 5); omega)) (fun h11 => ?_) (fun h11 => ?_)
      · skip
        exact absurd h11 (by decide)
      · skip
        refine ow_aload_n (pc := 14) hX d_S_cell_14 rfl ?_
        refine ow_iload_n (pc := 15) hX d_S_cell_15 rfl ?_
        refine ow_callV (pc := 16) hX (kd_S Y n s c) Nat.zero_lt_one (c_S_isChannel _ Y n s c hV u (nI b)) (cw_V hX mz_S_isChannel kw_336 ⟨rfl, rfl⟩ (by decide)) rfl (Nat.le_of_ble_eq_true rfl) d_S_cell_16 rfl ?_
        refine ow_st (st2 := .int (nI 1) :: _) (by rw [hy]; rfl) ?_
        refine ow_nz_ne (pc := 19) (tgt := 24) hX d_S_cell_19 (by decide) (by first | assumption | omega | (have := hm (u.2.2.2 5); omega)) (fun h19 => ?_) (fun h19 => ?_)
        · skip
          refine ow_aload_n (pc := 24) hX d_S_cell_24 rfl ?_
          refine ow_gM (pc := 25) hX (kd_S Y n s c) 5 d_S_cell_25 kw_206 rfl Nat.zero_lt_one ?_
          refine ow_gN (pc := 28) hX (kd_P Y n s c) 8 d_S_cell_28 kw_181 rfl (by show _ < 2; first | assumption | omega) ?_
          refine ow_nz_eq (pc := 31) (tgt := 46) hX d_S_cell_31 (by decide) (by first | assumption | omega | (have := hm (u.2.2.2 5); omega)) (fun h31 => ?_) (fun h31 => ?_)
          · skip
            refine ow_iconst (pc := 46) (v := nI 0) hX d_S_cell_46 (by decide) ?_
            exact ow_iret (pc := 47) hX d_S_cell_47 (by first | rfl | (simp only [kc_cell, hx]; done) | (simp only [kc_cell, hx, hy]; done) | (simp only [kc_cell, hx, hy]; first | rw [if_pos h31] | rw [if_neg h31])) (by first | rfl | (simp only [kc_cell, hx]; done) | (simp only [kc_cell, hx, hy]; done) | (simp only [kc_cell, hx, hy]; first | rw [if_pos h31] | rw [if_neg h31]))
          · skip
            refine ow_aload_n (pc := 34) hX d_S_cell_34 rfl ?_
            refine ow_gM (pc := 35) hX (kd_S Y n s c) 5 d_S_cell_35 kw_206 rfl Nat.zero_lt_one ?_
            refine ow_iload_n (pc := 38) hX d_S_cell_38 rfl ?_
            refine ow_iload_n (pc := 39) hX d_S_cell_39 rfl ?_
            refine ow_callV (pc := 40) hX (kd_P Y n s c) (by show _ < 2; first | assumption | omega) (c_P_codeAt _ Y n s c hV u (u.2.2.2 5) a b hp ha hb) (cw_V hX mz_P_codeAt kw_367 ⟨rfl, rfl⟩ (by decide)) rfl (Nat.le_of_ble_eq_true rfl) d_S_cell_40 rfl ?_
            refine ow_goto (pc := 43) (tgt := 47) hX d_S_cell_43 (by decide) ?_
            exact ow_iret (pc := 47) hX d_S_cell_47 (by first | rfl | (simp only [kc_cell, hx]; done) | (simp only [kc_cell, hx, hy]; done) | (simp only [kc_cell, hx, hy]; first | rw [if_pos h31] | rw [if_neg h31])) (by first | rfl | (simp only [kc_cell, hx]; done) | (simp only [kc_cell, hx, hy]; done) | (simp only [kc_cell, hx, hy]; first | rw [if_pos h31] | rw [if_neg h31]))
        · skip
          exact absurd h19 (by decide)
set_option maxRecDepth 100000 in
set_option maxHeartbeats 4000000 in
theorem c_S_current (l : Launch) (Y : YY) (n s c : Nat) (hV : pv_ok (vC Y n s c)) (u : UU) (x : Int32) (hn : n ≤ 6) (hs1 : ∀ i, u.1 4 i 7 ≤ 1) : Ct l (vC Y n s c) ⟨"SlottedMesh", "current", "(I)Z"⟩ (wz ⟨"SlottedMesh", "current", "(I)Z"⟩ b_S_current 2 (some .boolean)) (rd 1) [.ref (pv_ad (vC Y n s c) 0 0), .int x] u (some (.int (nI (kc_current n u x)))) (u) := by
  refine ct_mk hV (by decide +kernel) (Nat.le_of_ble_eq_true rfl) (fun X hX => ?_)
  have hX : ox X (vC Y n s c) (rd 1) b_S_current 2 "SlottedMesh" gz (some .boolean) := hX
  show ow X (vC Y n s c) (some (.int (nI (kc_current n u x)))) (u) u [(0, .ref (pv_ad (vC Y n s c) 0 0)), (1, .int x)] 0 []
  rcases hx : nd n x with _ | a
  · skip
    refine ow_aload_n (pc := 0) hX d_S_current_0 rfl ?_
    refine ow_iload_n (pc := 1) hX d_S_current_1 rfl ?_
    refine ow_callV (pc := 2) hX (kd_S Y n s c) Nat.zero_lt_one (c_S_isNode _ Y n s c hV u x hn) (cw_V hX mz_S_isNode kw_233 ⟨rfl, rfl⟩ (by decide)) rfl (Nat.le_of_ble_eq_true rfl) d_S_current_2 rfl ?_
    refine ow_st (st2 := .int (nI 0) :: _) (by rw [hx]; rfl) ?_
    refine ow_nz_eq (pc := 5) (tgt := 24) hX d_S_current_5 (by decide) (by first | assumption | omega | (have := hs1 a; omega)) (fun h5 => ?_) (fun h5 => ?_)
    · skip
      refine ow_iconst (pc := 24) (v := nI 0) hX d_S_current_24 (by decide) ?_
      exact ow_zret (pc := 25) hX d_S_current_25 (nb_01 (by first | decide | assumption | omega | exact kbit_le _ _)) (by first | rfl | (simp only [kc_current, hx]; done) | (simp only [kc_current, hx]; (repeat' split) <;> first | rfl | omega | (simp_all; done))) (by first | rfl | (simp only [kc_current, hx]; done) | (simp only [kc_current, hx]; (repeat' split) <;> first | rfl | omega | (simp_all; done)))
    · skip
      exact absurd h5 (by decide)
  · skip
    obtain ⟨ha, rfl⟩ := nd_some (by omega) hx
    refine ow_aload_n (pc := 0) hX d_S_current_0 rfl ?_
    refine ow_iload_n (pc := 1) hX d_S_current_1 rfl ?_
    refine ow_callV (pc := 2) hX (kd_S Y n s c) Nat.zero_lt_one (c_S_isNode _ Y n s c hV u (nI a) hn) (cw_V hX mz_S_isNode kw_233 ⟨rfl, rfl⟩ (by decide)) rfl (Nat.le_of_ble_eq_true rfl) d_S_current_2 rfl ?_
    refine ow_st (st2 := .int (nI 1) :: _) (by rw [hx]; rfl) ?_
    refine ow_nz_eq (pc := 5) (tgt := 24) hX d_S_current_5 (by decide) (by first | assumption | omega | (have := hs1 a; omega)) (fun h5 => ?_) (fun h5 => ?_)
    · skip
      exact absurd h5 (by decide)
    · skip
      refine ow_aload_n (pc := 8) hX d_S_current_8 rfl ?_
      refine ow_gR (pc := 9) hX (kd_S Y n s c) 2 d_S_current_9 kw_203 rfl Nat.zero_lt_one ?_
      refine ow_iload_n (pc := 12) hX d_S_current_12 rfl ?_
      refine ow_aR (pc := 13) hX rfl d_S_current_13 Nat.zero_lt_one (by show _ < n; first | assumption | omega) ?_
      refine ow_gN (pc := 14) hX (kd_N Y n s c) 7 d_S_current_14 kw_77 rfl (by show _ < n; first | assumption | omega) ?_
      refine ow_nz_eq (pc := 17) (tgt := 24) hX d_S_current_17 (by decide) (by first | assumption | omega | (have := hs1 a; omega)) (fun h17 => ?_) (fun h17 => ?_)
      · skip
        refine ow_iconst (pc := 24) (v := nI 0) hX d_S_current_24 (by decide) ?_
        exact ow_zret (pc := 25) hX d_S_current_25 (nb_01 (by first | decide | assumption | omega | exact kbit_le _ _)) (by first | rfl | (simp only [kc_current, hx]; done) | (simp only [kc_current, hx]; (repeat' split) <;> first | rfl | omega | (simp_all; done))) (by first | rfl | (simp only [kc_current, hx]; done) | (simp only [kc_current, hx]; (repeat' split) <;> first | rfl | omega | (simp_all; done)))
      · skip
        refine ow_iconst (pc := 20) (v := nI 1) hX d_S_current_20 (by decide) ?_
        refine ow_goto (pc := 21) (tgt := 25) hX d_S_current_21 (by decide) ?_
        exact ow_zret (pc := 25) hX d_S_current_25 (nb_01 (by first | decide | assumption | omega | exact kbit_le _ _)) (by first | rfl | (simp only [kc_current, hx]; done) | (simp only [kc_current, hx]; (repeat' split) <;> first | rfl | omega | (simp_all; done))) (by first | rfl | (simp only [kc_current, hx]; done) | (simp only [kc_current, hx]; (repeat' split) <;> first | rfl | omega | (simp_all; done)))
set_option maxRecDepth 100000 in
set_option maxHeartbeats 4000000 in
theorem c_S_offset (l : Launch) (Y : YY) (n s c : Nat) (hV : pv_ok (vC Y n s c)) (u : UU) (x : Int32) (hn : n ≤ 6) : Ct l (vC Y n s c) ⟨"SlottedMesh", "offset", "(I)I"⟩ (wz ⟨"SlottedMesh", "offset", "(I)I"⟩ b_S_offset 2 (some .int)) (rd 1) [.ref (pv_ad (vC Y n s c) 0 0), .int x] u (some (.int (kc_offset n u x))) (u) := by
  refine ct_mk hV (by decide +kernel) (Nat.le_of_ble_eq_true rfl) (fun X hX => ?_)
  have hX : ox X (vC Y n s c) (rd 1) b_S_offset 2 "SlottedMesh" gz (some .int) := hX
  show ow X (vC Y n s c) (some (.int (kc_offset n u x))) (u) u [(0, .ref (pv_ad (vC Y n s c) 0 0)), (1, .int x)] 0 []
  rcases hx : nd n x with _ | a
  · skip
    refine ow_aload_n (pc := 0) hX d_S_offset_0 rfl ?_
    refine ow_iload_n (pc := 1) hX d_S_offset_1 rfl ?_
    refine ow_callV (pc := 2) hX (kd_S Y n s c) Nat.zero_lt_one (c_S_isNode _ Y n s c hV u x hn) (cw_V hX mz_S_isNode kw_233 ⟨rfl, rfl⟩ (by decide)) rfl (Nat.le_of_ble_eq_true rfl) d_S_offset_2 rfl ?_
    refine ow_st (st2 := .int (nI 0) :: _) (by rw [hx]; rfl) ?_
    refine ow_nz_eq (pc := 5) (tgt := 20) hX d_S_offset_5 (by decide) (by first | assumption | omega) (fun h5 => ?_) (fun h5 => ?_)
    · skip
      refine ow_sipush (pc := 20) (v := (-9999)) hX d_S_offset_20 (by decide) ?_
      exact ow_iret (pc := 23) hX d_S_offset_23 (by first | rfl | (simp only [kc_offset, hx]; done) | (simp only [kc_offset, hx]; (repeat' split) <;> first | rfl | omega | (simp_all; done))) (by first | rfl | (simp only [kc_offset, hx]; done) | (simp only [kc_offset, hx]; (repeat' split) <;> first | rfl | omega | (simp_all; done)))
    · skip
      exact absurd h5 (by decide)
  · skip
    obtain ⟨ha, rfl⟩ := nd_some (by omega) hx
    refine ow_aload_n (pc := 0) hX d_S_offset_0 rfl ?_
    refine ow_iload_n (pc := 1) hX d_S_offset_1 rfl ?_
    refine ow_callV (pc := 2) hX (kd_S Y n s c) Nat.zero_lt_one (c_S_isNode _ Y n s c hV u (nI a) hn) (cw_V hX mz_S_isNode kw_233 ⟨rfl, rfl⟩ (by decide)) rfl (Nat.le_of_ble_eq_true rfl) d_S_offset_2 rfl ?_
    refine ow_st (st2 := .int (nI 1) :: _) (by rw [hx]; rfl) ?_
    refine ow_nz_eq (pc := 5) (tgt := 20) hX d_S_offset_5 (by decide) (by first | assumption | omega) (fun h5 => ?_) (fun h5 => ?_)
    · skip
      exact absurd h5 (by decide)
    · skip
      refine ow_aload_n (pc := 8) hX d_S_offset_8 rfl ?_
      refine ow_gR (pc := 9) hX (kd_S Y n s c) 2 d_S_offset_9 kw_203 rfl Nat.zero_lt_one ?_
      refine ow_iload_n (pc := 12) hX d_S_offset_12 rfl ?_
      refine ow_aR (pc := 13) hX rfl d_S_offset_13 Nat.zero_lt_one (by show _ < n; first | assumption | omega) ?_
      refine ow_gI (pc := 14) hX (kd_N Y n s c) 8 d_S_offset_14 kw_79 rfl (by show _ < n; first | assumption | omega) ?_
      refine ow_goto (pc := 17) (tgt := 23) hX d_S_offset_17 (by decide) ?_
      exact ow_iret (pc := 23) hX d_S_offset_23 (by first | rfl | (simp only [kc_offset, hx]; done) | (simp only [kc_offset, hx]; (repeat' split) <;> first | rfl | omega | (simp_all; done))) (by first | rfl | (simp only [kc_offset, hx]; done) | (simp only [kc_offset, hx]; (repeat' split) <;> first | rfl | omega | (simp_all; done)))
set_option maxRecDepth 100000 in
set_option maxHeartbeats 4000000 in
theorem c_S_latest (l : Launch) (Y : YY) (n s c : Nat) (hV : pv_ok (vC Y n s c)) (u : UU) (x : Int32) (hn : n ≤ 6) (h1 : 0 < n) : Ct l (vC Y n s c) ⟨"SlottedMesh", "latest", "(I)I"⟩ (wz ⟨"SlottedMesh", "latest", "(I)I"⟩ b_S_latest 2 (some .int)) (rd 1) [.ref (pv_ad (vC Y n s c) 0 0), .int x] u (some (.int (kc_latest n u x))) (u) := by
  refine ct_mk hV (by decide +kernel) (Nat.le_of_ble_eq_true rfl) (fun X hX => ?_)
  have hX : ox X (vC Y n s c) (rd 1) b_S_latest 2 "SlottedMesh" gz (some .int) := hX
  show ow X (vC Y n s c) (some (.int (kc_latest n u x))) (u) u [(0, .ref (pv_ad (vC Y n s c) 0 0)), (1, .int x)] 0 []
  rcases hx : nd n x with _ | a
  · skip
    refine ow_aload_n (pc := 0) hX d_S_latest_0 rfl ?_
    refine ow_iload_n (pc := 1) hX d_S_latest_1 rfl ?_
    refine ow_callV (pc := 2) hX (kd_S Y n s c) Nat.zero_lt_one (c_S_isNode _ Y n s c hV u x hn) (cw_V hX mz_S_isNode kw_233 ⟨rfl, rfl⟩ (by decide)) rfl (Nat.le_of_ble_eq_true rfl) d_S_latest_2 rfl ?_
    refine ow_st (st2 := .int (nI 0) :: _) (by rw [hx]; rfl) ?_
    refine ow_nz_eq (pc := 5) (tgt := 22) hX d_S_latest_5 (by decide) (by first | assumption | omega) (fun h5 => ?_) (fun h5 => ?_)
    · skip
      refine ow_iconst (pc := 22) (v := (-1)) hX d_S_latest_22 (by decide) ?_
      exact ow_iret (pc := 23) hX d_S_latest_23 (by first | rfl | (simp only [kc_latest, hx]; done) | (simp only [kc_latest, hx]; (repeat' split) <;> first | rfl | omega | (simp_all; done))) (by first | rfl | (simp only [kc_latest, hx]; done) | (simp only [kc_latest, hx]; (repeat' split) <;> first | rfl | omega | (simp_all; done)))
    · skip
      exact absurd h5 (by decide)
  · skip
    obtain ⟨ha, rfl⟩ := nd_some (by omega) hx
    refine ow_aload_n (pc := 0) hX d_S_latest_0 rfl ?_
    refine ow_iload_n (pc := 1) hX d_S_latest_1 rfl ?_
    refine ow_callV (pc := 2) hX (kd_S Y n s c) Nat.zero_lt_one (c_S_isNode _ Y n s c hV u (nI a) hn) (cw_V hX mz_S_isNode kw_233 ⟨rfl, rfl⟩ (by decide)) rfl (Nat.le_of_ble_eq_true rfl) d_S_latest_2 rfl ?_
    refine ow_st (st2 := .int (nI 1) :: _) (by rw [hx]; rfl) ?_
    refine ow_nz_eq (pc := 5) (tgt := 22) hX d_S_latest_5 (by decide) (by first | assumption | omega) (fun h5 => ?_) (fun h5 => ?_)
    · skip
      exact absurd h5 (by decide)
    · skip
      refine ow_aload_n (pc := 8) hX d_S_latest_8 rfl ?_
      refine ow_gR (pc := 9) hX (kd_S Y n s c) 2 d_S_latest_9 kw_203 rfl Nat.zero_lt_one ?_
      refine ow_iconst (pc := 12) (v := nI 0) hX d_S_latest_12 (by decide) ?_
      refine ow_aR (pc := 13) hX rfl d_S_latest_13 Nat.zero_lt_one (by show _ < n; first | assumption | omega) ?_
      refine ow_gR (pc := 14) hX (kd_N Y n s c) 4 d_S_latest_14 kw_71 rfl (by show _ < n; first | assumption | omega) ?_
      refine ow_iload_n (pc := 17) hX d_S_latest_17 rfl ?_
      refine ow_aI (pc := 18) hX rfl d_S_latest_18 (by show _ < n; first | assumption | omega) (by show _ < n; first | assumption | omega) ?_
      refine ow_goto (pc := 19) (tgt := 23) hX d_S_latest_19 (by decide) ?_
      exact ow_iret (pc := 23) hX d_S_latest_23 (by first | rfl | (simp only [kc_latest, hx]; done) | (simp only [kc_latest, hx]; (repeat' split) <;> first | rfl | omega | (simp_all; done))) (by first | rfl | (simp only [kc_latest, hx]; done) | (simp only [kc_latest, hx]; (repeat' split) <;> first | rfl | omega | (simp_all; done)))
set_option maxRecDepth 100000 in
set_option maxHeartbeats 4000000 in
theorem c_S_actuator (l : Launch) (Y : YY) (n s c : Nat) (hV : pv_ok (vC Y n s c)) (u : UU) (x : Int32) (hn : n ≤ 6) : Ct l (vC Y n s c) ⟨"SlottedMesh", "actuator", "(I)I"⟩ (wz ⟨"SlottedMesh", "actuator", "(I)I"⟩ b_S_actuator 2 (some .int)) (rd 2) [.ref (pv_ad (vC Y n s c) 0 0), .int x] u (some (.int (kc_actuator n u x))) (u) := by
  refine ct_mk hV (by decide +kernel) (Nat.le_of_ble_eq_true rfl) (fun X hX => ?_)
  have hX : ox X (vC Y n s c) (rd 2) b_S_actuator 2 "SlottedMesh" gz (some .int) := hX
  show ow X (vC Y n s c) (some (.int (kc_actuator n u x))) (u) u [(0, .ref (pv_ad (vC Y n s c) 0 0)), (1, .int x)] 0 []
  rcases hx : nf n x with _ | a
  · skip
    refine ow_aload_n (pc := 0) hX d_S_actuator_0 rfl ?_
    refine ow_iload_n (pc := 1) hX d_S_actuator_1 rfl ?_
    refine ow_callV (pc := 2) hX (kd_S Y n s c) Nat.zero_lt_one (c_S_isFieldNode _ Y n s c hV u x hn) (cw_V hX mz_S_isFieldNode kw_316 ⟨rfl, rfl⟩ (by decide)) rfl (Nat.le_of_ble_eq_true rfl) d_S_actuator_2 rfl ?_
    refine ow_st (st2 := .int (nI 0) :: _) (by rw [hx]; rfl) ?_
    refine ow_nz_eq (pc := 5) (tgt := 20) hX d_S_actuator_5 (by decide) (by first | assumption | omega) (fun h5 => ?_) (fun h5 => ?_)
    · skip
      refine ow_sipush (pc := 20) (v := (-9999)) hX d_S_actuator_20 (by decide) ?_
      exact ow_iret (pc := 23) hX d_S_actuator_23 (by first | rfl | (simp only [kc_actuator, hx]; done) | (simp only [kc_actuator, hx]; (repeat' split) <;> first | rfl | omega | (simp_all; done))) (by first | rfl | (simp only [kc_actuator, hx]; done) | (simp only [kc_actuator, hx]; (repeat' split) <;> first | rfl | omega | (simp_all; done)))
    · skip
      exact absurd h5 (by decide)
  · skip
    obtain ⟨ha, ha0, rfl⟩ := nf_some (by omega) hx
    refine ow_aload_n (pc := 0) hX d_S_actuator_0 rfl ?_
    refine ow_iload_n (pc := 1) hX d_S_actuator_1 rfl ?_
    refine ow_callV (pc := 2) hX (kd_S Y n s c) Nat.zero_lt_one (c_S_isFieldNode _ Y n s c hV u (nI a) hn) (cw_V hX mz_S_isFieldNode kw_316 ⟨rfl, rfl⟩ (by decide)) rfl (Nat.le_of_ble_eq_true rfl) d_S_actuator_2 rfl ?_
    refine ow_st (st2 := .int (nI 1) :: _) (by rw [hx]; rfl) ?_
    refine ow_nz_eq (pc := 5) (tgt := 20) hX d_S_actuator_5 (by decide) (by first | assumption | omega) (fun h5 => ?_) (fun h5 => ?_)
    · skip
      exact absurd h5 (by decide)
    · skip
      refine ow_aload_n (pc := 8) hX d_S_actuator_8 rfl ?_
      refine ow_gR (pc := 9) hX (kd_S Y n s c) 2 d_S_actuator_9 kw_203 rfl Nat.zero_lt_one ?_
      refine ow_iload_n (pc := 12) hX d_S_actuator_12 rfl ?_
      refine ow_aR (pc := 13) hX rfl d_S_actuator_13 Nat.zero_lt_one (by show _ < n; first | assumption | omega) ?_
      refine ow_gI (pc := 14) hX (kd_N Y n s c) 13 d_S_actuator_14 kw_86 rfl (by show _ < n; first | assumption | omega) ?_
      refine ow_goto (pc := 17) (tgt := 23) hX d_S_actuator_17 (by decide) ?_
      exact ow_iret (pc := 23) hX d_S_actuator_23 (by first | rfl | (simp only [kc_actuator, hx]; done) | (simp only [kc_actuator, hx]; (repeat' split) <;> first | rfl | omega | (simp_all; done))) (by first | rfl | (simp only [kc_actuator, hx]; done) | (simp only [kc_actuator, hx]; (repeat' split) <;> first | rfl | omega | (simp_all; done)))
set_option maxRecDepth 100000 in
set_option maxHeartbeats 4000000 in
theorem c_S_sent (l : Launch) (Y : YY) (n s c : Nat) (hV : pv_ok (vC Y n s c)) (u : UU)  : Ct l (vC Y n s c) ⟨"SlottedMesh", "sent", "()I"⟩ (wz ⟨"SlottedMesh", "sent", "()I"⟩ b_S_sent 1 (some .int)) (rd 0) [.ref (pv_ad (vC Y n s c) 0 0)] u (some (.int (u.2.1 0 0 8))) (u) := by
  refine ct_mk hV (by decide +kernel) (Nat.le_of_ble_eq_true rfl) (fun X hX => ?_)
  have hX : ox X (vC Y n s c) (rd 0) b_S_sent 1 "SlottedMesh" gz (some .int) := hX
  show ow X (vC Y n s c) (some (.int (u.2.1 0 0 8))) (u) u [(0, .ref (pv_ad (vC Y n s c) 0 0))] 0 []
  refine ow_aload_n (pc := 0) hX d_S_sent_0 rfl ?_
  refine ow_gI (pc := 1) hX (kd_S Y n s c) 8 d_S_sent_1 kw_209 rfl Nat.zero_lt_one ?_
  exact ow_iret (pc := 4) hX d_S_sent_4 (by rfl) (by rfl)
theorem nd_no {n : Nat} {x : Int32} (h : nd n x = none) (h1 : ¬ x < 0) (h2 : x < nI n) : False := by
  unfold nd at h
  rw [if_neg h1] at h
  split at h
  · rename_i h3
    rw [Int32.le_iff_toInt_le] at h3
    rw [Int32.lt_iff_toInt_lt] at h2
    omega
  · cases h
theorem nd_out {x : Int32} (h : nd 4 x = none) : x.toInt < 0 ∨ 3 < x.toInt := by
  by_cases h1 : x < 0
  · left
    rw [Int32.lt_iff_toInt_lt] at h1
    exact h1
  · right
    by_cases h2 : x < nI 4
    · exact (nd_no h h1 h2).elim
    · rw [Int32.lt_iff_toInt_lt, nI_toInt (by decide)] at h2
      omega
set_option maxRecDepth 100000 in
set_option maxHeartbeats 4000000 in
theorem c_S_count (l : Launch) (Y : YY) (n s c : Nat) (hV : pv_ok (vC Y n s c)) (u : UU) (x k : Int32) (hn : n ≤ 6) : Ct l (vC Y n s c) ⟨"SlottedMesh", "count", "(II)I"⟩ (wz ⟨"SlottedMesh", "count", "(II)I"⟩ b_S_count 3 (some .int)) (rd 1) [.ref (pv_ad (vC Y n s c) 0 0), .int x, .int k] u (some (.int (kc_count n u x k))) (u) := by
  refine ct_mk hV (by decide +kernel) (Nat.le_of_ble_eq_true rfl) (fun X hX => ?_)
  have hX : ox X (vC Y n s c) (rd 1) b_S_count 3 "SlottedMesh" gz (some .int) := hX
  show ow X (vC Y n s c) (some (.int (kc_count n u x k))) (u) u [(0, .ref (pv_ad (vC Y n s c) 0 0)), (1, .int x), (2, .int k)] 0 []
  rcases hx : nd n x with _ | a
  · skip
    refine ow_aload_n (pc := 0) hX d_S_count_0 rfl ?_
    refine ow_iload_n (pc := 1) hX d_S_count_1 rfl ?_
    refine ow_callV (pc := 2) hX (kd_S Y n s c) Nat.zero_lt_one (c_S_isNode _ Y n s c hV u x hn) (cw_V hX mz_S_isNode kw_233 ⟨rfl, rfl⟩ (by decide)) rfl (Nat.le_of_ble_eq_true rfl) d_S_count_2 rfl ?_
    refine ow_st (st2 := .int (nI 0) :: _) (by rw [hx]; rfl) ?_
    refine ow_nz_ne (pc := 5) (tgt := 10) hX d_S_count_5 (by decide) (by first | assumption | omega) (fun h5 => ?_) (fun h5 => ?_)
    · skip
      exact absurd h5 (by decide)
    · skip
      refine ow_iconst (pc := 8) (v := (-1)) hX d_S_count_8 (by decide) ?_
      exact ow_iret (pc := 9) hX d_S_count_9 (by first | rfl | (simp only [kc_count, hx]; done)) (by first | rfl | (simp only [kc_count, hx]; done))
  · obtain ⟨ha, rfl⟩ := nd_some (by omega) hx
    refine ow_aload_n (pc := 0) hX d_S_count_0 rfl ?_
    refine ow_iload_n (pc := 1) hX d_S_count_1 rfl ?_
    refine ow_callV (pc := 2) hX (kd_S Y n s c) Nat.zero_lt_one (c_S_isNode _ Y n s c hV u (nI a) hn) (cw_V hX mz_S_isNode kw_233 ⟨rfl, rfl⟩ (by decide)) rfl (Nat.le_of_ble_eq_true rfl) d_S_count_2 rfl ?_
    refine ow_st (st2 := .int (nI 1) :: _) (by rw [hx]; rfl) ?_
    refine ow_nz_ne (pc := 5) (tgt := 10) hX d_S_count_5 (by decide) (by first | assumption | omega) (fun h5 => ?_) (fun h5 => ?_)
    · skip
      refine ow_iload_n (pc := 10) hX d_S_count_10 rfl ?_
      rcases hy : nd 4 k with _ | b
      · refine ow_tableOut (pc := 11) (tgt := 86) hX d_S_count_11 (nd_out hy) (by decide) ?_
        refine ow_iconst (pc := 86) (v := (-1)) hX d_S_count_86 (by decide) ?_
        exact ow_iret (pc := 87) hX d_S_count_87 (by first | rfl | (simp only [kc_count, hx, hy]; done)) (by first | rfl | (simp only [kc_count, hx, hy]; done))
      · obtain ⟨hb, rfl⟩ := nd_some (by omega) hy
        rcases (by omega : b = 0 ∨ b = 1 ∨ b = 2 ∨ b = 3) with rfl | rfl | rfl | rfl
        · refine ow_tableIn (pc := 11) (tgt := 40) (off := 29) hX d_S_count_11 (by decide) (by decide) (by decide) (by decide) ?_
          refine ow_aload_n (pc := 40) hX d_S_count_40 rfl ?_
          refine ow_gR (pc := 41) hX (kd_S Y n s c) 2 d_S_count_41 kw_203 rfl Nat.zero_lt_one ?_
          refine ow_iload_n (pc := 44) hX d_S_count_44 rfl ?_
          refine ow_aR (pc := 45) hX rfl d_S_count_45 Nat.zero_lt_one (by show _ < n; first | assumption | omega) ?_
          refine ow_gE (pc := 46) hX (kd_N Y n s c) 2 d_S_count_46 kw_67 rfl (by show _ < n; first | assumption | omega) ?_
          refine ow_gN (pc := 49) hX (kd_F Y n s c) 3 d_S_count_49 kw_49 rfl (by show _ < 2 * n; first | assumption | omega) ?_
          exact ow_iret (pc := 52) hX d_S_count_52 (by first | rfl | (simp only [kc_count, hx, hy]; done)) (by first | rfl | (simp only [kc_count, hx, hy]; done))
        · refine ow_tableIn (pc := 11) (tgt := 53) (off := 42) hX d_S_count_11 (by decide) (by decide) (by decide) (by decide) ?_
          refine ow_aload_n (pc := 53) hX d_S_count_53 rfl ?_
          refine ow_gR (pc := 54) hX (kd_S Y n s c) 2 d_S_count_54 kw_203 rfl Nat.zero_lt_one ?_
          refine ow_iload_n (pc := 57) hX d_S_count_57 rfl ?_
          refine ow_aR (pc := 58) hX rfl d_S_count_58 Nat.zero_lt_one (by show _ < n; first | assumption | omega) ?_
          refine ow_gO (pc := 59) hX (kd_N Y n s c) 3 d_S_count_59 kw_69 rfl (by show _ < n; first | assumption | omega) ?_
          refine ow_gN (pc := 62) hX (kd_F Y n s c) 3 d_S_count_62 kw_49 rfl (by show _ < 2 * n; first | assumption | omega) ?_
          exact ow_iret (pc := 65) hX d_S_count_65 (by first | rfl | (simp only [kc_count, hx, hy]; done)) (by first | rfl | (simp only [kc_count, hx, hy]; done))
        · refine ow_tableIn (pc := 11) (tgt := 66) (off := 55) hX d_S_count_11 (by decide) (by decide) (by decide) (by decide) ?_
          refine ow_aload_n (pc := 66) hX d_S_count_66 rfl ?_
          refine ow_gR (pc := 67) hX (kd_S Y n s c) 2 d_S_count_67 kw_203 rfl Nat.zero_lt_one ?_
          refine ow_iload_n (pc := 70) hX d_S_count_70 rfl ?_
          refine ow_aR (pc := 71) hX rfl d_S_count_71 Nat.zero_lt_one (by show _ < n; first | assumption | omega) ?_
          refine ow_gN (pc := 72) hX (kd_N Y n s c) 10 d_S_count_72 kw_82 rfl (by show _ < n; first | assumption | omega) ?_
          exact ow_iret (pc := 75) hX d_S_count_75 (by first | rfl | (simp only [kc_count, hx, hy]; done)) (by first | rfl | (simp only [kc_count, hx, hy]; done))
        · refine ow_tableIn (pc := 11) (tgt := 76) (off := 65) hX d_S_count_11 (by decide) (by decide) (by decide) (by decide) ?_
          refine ow_aload_n (pc := 76) hX d_S_count_76 rfl ?_
          refine ow_gR (pc := 77) hX (kd_S Y n s c) 2 d_S_count_77 kw_203 rfl Nat.zero_lt_one ?_
          refine ow_iload_n (pc := 80) hX d_S_count_80 rfl ?_
          refine ow_aR (pc := 81) hX rfl d_S_count_81 Nat.zero_lt_one (by show _ < n; first | assumption | omega) ?_
          refine ow_gN (pc := 82) hX (kd_N Y n s c) 11 d_S_count_82 kw_84 rfl (by show _ < n; first | assumption | omega) ?_
          exact ow_iret (pc := 85) hX d_S_count_85 (by first | rfl | (simp only [kc_count, hx, hy]; done)) (by first | rfl | (simp only [kc_count, hx, hy]; done))
    · skip
      exact absurd h5 (by decide)
set_option maxRecDepth 100000 in
set_option maxHeartbeats 4000000 in
theorem c_S_cached (l : Launch) (Y : YY) (n s c : Nat) (hV : pv_ok (vC Y n s c)) (u : UU) (x k : Int32) (hn : n ≤ 6) (hk : ∀ i, u.1 6 i 1 ≤ 3) : Ct l (vC Y n s c) ⟨"SlottedMesh", "cached", "(II)I"⟩ (wz ⟨"SlottedMesh", "cached", "(II)I"⟩ b_S_cached 3 (some .int)) (rd 1) [.ref (pv_ad (vC Y n s c) 0 0), .int x, .int k] u (some (.int (kc_cached n u x k))) (u) := by
  refine ct_mk hV (by decide +kernel) (Nat.le_of_ble_eq_true rfl) (fun X hX => ?_)
  have hX : ox X (vC Y n s c) (rd 1) b_S_cached 3 "SlottedMesh" gz (some .int) := hX
  show ow X (vC Y n s c) (some (.int (kc_cached n u x k))) (u) u [(0, .ref (pv_ad (vC Y n s c) 0 0)), (1, .int x), (2, .int k)] 0 []
  rcases hx : nd n x with _ | a
  · skip
    refine ow_aload_n (pc := 0) hX d_S_cached_0 rfl ?_
    refine ow_iload_n (pc := 1) hX d_S_cached_1 rfl ?_
    refine ow_callV (pc := 2) hX (kd_S Y n s c) Nat.zero_lt_one (c_S_isNode _ Y n s c hV u x hn) (cw_V hX mz_S_isNode kw_233 ⟨rfl, rfl⟩ (by decide)) rfl (Nat.le_of_ble_eq_true rfl) d_S_cached_2 rfl ?_
    refine ow_st (st2 := .int (nI 0) :: _) (by rw [hx]; rfl) ?_
    refine ow_nz_eq (pc := 5) (tgt := 25) hX d_S_cached_5 (by decide) (by first | assumption | omega) (fun h5 => ?_) (fun h5 => ?_)
    · skip
      refine ow_sipush (pc := 25) (v := (-9999)) hX d_S_cached_25 (by decide) ?_
      exact ow_iret (pc := 28) hX d_S_cached_28 (by first | rfl | (simp only [kc_cached, hx]; done)) (by first | rfl | (simp only [kc_cached, hx]; done))
    · skip
      exact absurd h5 (by decide)
  · obtain ⟨ha, rfl⟩ := nd_some (by omega) hx
    have hka := hk a
    rcases hy : nd (u.1 6 a 1) k with _ | b
    · skip
      refine ow_aload_n (pc := 0) hX d_S_cached_0 rfl ?_
      refine ow_iload_n (pc := 1) hX d_S_cached_1 rfl ?_
      refine ow_callV (pc := 2) hX (kd_S Y n s c) Nat.zero_lt_one (c_S_isNode _ Y n s c hV u (nI a) hn) (cw_V hX mz_S_isNode kw_233 ⟨rfl, rfl⟩ (by decide)) rfl (Nat.le_of_ble_eq_true rfl) d_S_cached_2 rfl ?_
      refine ow_st (st2 := .int (nI 1) :: _) (by rw [hx]; rfl) ?_
      refine ow_nz_eq (pc := 5) (tgt := 25) hX d_S_cached_5 (by decide) (by first | assumption | omega) (fun h5 => ?_) (fun h5 => ?_)
      · skip
        exact absurd h5 (by decide)
      · skip
        refine ow_iload_n (pc := 8) hX d_S_cached_8 rfl ?_
        refine ow_if_lt (pc := 9) (tgt := 25) hX d_S_cached_9 (by decide) (fun h9 => ?_) (fun h9 => ?_)
        · skip
          refine ow_sipush (pc := 25) (v := (-9999)) hX d_S_cached_25 (by decide) ?_
          exact ow_iret (pc := 28) hX d_S_cached_28 (by first | rfl | (simp only [kc_cached, hx, hy]; done)) (by first | rfl | (simp only [kc_cached, hx, hy]; done))
        · skip
          refine ow_iload_n (pc := 12) hX d_S_cached_12 rfl ?_
          refine ow_aload_n (pc := 13) hX d_S_cached_13 rfl ?_
          refine ow_gR (pc := 14) hX (kd_S Y n s c) 4 d_S_cached_14 kw_205 rfl Nat.zero_lt_one ?_
          refine ow_iload_n (pc := 17) hX d_S_cached_17 rfl ?_
          refine ow_aR (pc := 18) hX rfl d_S_cached_18 Nat.zero_lt_one (by show _ < n; first | assumption | omega) ?_
          refine ow_gN (pc := 19) hX (kd_O Y n s c) 1 d_S_cached_19 kw_124 rfl (by show _ < n; first | assumption | omega) ?_
          refine ow_ic_lt (pc := 22) (tgt := 29) hX d_S_cached_22 (by decide) (fun h22 => ?_) (fun h22 => ?_)
          · skip
            exact (nd_no hy h9 h22).elim
          · skip
            refine ow_sipush (pc := 25) (v := (-9999)) hX d_S_cached_25 (by decide) ?_
            exact ow_iret (pc := 28) hX d_S_cached_28 (by first | rfl | (simp only [kc_cached, hx, hy]; done)) (by first | rfl | (simp only [kc_cached, hx, hy]; done))
    · obtain ⟨hb, rfl⟩ := nd_some (by omega) hy
      refine ow_aload_n (pc := 0) hX d_S_cached_0 rfl ?_
      refine ow_iload_n (pc := 1) hX d_S_cached_1 rfl ?_
      refine ow_callV (pc := 2) hX (kd_S Y n s c) Nat.zero_lt_one (c_S_isNode _ Y n s c hV u (nI a) hn) (cw_V hX mz_S_isNode kw_233 ⟨rfl, rfl⟩ (by decide)) rfl (Nat.le_of_ble_eq_true rfl) d_S_cached_2 rfl ?_
      refine ow_st (st2 := .int (nI 1) :: _) (by rw [hx]; rfl) ?_
      refine ow_nz_eq (pc := 5) (tgt := 25) hX d_S_cached_5 (by decide) (by first | assumption | omega) (fun h5 => ?_) (fun h5 => ?_)
      · skip
        exact absurd h5 (by decide)
      · skip
        refine ow_iload_n (pc := 8) hX d_S_cached_8 rfl ?_
        refine ow_nz_lt (pc := 9) (tgt := 25) hX d_S_cached_9 (by decide) (by first | assumption | omega) ?_
        refine ow_iload_n (pc := 12) hX d_S_cached_12 rfl ?_
        refine ow_aload_n (pc := 13) hX d_S_cached_13 rfl ?_
        refine ow_gR (pc := 14) hX (kd_S Y n s c) 4 d_S_cached_14 kw_205 rfl Nat.zero_lt_one ?_
        refine ow_iload_n (pc := 17) hX d_S_cached_17 rfl ?_
        refine ow_aR (pc := 18) hX rfl d_S_cached_18 Nat.zero_lt_one (by show _ < n; first | assumption | omega) ?_
        refine ow_gN (pc := 19) hX (kd_O Y n s c) 1 d_S_cached_19 kw_124 rfl (by show _ < n; first | assumption | omega) ?_
        refine ow_nc_lt (pc := 22) (tgt := 29) hX d_S_cached_22 (by decide) (by first | assumption | omega) (by first | assumption | omega) (fun h22 => ?_) (fun h22 => ?_)
        · skip
          refine ow_aload_n (pc := 29) hX d_S_cached_29 rfl ?_
          refine ow_gR (pc := 30) hX (kd_S Y n s c) 4 d_S_cached_30 kw_205 rfl Nat.zero_lt_one ?_
          refine ow_iload_n (pc := 33) hX d_S_cached_33 rfl ?_
          refine ow_aR (pc := 34) hX rfl d_S_cached_34 Nat.zero_lt_one (by show _ < n; first | assumption | omega) ?_
          refine ow_gR (pc := 35) hX (kd_O Y n s c) 0 d_S_cached_35 kw_122 rfl (by show _ < n; first | assumption | omega) ?_
          refine ow_iload_n (pc := 38) hX d_S_cached_38 rfl ?_
          refine ow_aI (pc := 39) hX rfl d_S_cached_39 (by show _ < n; first | assumption | omega) (by show _ < 3; first | assumption | omega) ?_
          exact ow_iret (pc := 40) hX d_S_cached_40 (by first | rfl | (simp only [kc_cached, hx, hy]; done)) (by first | rfl | (simp only [kc_cached, hx, hy]; done))
        · skip
          exact absurd hb (by omega)
end
