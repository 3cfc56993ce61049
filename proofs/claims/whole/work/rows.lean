section
/-- a private method of a class that the tables say can be made, by its rows of tables_1 -/
def lw_okq (q : MethodName × Nat) : Prop := (q.1.cls ≠ "java/lang/invoke/MethodHandle" ∧ q.1.cls ≠ "java/lang/invoke/VarHandle") ∧ Cond.instantiable q.1.cls q.2 ∈ tables_1 ∧ Cond.privateMethod q.1 ∈ tables_1 ∧ Cond.instanceMethod q.1 ∈ tables_1
theorem lw_p0 : lw_okq (⟨"SlateKin", "error", "(I)I"⟩, 7) := ⟨⟨by decide +kernel, by decide +kernel⟩, List.mem_of_getElem? (i := 14) (by decide +kernel), List.mem_of_getElem? (i := 248) (by decide +kernel), List.mem_of_getElem? (i := 249) (by decide +kernel)⟩
theorem lw_p1 : lw_okq (⟨"SlateKin$Tile", "begin", "(IIII)V"⟩, 7) := ⟨⟨by decide +kernel, by decide +kernel⟩, List.mem_of_getElem? (i := 31) (by decide +kernel), List.mem_of_getElem? (i := 253) (by decide +kernel), List.mem_of_getElem? (i := 254) (by decide +kernel)⟩
theorem lw_p2 : lw_okq (⟨"SlateKin$Tile", "turn", "(I)V"⟩, 7) := ⟨⟨by decide +kernel, by decide +kernel⟩, List.mem_of_getElem? (i := 31) (by decide +kernel), List.mem_of_getElem? (i := 257) (by decide +kernel), List.mem_of_getElem? (i := 258) (by decide +kernel)⟩
theorem lw_p3 : lw_okq (⟨"SlateKin", "isSlate", "(I)Z"⟩, 7) := ⟨⟨by decide +kernel, by decide +kernel⟩, List.mem_of_getElem? (i := 14) (by decide +kernel), List.mem_of_getElem? (i := 265) (by decide +kernel), List.mem_of_getElem? (i := 266) (by decide +kernel)⟩
theorem lw_p4 : lw_okq (⟨"SlateKin$Tile", "row", "()I"⟩, 7) := ⟨⟨by decide +kernel, by decide +kernel⟩, List.mem_of_getElem? (i := 31) (by decide +kernel), List.mem_of_getElem? (i := 269) (by decide +kernel), List.mem_of_getElem? (i := 270) (by decide +kernel)⟩
theorem lw_p5 : lw_okq (⟨"SlateKin$Tile", "isLaid", "()Z"⟩, 7) := ⟨⟨by decide +kernel, by decide +kernel⟩, List.mem_of_getElem? (i := 31) (by decide +kernel), List.mem_of_getElem? (i := 273) (by decide +kernel), List.mem_of_getElem? (i := 274) (by decide +kernel)⟩
theorem lw_p6 : lw_okq (⟨"SlateKin$Tile", "place", "()I"⟩, 7) := ⟨⟨by decide +kernel, by decide +kernel⟩, List.mem_of_getElem? (i := 31) (by decide +kernel), List.mem_of_getElem? (i := 277) (by decide +kernel), List.mem_of_getElem? (i := 278) (by decide +kernel)⟩
theorem lw_p7 : lw_okq (⟨"SlateKin$Tile", "broad", "()I"⟩, 7) := ⟨⟨by decide +kernel, by decide +kernel⟩, List.mem_of_getElem? (i := 31) (by decide +kernel), List.mem_of_getElem? (i := 281) (by decide +kernel), List.mem_of_getElem? (i := 282) (by decide +kernel)⟩
theorem lw_p8 : lw_okq (⟨"SlateKin$Roof", "holdOf", "(II)I"⟩, 11) := ⟨⟨by decide +kernel, by decide +kernel⟩, List.mem_of_getElem? (i := 22) (by decide +kernel), List.mem_of_getElem? (i := 288) (by decide +kernel), List.mem_of_getElem? (i := 289) (by decide +kernel)⟩
theorem lw_p9 : lw_okq (⟨"SlateKin$Tile", "holds", "(II)I"⟩, 7) := ⟨⟨by decide +kernel, by decide +kernel⟩, List.mem_of_getElem? (i := 31) (by decide +kernel), List.mem_of_getElem? (i := 292) (by decide +kernel), List.mem_of_getElem? (i := 293) (by decide +kernel)⟩
theorem lw_p10 : lw_okq (⟨"SlateKin$Law", "give", "(III)I"⟩, 5) := ⟨⟨by decide +kernel, by decide +kernel⟩, List.mem_of_getElem? (i := 73) (by decide +kernel), List.mem_of_getElem? (i := 296) (by decide +kernel), List.mem_of_getElem? (i := 297) (by decide +kernel)⟩
theorem lw_p11 : lw_okq (⟨"SlateKin$Law", "workOut", "(III)I"⟩, 5) := ⟨⟨by decide +kernel, by decide +kernel⟩, List.mem_of_getElem? (i := 73) (by decide +kernel), List.mem_of_getElem? (i := 300) (by decide +kernel), List.mem_of_getElem? (i := 301) (by decide +kernel)⟩
theorem lw_p12 : lw_okq (⟨"SlateKin$Tile", "isUnder", "(I)Z"⟩, 7) := ⟨⟨by decide +kernel, by decide +kernel⟩, List.mem_of_getElem? (i := 31) (by decide +kernel), List.mem_of_getElem? (i := 323) (by decide +kernel), List.mem_of_getElem? (i := 324) (by decide +kernel)⟩
theorem lw_p13 : lw_okq (⟨"SlateKin$Roof", "mayLie", "(II)Z"⟩, 11) := ⟨⟨by decide +kernel, by decide +kernel⟩, List.mem_of_getElem? (i := 22) (by decide +kernel), List.mem_of_getElem? (i := 336) (by decide +kernel), List.mem_of_getElem? (i := 337) (by decide +kernel)⟩
theorem lw_p14 : lw_okq (⟨"SlateKin$Tile", "ownAt", "(I)J"⟩, 7) := ⟨⟨by decide +kernel, by decide +kernel⟩, List.mem_of_getElem? (i := 31) (by decide +kernel), List.mem_of_getElem? (i := 340) (by decide +kernel), List.mem_of_getElem? (i := 341) (by decide +kernel)⟩
theorem lw_p15 : lw_okq (⟨"SlateKin$Tile", "own", "()J"⟩, 7) := ⟨⟨by decide +kernel, by decide +kernel⟩, List.mem_of_getElem? (i := 31) (by decide +kernel), List.mem_of_getElem? (i := 349) (by decide +kernel), List.mem_of_getElem? (i := 350) (by decide +kernel)⟩
def lw_privs_1 : List (MethodName × Nat) := [(⟨"SlateKin", "error", "(I)I"⟩, 7), (⟨"SlateKin$Tile", "begin", "(IIII)V"⟩, 7), (⟨"SlateKin$Tile", "turn", "(I)V"⟩, 7), (⟨"SlateKin", "isSlate", "(I)Z"⟩, 7), (⟨"SlateKin$Tile", "row", "()I"⟩, 7), (⟨"SlateKin$Tile", "isLaid", "()Z"⟩, 7), (⟨"SlateKin$Tile", "place", "()I"⟩, 7), (⟨"SlateKin$Tile", "broad", "()I"⟩, 7), (⟨"SlateKin$Roof", "holdOf", "(II)I"⟩, 11), (⟨"SlateKin$Tile", "holds", "(II)I"⟩, 7), (⟨"SlateKin$Law", "give", "(III)I"⟩, 5), (⟨"SlateKin$Law", "workOut", "(III)I"⟩, 5), (⟨"SlateKin$Tile", "isUnder", "(I)Z"⟩, 7), (⟨"SlateKin$Roof", "mayLie", "(II)Z"⟩, 11), (⟨"SlateKin$Tile", "ownAt", "(I)J"⟩, 7), (⟨"SlateKin$Tile", "own", "()J"⟩, 7)]
theorem lw_r1 : ∀ q ∈ lw_privs_1, lw_okq q := List.forall_mem_cons.mpr ⟨lw_p0, List.forall_mem_cons.mpr ⟨lw_p1, List.forall_mem_cons.mpr ⟨lw_p2, List.forall_mem_cons.mpr ⟨lw_p3, List.forall_mem_cons.mpr ⟨lw_p4, List.forall_mem_cons.mpr ⟨lw_p5, List.forall_mem_cons.mpr ⟨lw_p6, List.forall_mem_cons.mpr ⟨lw_p7, List.forall_mem_cons.mpr ⟨lw_p8, List.forall_mem_cons.mpr ⟨lw_p9, List.forall_mem_cons.mpr ⟨lw_p10, List.forall_mem_cons.mpr ⟨lw_p11, List.forall_mem_cons.mpr ⟨lw_p12, List.forall_mem_cons.mpr ⟨lw_p13, List.forall_mem_cons.mpr ⟨lw_p14, List.forall_mem_cons.mpr ⟨lw_p15, fun _ h => absurd h List.not_mem_nil⟩⟩⟩⟩⟩⟩⟩⟩⟩⟩⟩⟩⟩⟩⟩⟩
theorem lw_p16 : lw_okq (⟨"SlateKin$Roof", "dryBut", "(I)J"⟩, 11) := ⟨⟨by decide +kernel, by decide +kernel⟩, List.mem_of_getElem? (i := 22) (by decide +kernel), List.mem_of_getElem? (i := 362) (by decide +kernel), List.mem_of_getElem? (i := 363) (by decide +kernel)⟩
theorem lw_p17 : lw_okq (⟨"SlateKin$Reader", "read", "([BII)I"⟩, 6) := ⟨⟨by decide +kernel, by decide +kernel⟩, List.mem_of_getElem? (i := 141) (by decide +kernel), List.mem_of_getElem? (i := 402) (by decide +kernel), List.mem_of_getElem? (i := 403) (by decide +kernel)⟩
theorem lw_p18 : lw_okq (⟨"SlateKin$Reader", "any", "(I)Z"⟩, 6) := ⟨⟨by decide +kernel, by decide +kernel⟩, List.mem_of_getElem? (i := 141) (by decide +kernel), List.mem_of_getElem? (i := 410) (by decide +kernel), List.mem_of_getElem? (i := 411) (by decide +kernel)⟩
theorem lw_p19 : lw_okq (⟨"SlateKin$Reader", "all", "(I)Z"⟩, 6) := ⟨⟨by decide +kernel, by decide +kernel⟩, List.mem_of_getElem? (i := 141) (by decide +kernel), List.mem_of_getElem? (i := 414) (by decide +kernel), List.mem_of_getElem? (i := 415) (by decide +kernel)⟩
theorem lw_p20 : lw_okq (⟨"SlateKin$Reader", "comparison", "(I)Z"⟩, 6) := ⟨⟨by decide +kernel, by decide +kernel⟩, List.mem_of_getElem? (i := 141) (by decide +kernel), List.mem_of_getElem? (i := 418) (by decide +kernel), List.mem_of_getElem? (i := 419) (by decide +kernel)⟩
theorem lw_p21 : lw_okq (⟨"SlateKin$Reader", "sum", "(I)Z"⟩, 6) := ⟨⟨by decide +kernel, by decide +kernel⟩, List.mem_of_getElem? (i := 141) (by decide +kernel), List.mem_of_getElem? (i := 422) (by decide +kernel), List.mem_of_getElem? (i := 423) (by decide +kernel)⟩
theorem lw_p22 : lw_okq (⟨"SlateKin$Reader", "product", "(I)Z"⟩, 6) := ⟨⟨by decide +kernel, by decide +kernel⟩, List.mem_of_getElem? (i := 141) (by decide +kernel), List.mem_of_getElem? (i := 426) (by decide +kernel), List.mem_of_getElem? (i := 427) (by decide +kernel)⟩
theorem lw_p23 : lw_okq (⟨"SlateKin$Reader", "single", "(I)Z"⟩, 6) := ⟨⟨by decide +kernel, by decide +kernel⟩, List.mem_of_getElem? (i := 141) (by decide +kernel), List.mem_of_getElem? (i := 430) (by decide +kernel), List.mem_of_getElem? (i := 431) (by decide +kernel)⟩
theorem lw_p24 : lw_okq (⟨"SlateKin$Reader", "sign", "()I"⟩, 6) := ⟨⟨by decide +kernel, by decide +kernel⟩, List.mem_of_getElem? (i := 141) (by decide +kernel), List.mem_of_getElem? (i := 434) (by decide +kernel), List.mem_of_getElem? (i := 435) (by decide +kernel)⟩
theorem lw_p25 : lw_okq (⟨"SlateKin$Reader", "number", "()V"⟩, 6) := ⟨⟨by decide +kernel, by decide +kernel⟩, List.mem_of_getElem? (i := 141) (by decide +kernel), List.mem_of_getElem? (i := 438) (by decide +kernel), List.mem_of_getElem? (i := 439) (by decide +kernel)⟩
theorem lw_p26 : lw_okq (⟨"SlateKin$Reader", "emit", "(I)V"⟩, 6) := ⟨⟨by decide +kernel, by decide +kernel⟩, List.mem_of_getElem? (i := 141) (by decide +kernel), List.mem_of_getElem? (i := 442) (by decide +kernel), List.mem_of_getElem? (i := 443) (by decide +kernel)⟩
theorem lw_p27 : lw_okq (⟨"SlateKin$Reader", "opened", "(II)Z"⟩, 6) := ⟨⟨by decide +kernel, by decide +kernel⟩, List.mem_of_getElem? (i := 141) (by decide +kernel), List.mem_of_getElem? (i := 446) (by decide +kernel), List.mem_of_getElem? (i := 447) (by decide +kernel)⟩
theorem lw_p28 : lw_okq (⟨"SlateKin$Law", "adopt", "([II)V"⟩, 5) := ⟨⟨by decide +kernel, by decide +kernel⟩, List.mem_of_getElem? (i := 73) (by decide +kernel), List.mem_of_getElem? (i := 452) (by decide +kernel), List.mem_of_getElem? (i := 453) (by decide +kernel)⟩
theorem lw_p29 : lw_okq (⟨"SlateKin$Roof", "blown", "(I)I"⟩, 11) := ⟨⟨by decide +kernel, by decide +kernel⟩, List.mem_of_getElem? (i := 22) (by decide +kernel), List.mem_of_getElem? (i := 473) (by decide +kernel), List.mem_of_getElem? (i := 474) (by decide +kernel)⟩
theorem lw_p30 : lw_okq (⟨"SlateKin$Roof", "ownOf", "(II)J"⟩, 11) := ⟨⟨by decide +kernel, by decide +kernel⟩, List.mem_of_getElem? (i := 22) (by decide +kernel), List.mem_of_getElem? (i := 479) (by decide +kernel), List.mem_of_getElem? (i := 480) (by decide +kernel)⟩
theorem lw_p31 : lw_okq (⟨"SlateKin$Roof", "takeOff", "(I)V"⟩, 11) := ⟨⟨by decide +kernel, by decide +kernel⟩, List.mem_of_getElem? (i := 22) (by decide +kernel), List.mem_of_getElem? (i := 483) (by decide +kernel), List.mem_of_getElem? (i := 484) (by decide +kernel)⟩
def lw_privs_2 : List (MethodName × Nat) := [(⟨"SlateKin$Roof", "dryBut", "(I)J"⟩, 11), (⟨"SlateKin$Reader", "read", "([BII)I"⟩, 6), (⟨"SlateKin$Reader", "any", "(I)Z"⟩, 6), (⟨"SlateKin$Reader", "all", "(I)Z"⟩, 6), (⟨"SlateKin$Reader", "comparison", "(I)Z"⟩, 6), (⟨"SlateKin$Reader", "sum", "(I)Z"⟩, 6), (⟨"SlateKin$Reader", "product", "(I)Z"⟩, 6), (⟨"SlateKin$Reader", "single", "(I)Z"⟩, 6), (⟨"SlateKin$Reader", "sign", "()I"⟩, 6), (⟨"SlateKin$Reader", "number", "()V"⟩, 6), (⟨"SlateKin$Reader", "emit", "(I)V"⟩, 6), (⟨"SlateKin$Reader", "opened", "(II)Z"⟩, 6), (⟨"SlateKin$Law", "adopt", "([II)V"⟩, 5), (⟨"SlateKin$Roof", "blown", "(I)I"⟩, 11), (⟨"SlateKin$Roof", "ownOf", "(II)J"⟩, 11), (⟨"SlateKin$Roof", "takeOff", "(I)V"⟩, 11)]
theorem lw_r2 : ∀ q ∈ lw_privs_2, lw_okq q := List.forall_mem_cons.mpr ⟨lw_p16, List.forall_mem_cons.mpr ⟨lw_p17, List.forall_mem_cons.mpr ⟨lw_p18, List.forall_mem_cons.mpr ⟨lw_p19, List.forall_mem_cons.mpr ⟨lw_p20, List.forall_mem_cons.mpr ⟨lw_p21, List.forall_mem_cons.mpr ⟨lw_p22, List.forall_mem_cons.mpr ⟨lw_p23, List.forall_mem_cons.mpr ⟨lw_p24, List.forall_mem_cons.mpr ⟨lw_p25, List.forall_mem_cons.mpr ⟨lw_p26, List.forall_mem_cons.mpr ⟨lw_p27, List.forall_mem_cons.mpr ⟨lw_p28, List.forall_mem_cons.mpr ⟨lw_p29, List.forall_mem_cons.mpr ⟨lw_p30, List.forall_mem_cons.mpr ⟨lw_p31, fun _ h => absurd h List.not_mem_nil⟩⟩⟩⟩⟩⟩⟩⟩⟩⟩⟩⟩⟩⟩⟩⟩
theorem lw_p32 : lw_okq (⟨"SlateKin$Roof", "passYear", "()V"⟩, 11) := ⟨⟨by decide +kernel, by decide +kernel⟩, List.mem_of_getElem? (i := 22) (by decide +kernel), List.mem_of_getElem? (i := 491) (by decide +kernel), List.mem_of_getElem? (i := 492) (by decide +kernel)⟩
theorem lw_p33 : lw_okq (⟨"SlateKin$Roof", "yearByDraws", "()I"⟩, 11) := ⟨⟨by decide +kernel, by decide +kernel⟩, List.mem_of_getElem? (i := 22) (by decide +kernel), List.mem_of_getElem? (i := 503) (by decide +kernel), List.mem_of_getElem? (i := 504) (by decide +kernel)⟩
theorem lw_p34 : lw_okq (⟨"SlateKin$Roof", "draw", "()I"⟩, 11) := ⟨⟨by decide +kernel, by decide +kernel⟩, List.mem_of_getElem? (i := 22) (by decide +kernel), List.mem_of_getElem? (i := 507) (by decide +kernel), List.mem_of_getElem? (i := 508) (by decide +kernel)⟩
theorem lw_p35 : lw_okq (⟨"SlateKin$Roof", "lyingOver", "(I)I"⟩, 11) := ⟨⟨by decide +kernel, by decide +kernel⟩, List.mem_of_getElem? (i := 22) (by decide +kernel), List.mem_of_getElem? (i := 538) (by decide +kernel), List.mem_of_getElem? (i := 539) (by decide +kernel)⟩
theorem lw_p36 : lw_okq (⟨"SlateKin$Roof", "toComeTo", "(I)I"⟩, 11) := ⟨⟨by decide +kernel, by decide +kernel⟩, List.mem_of_getElem? (i := 22) (by decide +kernel), List.mem_of_getElem? (i := 542) (by decide +kernel), List.mem_of_getElem? (i := 543) (by decide +kernel)⟩
theorem lw_p37 : lw_okq (⟨"SlateKin$Roof", "mustBeFast", "(I)I"⟩, 11) := ⟨⟨by decide +kernel, by decide +kernel⟩, List.mem_of_getElem? (i := 22) (by decide +kernel), List.mem_of_getElem? (i := 554) (by decide +kernel), List.mem_of_getElem? (i := 555) (by decide +kernel)⟩
theorem lw_p38 : lw_okq (⟨"SlateKin$Roof", "bestCell", "(I)I"⟩, 11) := ⟨⟨by decide +kernel, by decide +kernel⟩, List.mem_of_getElem? (i := 22) (by decide +kernel), List.mem_of_getElem? (i := 568) (by decide +kernel), List.mem_of_getElem? (i := 569) (by decide +kernel)⟩
theorem lw_p39 : lw_okq (⟨"SlateKin$Roof", "dryWith", "(II)I"⟩, 11) := ⟨⟨by decide +kernel, by decide +kernel⟩, List.mem_of_getElem? (i := 22) (by decide +kernel), List.mem_of_getElem? (i := 572) (by decide +kernel), List.mem_of_getElem? (i := 573) (by decide +kernel)⟩
theorem lw_p40 : lw_okq (⟨"SlateKin$Roof", "ringing", "()I"⟩, 11) := ⟨⟨by decide +kernel, by decide +kernel⟩, List.mem_of_getElem? (i := 22) (by decide +kernel), List.mem_of_getElem? (i := 582) (by decide +kernel), List.mem_of_getElem? (i := 583) (by decide +kernel)⟩
theorem lw_p41 : lw_okq (⟨"SlateKin$Roof", "follows", "(II)Z"⟩, 11) := ⟨⟨by decide +kernel, by decide +kernel⟩, List.mem_of_getElem? (i := 22) (by decide +kernel), List.mem_of_getElem? (i := 586) (by decide +kernel), List.mem_of_getElem? (i := 587) (by decide +kernel)⟩
theorem lw_p42 : lw_okq (⟨"SlateKin$Sheet", "isMissing", "()Z"⟩, 3) := ⟨⟨by decide +kernel, by decide +kernel⟩, List.mem_of_getElem? (i := 197) (by decide +kernel), List.mem_of_getElem? (i := 606) (by decide +kernel), List.mem_of_getElem? (i := 607) (by decide +kernel)⟩
theorem lw_p43 : lw_okq (⟨"SlateKin$Sheet", "tellsRows", "(J)Z"⟩, 3) := ⟨⟨by decide +kernel, by decide +kernel⟩, List.mem_of_getElem? (i := 197) (by decide +kernel), List.mem_of_getElem? (i := 610) (by decide +kernel), List.mem_of_getElem? (i := 611) (by decide +kernel)⟩
theorem lw_p44 : lw_okq (⟨"SlateKin$Choir", "sing", "(LSlateKin$Tile;III)I"⟩, 6) := ⟨⟨by decide +kernel, by decide +kernel⟩, List.mem_of_getElem? (i := 168) (by decide +kernel), List.mem_of_getElem? (i := 620) (by decide +kernel), List.mem_of_getElem? (i := 621) (by decide +kernel)⟩
theorem lw_p45 : lw_okq (⟨"SlateKin$Choir", "own", "(III)I"⟩, 6) := ⟨⟨by decide +kernel, by decide +kernel⟩, List.mem_of_getElem? (i := 168) (by decide +kernel), List.mem_of_getElem? (i := 624) (by decide +kernel), List.mem_of_getElem? (i := 625) (by decide +kernel)⟩
theorem lw_p46 : lw_okq (⟨"SlateKin$Choir", "from", "(IIII)I"⟩, 6) := ⟨⟨by decide +kernel, by decide +kernel⟩, List.mem_of_getElem? (i := 168) (by decide +kernel), List.mem_of_getElem? (i := 628) (by decide +kernel), List.mem_of_getElem? (i := 629) (by decide +kernel)⟩
theorem lw_p47 : lw_okq (⟨"SlateKin$Choir", "begin", "(IIII)I"⟩, 6) := ⟨⟨by decide +kernel, by decide +kernel⟩, List.mem_of_getElem? (i := 168) (by decide +kernel), List.mem_of_getElem? (i := 635) (by decide +kernel), List.mem_of_getElem? (i := 636) (by decide +kernel)⟩
def lw_privs_3 : List (MethodName × Nat) := [(⟨"SlateKin$Roof", "passYear", "()V"⟩, 11), (⟨"SlateKin$Roof", "yearByDraws", "()I"⟩, 11), (⟨"SlateKin$Roof", "draw", "()I"⟩, 11), (⟨"SlateKin$Roof", "lyingOver", "(I)I"⟩, 11), (⟨"SlateKin$Roof", "toComeTo", "(I)I"⟩, 11), (⟨"SlateKin$Roof", "mustBeFast", "(I)I"⟩, 11), (⟨"SlateKin$Roof", "bestCell", "(I)I"⟩, 11), (⟨"SlateKin$Roof", "dryWith", "(II)I"⟩, 11), (⟨"SlateKin$Roof", "ringing", "()I"⟩, 11), (⟨"SlateKin$Roof", "follows", "(II)Z"⟩, 11), (⟨"SlateKin$Sheet", "isMissing", "()Z"⟩, 3), (⟨"SlateKin$Sheet", "tellsRows", "(J)Z"⟩, 3), (⟨"SlateKin$Choir", "sing", "(LSlateKin$Tile;III)I"⟩, 6), (⟨"SlateKin$Choir", "own", "(III)I"⟩, 6), (⟨"SlateKin$Choir", "from", "(IIII)I"⟩, 6), (⟨"SlateKin$Choir", "begin", "(IIII)I"⟩, 6)]
theorem lw_r3 : ∀ q ∈ lw_privs_3, lw_okq q := List.forall_mem_cons.mpr ⟨lw_p32, List.forall_mem_cons.mpr ⟨lw_p33, List.forall_mem_cons.mpr ⟨lw_p34, List.forall_mem_cons.mpr ⟨lw_p35, List.forall_mem_cons.mpr ⟨lw_p36, List.forall_mem_cons.mpr ⟨lw_p37, List.forall_mem_cons.mpr ⟨lw_p38, List.forall_mem_cons.mpr ⟨lw_p39, List.forall_mem_cons.mpr ⟨lw_p40, List.forall_mem_cons.mpr ⟨lw_p41, List.forall_mem_cons.mpr ⟨lw_p42, List.forall_mem_cons.mpr ⟨lw_p43, List.forall_mem_cons.mpr ⟨lw_p44, List.forall_mem_cons.mpr ⟨lw_p45, List.forall_mem_cons.mpr ⟨lw_p46, List.forall_mem_cons.mpr ⟨lw_p47, fun _ h => absurd h List.not_mem_nil⟩⟩⟩⟩⟩⟩⟩⟩⟩⟩⟩⟩⟩⟩⟩⟩
theorem lw_p48 : lw_okq (⟨"SlateKin$Choir", "shared", "(I)I"⟩, 6) := ⟨⟨by decide +kernel, by decide +kernel⟩, List.mem_of_getElem? (i := 168) (by decide +kernel), List.mem_of_getElem? (i := 639) (by decide +kernel), List.mem_of_getElem? (i := 640) (by decide +kernel)⟩
theorem lw_p49 : lw_okq (⟨"SlateKin$Choir", "partsAndRings", "(III)I"⟩, 6) := ⟨⟨by decide +kernel, by decide +kernel⟩, List.mem_of_getElem? (i := 168) (by decide +kernel), List.mem_of_getElem? (i := 643) (by decide +kernel), List.mem_of_getElem? (i := 644) (by decide +kernel)⟩
theorem lw_p50 : lw_okq (⟨"SlateKin$Sheet", "begin", "(II)V"⟩, 3) := ⟨⟨by decide +kernel, by decide +kernel⟩, List.mem_of_getElem? (i := 197) (by decide +kernel), List.mem_of_getElem? (i := 655) (by decide +kernel), List.mem_of_getElem? (i := 656) (by decide +kernel)⟩
theorem lw_p51 : lw_okq (⟨"SlateKin$Sheet", "write", "(II)V"⟩, 3) := ⟨⟨by decide +kernel, by decide +kernel⟩, List.mem_of_getElem? (i := 197) (by decide +kernel), List.mem_of_getElem? (i := 663) (by decide +kernel), List.mem_of_getElem? (i := 664) (by decide +kernel)⟩
theorem lw_p52 : lw_okq (⟨"SlateKin$Sheet", "has", "(II)Z"⟩, 3) := ⟨⟨by decide +kernel, by decide +kernel⟩, List.mem_of_getElem? (i := 197) (by decide +kernel), List.mem_of_getElem? (i := 671) (by decide +kernel), List.mem_of_getElem? (i := 672) (by decide +kernel)⟩
theorem lw_p53 : lw_okq (⟨"SlateKin$Roof", "copy", "(LSlateKin$Roof;)V"⟩, 11) := ⟨⟨by decide +kernel, by decide +kernel⟩, List.mem_of_getElem? (i := 22) (by decide +kernel), List.mem_of_getElem? (i := 688) (by decide +kernel), List.mem_of_getElem? (i := 689) (by decide +kernel)⟩
theorem lw_p54 : lw_okq (⟨"SlateKin$Tile", "copy", "(LSlateKin$Tile;)V"⟩, 7) := ⟨⟨by decide +kernel, by decide +kernel⟩, List.mem_of_getElem? (i := 31) (by decide +kernel), List.mem_of_getElem? (i := 692) (by decide +kernel), List.mem_of_getElem? (i := 693) (by decide +kernel)⟩
theorem lw_p55 : lw_okq (⟨"SlateKin$Law", "copy", "(LSlateKin$Law;)V"⟩, 5) := ⟨⟨by decide +kernel, by decide +kernel⟩, List.mem_of_getElem? (i := 73) (by decide +kernel), List.mem_of_getElem? (i := 696) (by decide +kernel), List.mem_of_getElem? (i := 697) (by decide +kernel)⟩
theorem lw_p56 : lw_okq (⟨"SlateKinModel", "error", "(I)I"⟩, 20) := ⟨⟨by decide +kernel, by decide +kernel⟩, List.mem_of_getElem? (i := 721) (by decide +kernel), List.mem_of_getElem? (i := 795) (by decide +kernel), List.mem_of_getElem? (i := 796) (by decide +kernel)⟩
theorem lw_p57 : lw_okq (⟨"SlateKinModel", "whole", "()Z"⟩, 20) := ⟨⟨by decide +kernel, by decide +kernel⟩, List.mem_of_getElem? (i := 721) (by decide +kernel), List.mem_of_getElem? (i := 805) (by decide +kernel), List.mem_of_getElem? (i := 806) (by decide +kernel)⟩
theorem lw_p58 : lw_okq (⟨"SlateKinModel", "both", "()Z"⟩, 20) := ⟨⟨by decide +kernel, by decide +kernel⟩, List.mem_of_getElem? (i := 721) (by decide +kernel), List.mem_of_getElem? (i := 809) (by decide +kernel), List.mem_of_getElem? (i := 810) (by decide +kernel)⟩
theorem lw_p59 : lw_okq (⟨"SlateKinModel", "compared", "()Z"⟩, 20) := ⟨⟨by decide +kernel, by decide +kernel⟩, List.mem_of_getElem? (i := 721) (by decide +kernel), List.mem_of_getElem? (i := 813) (by decide +kernel), List.mem_of_getElem? (i := 814) (by decide +kernel)⟩
theorem lw_p60 : lw_okq (⟨"SlateKinModel", "sum", "()Z"⟩, 20) := ⟨⟨by decide +kernel, by decide +kernel⟩, List.mem_of_getElem? (i := 721) (by decide +kernel), List.mem_of_getElem? (i := 817) (by decide +kernel), List.mem_of_getElem? (i := 818) (by decide +kernel)⟩
theorem lw_p61 : lw_okq (⟨"SlateKinModel", "product", "()Z"⟩, 20) := ⟨⟨by decide +kernel, by decide +kernel⟩, List.mem_of_getElem? (i := 721) (by decide +kernel), List.mem_of_getElem? (i := 821) (by decide +kernel), List.mem_of_getElem? (i := 822) (by decide +kernel)⟩
theorem lw_p62 : lw_okq (⟨"SlateKinModel", "one", "()Z"⟩, 20) := ⟨⟨by decide +kernel, by decide +kernel⟩, List.mem_of_getElem? (i := 721) (by decide +kernel), List.mem_of_getElem? (i := 825) (by decide +kernel), List.mem_of_getElem? (i := 826) (by decide +kernel)⟩
theorem lw_p63 : lw_okq (⟨"SlateKinModel", "look", "()I"⟩, 20) := ⟨⟨by decide +kernel, by decide +kernel⟩, List.mem_of_getElem? (i := 721) (by decide +kernel), List.mem_of_getElem? (i := 829) (by decide +kernel), List.mem_of_getElem? (i := 830) (by decide +kernel)⟩
def lw_privs_4 : List (MethodName × Nat) := [(⟨"SlateKin$Choir", "shared", "(I)I"⟩, 6), (⟨"SlateKin$Choir", "partsAndRings", "(III)I"⟩, 6), (⟨"SlateKin$Sheet", "begin", "(II)V"⟩, 3), (⟨"SlateKin$Sheet", "write", "(II)V"⟩, 3), (⟨"SlateKin$Sheet", "has", "(II)Z"⟩, 3), (⟨"SlateKin$Roof", "copy", "(LSlateKin$Roof;)V"⟩, 11), (⟨"SlateKin$Tile", "copy", "(LSlateKin$Tile;)V"⟩, 7), (⟨"SlateKin$Law", "copy", "(LSlateKin$Law;)V"⟩, 5), (⟨"SlateKinModel", "error", "(I)I"⟩, 20), (⟨"SlateKinModel", "whole", "()Z"⟩, 20), (⟨"SlateKinModel", "both", "()Z"⟩, 20), (⟨"SlateKinModel", "compared", "()Z"⟩, 20), (⟨"SlateKinModel", "sum", "()Z"⟩, 20), (⟨"SlateKinModel", "product", "()Z"⟩, 20), (⟨"SlateKinModel", "one", "()Z"⟩, 20), (⟨"SlateKinModel", "look", "()I"⟩, 20)]
theorem lw_r4 : ∀ q ∈ lw_privs_4, lw_okq q := List.forall_mem_cons.mpr ⟨lw_p48, List.forall_mem_cons.mpr ⟨lw_p49, List.forall_mem_cons.mpr ⟨lw_p50, List.forall_mem_cons.mpr ⟨lw_p51, List.forall_mem_cons.mpr ⟨lw_p52, List.forall_mem_cons.mpr ⟨lw_p53, List.forall_mem_cons.mpr ⟨lw_p54, List.forall_mem_cons.mpr ⟨lw_p55, List.forall_mem_cons.mpr ⟨lw_p56, List.forall_mem_cons.mpr ⟨lw_p57, List.forall_mem_cons.mpr ⟨lw_p58, List.forall_mem_cons.mpr ⟨lw_p59, List.forall_mem_cons.mpr ⟨lw_p60, List.forall_mem_cons.mpr ⟨lw_p61, List.forall_mem_cons.mpr ⟨lw_p62, List.forall_mem_cons.mpr ⟨lw_p63, fun _ h => absurd h List.not_mem_nil⟩⟩⟩⟩⟩⟩⟩⟩⟩⟩⟩⟩⟩⟩⟩⟩
theorem lw_p64 : lw_okq (⟨"SlateKinModel", "isName", "(I)Z"⟩, 20) := ⟨⟨by decide +kernel, by decide +kernel⟩, List.mem_of_getElem? (i := 721) (by decide +kernel), List.mem_of_getElem? (i := 833) (by decide +kernel), List.mem_of_getElem? (i := 834) (by decide +kernel)⟩
theorem lw_p65 : lw_okq (⟨"SlateKinModel", "step1", "(II)V"⟩, 20) := ⟨⟨by decide +kernel, by decide +kernel⟩, List.mem_of_getElem? (i := 721) (by decide +kernel), List.mem_of_getElem? (i := 837) (by decide +kernel), List.mem_of_getElem? (i := 838) (by decide +kernel)⟩
theorem lw_p66 : lw_okq (⟨"SlateKinModel", "opens", "()Z"⟩, 20) := ⟨⟨by decide +kernel, by decide +kernel⟩, List.mem_of_getElem? (i := 721) (by decide +kernel), List.mem_of_getElem? (i := 841) (by decide +kernel), List.mem_of_getElem? (i := 842) (by decide +kernel)⟩
theorem lw_p67 : lw_okq (⟨"SlateKinModel", "hasText", "(I)Z"⟩, 20) := ⟨⟨by decide +kernel, by decide +kernel⟩, List.mem_of_getElem? (i := 721) (by decide +kernel), List.mem_of_getElem? (i := 849) (by decide +kernel), List.mem_of_getElem? (i := 850) (by decide +kernel)⟩
theorem lw_p68 : lw_okq (⟨"SlateKinModel", "isSlate", "(I)Z"⟩, 20) := ⟨⟨by decide +kernel, by decide +kernel⟩, List.mem_of_getElem? (i := 721) (by decide +kernel), List.mem_of_getElem? (i := 860) (by decide +kernel), List.mem_of_getElem? (i := 861) (by decide +kernel)⟩
theorem lw_p69 : lw_okq (⟨"SlateKinModel", "lays1", "(III)V"⟩, 20) := ⟨⟨by decide +kernel, by decide +kernel⟩, List.mem_of_getElem? (i := 721) (by decide +kernel), List.mem_of_getElem? (i := 864) (by decide +kernel), List.mem_of_getElem? (i := 865) (by decide +kernel)⟩
theorem lw_p70 : lw_okq (⟨"SlateKinModel", "its", "(II)I"⟩, 20) := ⟨⟨by decide +kernel, by decide +kernel⟩, List.mem_of_getElem? (i := 721) (by decide +kernel), List.mem_of_getElem? (i := 872) (by decide +kernel), List.mem_of_getElem? (i := 873) (by decide +kernel)⟩
theorem lw_p71 : lw_okq (⟨"SlateKinModel", "broad", "(I)I"⟩, 20) := ⟨⟨by decide +kernel, by decide +kernel⟩, List.mem_of_getElem? (i := 721) (by decide +kernel), List.mem_of_getElem? (i := 876) (by decide +kernel), List.mem_of_getElem? (i := 877) (by decide +kernel)⟩
theorem lw_p72 : lw_okq (⟨"SlateKinModel", "holdOf", "(II)I"⟩, 20) := ⟨⟨by decide +kernel, by decide +kernel⟩, List.mem_of_getElem? (i := 721) (by decide +kernel), List.mem_of_getElem? (i := 880) (by decide +kernel), List.mem_of_getElem? (i := 881) (by decide +kernel)⟩
theorem lw_p73 : lw_okq (⟨"SlateKinModel", "holdsOf", "(I)I"⟩, 20) := ⟨⟨by decide +kernel, by decide +kernel⟩, List.mem_of_getElem? (i := 721) (by decide +kernel), List.mem_of_getElem? (i := 884) (by decide +kernel), List.mem_of_getElem? (i := 885) (by decide +kernel)⟩
theorem lw_p74 : lw_okq (⟨"SlateKinModel", "holdTold", "(III)I"⟩, 20) := ⟨⟨by decide +kernel, by decide +kernel⟩, List.mem_of_getElem? (i := 721) (by decide +kernel), List.mem_of_getElem? (i := 888) (by decide +kernel), List.mem_of_getElem? (i := 889) (by decide +kernel)⟩
theorem lw_p75 : lw_okq (⟨"SlateKinModel", "worked", "(I)I"⟩, 20) := ⟨⟨by decide +kernel, by decide +kernel⟩, List.mem_of_getElem? (i := 721) (by decide +kernel), List.mem_of_getElem? (i := 892) (by decide +kernel), List.mem_of_getElem? (i := 893) (by decide +kernel)⟩
theorem lw_p76 : lw_okq (⟨"SlateKinModel", "change1", "(II)I"⟩, 20) := ⟨⟨by decide +kernel, by decide +kernel⟩, List.mem_of_getElem? (i := 721) (by decide +kernel), List.mem_of_getElem? (i := 906) (by decide +kernel), List.mem_of_getElem? (i := 907) (by decide +kernel)⟩
theorem lw_p77 : lw_okq (⟨"SlateKinModel", "mayLie", "(II)Z"⟩, 20) := ⟨⟨by decide +kernel, by decide +kernel⟩, List.mem_of_getElem? (i := 721) (by decide +kernel), List.mem_of_getElem? (i := 921) (by decide +kernel), List.mem_of_getElem? (i := 922) (by decide +kernel)⟩
theorem lw_p78 : lw_okq (⟨"SlateKinModel", "ownAt", "(II)J"⟩, 20) := ⟨⟨by decide +kernel, by decide +kernel⟩, List.mem_of_getElem? (i := 721) (by decide +kernel), List.mem_of_getElem? (i := 925) (by decide +kernel), List.mem_of_getElem? (i := 926) (by decide +kernel)⟩
theorem lw_p79 : lw_okq (⟨"SlateKinModel", "own", "(I)J"⟩, 20) := ⟨⟨by decide +kernel, by decide +kernel⟩, List.mem_of_getElem? (i := 721) (by decide +kernel), List.mem_of_getElem? (i := 929) (by decide +kernel), List.mem_of_getElem? (i := 930) (by decide +kernel)⟩
def lw_privs_5 : List (MethodName × Nat) := [(⟨"SlateKinModel", "isName", "(I)Z"⟩, 20), (⟨"SlateKinModel", "step1", "(II)V"⟩, 20), (⟨"SlateKinModel", "opens", "()Z"⟩, 20), (⟨"SlateKinModel", "hasText", "(I)Z"⟩, 20), (⟨"SlateKinModel", "isSlate", "(I)Z"⟩, 20), (⟨"SlateKinModel", "lays1", "(III)V"⟩, 20), (⟨"SlateKinModel", "its", "(II)I"⟩, 20), (⟨"SlateKinModel", "broad", "(I)I"⟩, 20), (⟨"SlateKinModel", "holdOf", "(II)I"⟩, 20), (⟨"SlateKinModel", "holdsOf", "(I)I"⟩, 20), (⟨"SlateKinModel", "holdTold", "(III)I"⟩, 20), (⟨"SlateKinModel", "worked", "(I)I"⟩, 20), (⟨"SlateKinModel", "change1", "(II)I"⟩, 20), (⟨"SlateKinModel", "mayLie", "(II)Z"⟩, 20), (⟨"SlateKinModel", "ownAt", "(II)J"⟩, 20), (⟨"SlateKinModel", "own", "(I)J"⟩, 20)]
theorem lw_r5 : ∀ q ∈ lw_privs_5, lw_okq q := List.forall_mem_cons.mpr ⟨lw_p64, List.forall_mem_cons.mpr ⟨lw_p65, List.forall_mem_cons.mpr ⟨lw_p66, List.forall_mem_cons.mpr ⟨lw_p67, List.forall_mem_cons.mpr ⟨lw_p68, List.forall_mem_cons.mpr ⟨lw_p69, List.forall_mem_cons.mpr ⟨lw_p70, List.forall_mem_cons.mpr ⟨lw_p71, List.forall_mem_cons.mpr ⟨lw_p72, List.forall_mem_cons.mpr ⟨lw_p73, List.forall_mem_cons.mpr ⟨lw_p74, List.forall_mem_cons.mpr ⟨lw_p75, List.forall_mem_cons.mpr ⟨lw_p76, List.forall_mem_cons.mpr ⟨lw_p77, List.forall_mem_cons.mpr ⟨lw_p78, List.forall_mem_cons.mpr ⟨lw_p79, fun _ h => absurd h List.not_mem_nil⟩⟩⟩⟩⟩⟩⟩⟩⟩⟩⟩⟩⟩⟩⟩⟩
theorem lw_p80 : lw_okq (⟨"SlateKinModel", "drySet", "()J"⟩, 20) := ⟨⟨by decide +kernel, by decide +kernel⟩, List.mem_of_getElem? (i := 721) (by decide +kernel), List.mem_of_getElem? (i := 933) (by decide +kernel), List.mem_of_getElem? (i := 934) (by decide +kernel)⟩
theorem lw_p81 : lw_okq (⟨"SlateKinModel", "covers", "(I)J"⟩, 20) := ⟨⟨by decide +kernel, by decide +kernel⟩, List.mem_of_getElem? (i := 721) (by decide +kernel), List.mem_of_getElem? (i := 937) (by decide +kernel), List.mem_of_getElem? (i := 938) (by decide +kernel)⟩
theorem lw_p82 : lw_okq (⟨"SlateKinModel", "dropTold", "(III)I"⟩, 20) := ⟨⟨by decide +kernel, by decide +kernel⟩, List.mem_of_getElem? (i := 721) (by decide +kernel), List.mem_of_getElem? (i := 961) (by decide +kernel), List.mem_of_getElem? (i := 962) (by decide +kernel)⟩
theorem lw_p83 : lw_okq (⟨"SlateKinModel", "galeNow", "(I)I"⟩, 20) := ⟨⟨by decide +kernel, by decide +kernel⟩, List.mem_of_getElem? (i := 721) (by decide +kernel), List.mem_of_getElem? (i := 972) (by decide +kernel), List.mem_of_getElem? (i := 973) (by decide +kernel)⟩
theorem lw_p84 : lw_okq (⟨"SlateKinModel", "findHolds", "(I)V"⟩, 20) := ⟨⟨by decide +kernel, by decide +kernel⟩, List.mem_of_getElem? (i := 721) (by decide +kernel), List.mem_of_getElem? (i := 976) (by decide +kernel), List.mem_of_getElem? (i := 977) (by decide +kernel)⟩
theorem lw_p85 : lw_okq (⟨"SlateKinModel", "liftedBy", "(II)I"⟩, 20) := ⟨⟨by decide +kernel, by decide +kernel⟩, List.mem_of_getElem? (i := 721) (by decide +kernel), List.mem_of_getElem? (i := 980) (by decide +kernel), List.mem_of_getElem? (i := 981) (by decide +kernel)⟩
theorem lw_p86 : lw_okq (⟨"SlateKinModel", "whyNot", "(II)I"⟩, 20) := ⟨⟨by decide +kernel, by decide +kernel⟩, List.mem_of_getElem? (i := 721) (by decide +kernel), List.mem_of_getElem? (i := 988) (by decide +kernel), List.mem_of_getElem? (i := 989) (by decide +kernel)⟩
theorem lw_p87 : lw_okq (⟨"SlateKinModel", "aYear", "()V"⟩, 20) := ⟨⟨by decide +kernel, by decide +kernel⟩, List.mem_of_getElem? (i := 721) (by decide +kernel), List.mem_of_getElem? (i := 992) (by decide +kernel), List.mem_of_getElem? (i := 993) (by decide +kernel)⟩
theorem lw_p88 : lw_okq (⟨"SlateKinModel", "draw", "()I"⟩, 20) := ⟨⟨by decide +kernel, by decide +kernel⟩, List.mem_of_getElem? (i := 721) (by decide +kernel), List.mem_of_getElem? (i := 1001) (by decide +kernel), List.mem_of_getElem? (i := 1002) (by decide +kernel)⟩
theorem lw_p89 : lw_okq (⟨"SlateKinModel", "coveredBy", "(JI)I"⟩, 20) := ⟨⟨by decide +kernel, by decide +kernel⟩, List.mem_of_getElem? (i := 721) (by decide +kernel), List.mem_of_getElem? (i := 1018) (by decide +kernel), List.mem_of_getElem? (i := 1019) (by decide +kernel)⟩
theorem lw_p90 : lw_okq (⟨"SlateKinModel", "dryBehind", "(I)J"⟩, 20) := ⟨⟨by decide +kernel, by decide +kernel⟩, List.mem_of_getElem? (i := 721) (by decide +kernel), List.mem_of_getElem? (i := 1026) (by decide +kernel), List.mem_of_getElem? (i := 1027) (by decide +kernel)⟩
theorem lw_p91 : lw_okq (⟨"SlateKinModel", "isBeside", "(II)Z"⟩, 20) := ⟨⟨by decide +kernel, by decide +kernel⟩, List.mem_of_getElem? (i := 721) (by decide +kernel), List.mem_of_getElem? (i := 1042) (by decide +kernel), List.mem_of_getElem? (i := 1043) (by decide +kernel)⟩
theorem lw_p92 : lw_okq (⟨"SlateKinModel", "lacks", "(I)I"⟩, 20) := ⟨⟨by decide +kernel, by decide +kernel⟩, List.mem_of_getElem? (i := 721) (by decide +kernel), List.mem_of_getElem? (i := 1057) (by decide +kernel), List.mem_of_getElem? (i := 1058) (by decide +kernel)⟩
theorem lw_p93 : lw_okq (⟨"SlateKinModel", "kindNow", "()I"⟩, 20) := ⟨⟨by decide +kernel, by decide +kernel⟩, List.mem_of_getElem? (i := 721) (by decide +kernel), List.mem_of_getElem? (i := 1068) (by decide +kernel), List.mem_of_getElem? (i := 1069) (by decide +kernel)⟩
theorem lw_p94 : lw_okq (⟨"SlateKinModel", "dripsAs", "(II)I"⟩, 20) := ⟨⟨by decide +kernel, by decide +kernel⟩, List.mem_of_getElem? (i := 721) (by decide +kernel), List.mem_of_getElem? (i := 1072) (by decide +kernel), List.mem_of_getElem? (i := 1073) (by decide +kernel)⟩
theorem lw_p95 : lw_okq (⟨"SlateKinModel", "starts", "(I)V"⟩, 20) := ⟨⟨by decide +kernel, by decide +kernel⟩, List.mem_of_getElem? (i := 721) (by decide +kernel), List.mem_of_getElem? (i := 1076) (by decide +kernel), List.mem_of_getElem? (i := 1077) (by decide +kernel)⟩
def lw_privs_6 : List (MethodName × Nat) := [(⟨"SlateKinModel", "drySet", "()J"⟩, 20), (⟨"SlateKinModel", "covers", "(I)J"⟩, 20), (⟨"SlateKinModel", "dropTold", "(III)I"⟩, 20), (⟨"SlateKinModel", "galeNow", "(I)I"⟩, 20), (⟨"SlateKinModel", "findHolds", "(I)V"⟩, 20), (⟨"SlateKinModel", "liftedBy", "(II)I"⟩, 20), (⟨"SlateKinModel", "whyNot", "(II)I"⟩, 20), (⟨"SlateKinModel", "aYear", "()V"⟩, 20), (⟨"SlateKinModel", "draw", "()I"⟩, 20), (⟨"SlateKinModel", "coveredBy", "(JI)I"⟩, 20), (⟨"SlateKinModel", "dryBehind", "(I)J"⟩, 20), (⟨"SlateKinModel", "isBeside", "(II)Z"⟩, 20), (⟨"SlateKinModel", "lacks", "(I)I"⟩, 20), (⟨"SlateKinModel", "kindNow", "()I"⟩, 20), (⟨"SlateKinModel", "dripsAs", "(II)I"⟩, 20), (⟨"SlateKinModel", "starts", "(I)V"⟩, 20)]
theorem lw_r6 : ∀ q ∈ lw_privs_6, lw_okq q := List.forall_mem_cons.mpr ⟨lw_p80, List.forall_mem_cons.mpr ⟨lw_p81, List.forall_mem_cons.mpr ⟨lw_p82, List.forall_mem_cons.mpr ⟨lw_p83, List.forall_mem_cons.mpr ⟨lw_p84, List.forall_mem_cons.mpr ⟨lw_p85, List.forall_mem_cons.mpr ⟨lw_p86, List.forall_mem_cons.mpr ⟨lw_p87, List.forall_mem_cons.mpr ⟨lw_p88, List.forall_mem_cons.mpr ⟨lw_p89, List.forall_mem_cons.mpr ⟨lw_p90, List.forall_mem_cons.mpr ⟨lw_p91, List.forall_mem_cons.mpr ⟨lw_p92, List.forall_mem_cons.mpr ⟨lw_p93, List.forall_mem_cons.mpr ⟨lw_p94, List.forall_mem_cons.mpr ⟨lw_p95, fun _ h => absurd h List.not_mem_nil⟩⟩⟩⟩⟩⟩⟩⟩⟩⟩⟩⟩⟩⟩⟩⟩
theorem lw_p96 : lw_okq (⟨"SlateKinModel", "ringsAs", "(II)I"⟩, 20) := ⟨⟨by decide +kernel, by decide +kernel⟩, List.mem_of_getElem? (i := 721) (by decide +kernel), List.mem_of_getElem? (i := 1080) (by decide +kernel), List.mem_of_getElem? (i := 1081) (by decide +kernel)⟩
theorem lw_p97 : lw_okq (⟨"SlateKinModel", "mNow", "()I"⟩, 20) := ⟨⟨by decide +kernel, by decide +kernel⟩, List.mem_of_getElem? (i := 721) (by decide +kernel), List.mem_of_getElem? (i := 1084) (by decide +kernel), List.mem_of_getElem? (i := 1085) (by decide +kernel)⟩
theorem lw_p98 : lw_okq (⟨"SlateKinModel", "creaksAs", "(II)I"⟩, 20) := ⟨⟨by decide +kernel, by decide +kernel⟩, List.mem_of_getElem? (i := 721) (by decide +kernel), List.mem_of_getElem? (i := 1088) (by decide +kernel), List.mem_of_getElem? (i := 1089) (by decide +kernel)⟩
theorem lw_p99 : lw_okq (⟨"SlateKinModel", "partsAs", "(II)I"⟩, 20) := ⟨⟨by decide +kernel, by decide +kernel⟩, List.mem_of_getElem? (i := 721) (by decide +kernel), List.mem_of_getElem? (i := 1092) (by decide +kernel), List.mem_of_getElem? (i := 1093) (by decide +kernel)⟩
def lw_privs_7 : List (MethodName × Nat) := [(⟨"SlateKinModel", "ringsAs", "(II)I"⟩, 20), (⟨"SlateKinModel", "mNow", "()I"⟩, 20), (⟨"SlateKinModel", "creaksAs", "(II)I"⟩, 20), (⟨"SlateKinModel", "partsAs", "(II)I"⟩, 20)]
theorem lw_r7 : ∀ q ∈ lw_privs_7, lw_okq q := List.forall_mem_cons.mpr ⟨lw_p96, List.forall_mem_cons.mpr ⟨lw_p97, List.forall_mem_cons.mpr ⟨lw_p98, List.forall_mem_cons.mpr ⟨lw_p99, fun _ h => absurd h List.not_mem_nil⟩⟩⟩⟩
def lw_privs : List (MethodName × Nat) := lw_privs_1 ++ (lw_privs_2 ++ (lw_privs_3 ++ (lw_privs_4 ++ (lw_privs_5 ++ (lw_privs_6 ++ (lw_privs_7))))))
def lw_tbl : List Cond := k2_sels lw_privs ++ tables_1
theorem lw_privs_ok : ∀ q ∈ lw_privs, lw_okq q := by
  show ∀ q ∈ lw_privs_1 ++ (lw_privs_2 ++ (lw_privs_3 ++ (lw_privs_4 ++ (lw_privs_5 ++ (lw_privs_6 ++ (lw_privs_7)))))), lw_okq q
  exact List.forall_mem_append.mpr ⟨lw_r1, List.forall_mem_append.mpr ⟨lw_r2, List.forall_mem_append.mpr ⟨lw_r3, List.forall_mem_append.mpr ⟨lw_r4, List.forall_mem_append.mpr ⟨lw_r5, List.forall_mem_append.mpr ⟨lw_r6, lw_r7⟩⟩⟩⟩⟩⟩
end
section
def RX0 : String := "SlateKin$Choir"
def TX0 : u_T := fun k => match k with
  | 0 => ("SlateKin$Choir", "trace", "[I", true)
  | 1 => ("SlateKin$Choir", "size", "I", false)
  | 2 => ("SlateKin$Choir", "parted", "Z", false)
  | 3 => ("SlateKin$Choir", "kind", "I", false)
  | 4 => ("SlateKin$Choir", "m", "I", false)
  | _ => ("SlateKin$Choir", "k", "I", false)
def tyX0 : Nat → FieldType := fun k => match k with
  | 0 => .array .int
  | 1 => .int
  | 2 => .boolean
  | 3 => .int
  | 4 => .int
  | _ => .int
abbrev wsX00 : List Cond := u_ws RX0 TX0 6
theorem nmX0 : ∀ a, a < 6 → ∀ b, b < 6 → a ≠ b → (TX0 a).2.1 ≠ (TX0 b).2.1 := by decide +kernel
theorem tyX0_ok : ∀ k, k < 6 → parseFieldDescriptor (TX0 k).2.2.1 = some (tyX0 k) := by decide +kernel
abbrev cX0_init : ByteArray := prog_2_method_1_code
def yX0_init : MethodName := ⟨RX0, "<init>", "()V"⟩
abbrev cX0_sing : ByteArray := prog_2_method_2_code
def yX0_sing : MethodName := ⟨RX0, "sing", "(LSlateKin$Tile;III)I"⟩
abbrev cX0_own : ByteArray := prog_2_method_3_code
def yX0_own : MethodName := ⟨RX0, "own", "(III)I"⟩
abbrev cX0_from : ByteArray := prog_2_method_4_code
def yX0_from : MethodName := ⟨RX0, "from", "(IIII)I"⟩
abbrev cX0_begin : ByteArray := prog_2_method_5_code
def yX0_begin : MethodName := ⟨RX0, "begin", "(IIII)I"⟩
abbrev cX0_shared : ByteArray := prog_2_method_6_code
def yX0_shared : MethodName := ⟨RX0, "shared", "(I)I"⟩
abbrev cX0_partsAndRings : ByteArray := prog_2_method_7_code
def yX0_partsAndRings : MethodName := ⟨RX0, "partsAndRings", "(III)I"⟩
def RX1 : String := "SlateKin$Law"
def TX1 : u_T := fun k => match k with
  | 0 => ("SlateKin$Law", "use", "I", true)
  | 1 => ("SlateKin$Law", "stands", "Z", false)
  | 2 => ("SlateKin$Law", "code", "[I", true)
  | 3 => ("SlateKin$Law", "size", "I", false)
  | _ => ("SlateKin$Law", "stack", "[I", true)
def tyX1 : Nat → FieldType := fun k => match k with
  | 0 => .int
  | 1 => .boolean
  | 2 => .array .int
  | 3 => .int
  | _ => .array .int
abbrev wsX10 : List Cond := u_ws RX1 TX1 5
theorem nmX1 : ∀ a, a < 5 → ∀ b, b < 5 → a ≠ b → (TX1 a).2.1 ≠ (TX1 b).2.1 := by decide +kernel
theorem tyX1_ok : ∀ k, k < 5 → parseFieldDescriptor (TX1 k).2.2.1 = some (tyX1 k) := by decide +kernel
abbrev cX1_init : ByteArray := prog_3_method_1_code
def yX1_init : MethodName := ⟨RX1, "<init>", "(I)V"⟩
abbrev cX1_adopt : ByteArray := prog_3_method_2_code
def yX1_adopt : MethodName := ⟨RX1, "adopt", "([II)V"⟩
abbrev cX1_copy : ByteArray := prog_3_method_3_code
def yX1_copy : MethodName := ⟨RX1, "copy", "(LSlateKin$Law;)V"⟩
abbrev cX1_give : ByteArray := prog_3_method_4_code
def yX1_give : MethodName := ⟨RX1, "give", "(III)I"⟩
abbrev cX1_workOut : ByteArray := prog_3_method_5_code
def yX1_workOut : MethodName := ⟨RX1, "workOut", "(III)I"⟩
abbrev cX1_worth : ByteArray := prog_3_method_6_code
def yX1_worth : MethodName := ⟨RX1, "worth", "(IIII)I"⟩
abbrev cX1_join : ByteArray := prog_3_method_7_code
def yX1_join : MethodName := ⟨RX1, "join", "(III)I"⟩
def RX2 : String := "SlateKin$Reader"
def TX2 : u_T := fun k => match k with
  | 0 => ("SlateKin$Reader", "bytes", "[B", true)
  | 1 => ("SlateKin$Reader", "end", "I", false)
  | 2 => ("SlateKin$Reader", "at", "I", false)
  | 3 => ("SlateKin$Reader", "use", "I", false)
  | 4 => ("SlateKin$Reader", "code", "[I", true)
  | _ => ("SlateKin$Reader", "size", "I", false)
def tyX2 : Nat → FieldType := fun k => match k with
  | 0 => .array .byte
  | 1 => .int
  | 2 => .int
  | 3 => .int
  | 4 => .array .int
  | _ => .int
abbrev wsX20 : List Cond := u_ws RX2 TX2 6
theorem nmX2 : ∀ a, a < 6 → ∀ b, b < 6 → a ≠ b → (TX2 a).2.1 ≠ (TX2 b).2.1 := by decide +kernel
theorem tyX2_ok : ∀ k, k < 6 → parseFieldDescriptor (TX2 k).2.2.1 = some (tyX2 k) := by decide +kernel
abbrev cX2_init : ByteArray := prog_4_method_1_code
def yX2_init : MethodName := ⟨RX2, "<init>", "()V"⟩
abbrev cX2_read : ByteArray := prog_4_method_2_code
def yX2_read : MethodName := ⟨RX2, "read", "([BII)I"⟩
abbrev cX2_sign : ByteArray := prog_4_method_3_code
def yX2_sign : MethodName := ⟨RX2, "sign", "()I"⟩
abbrev cX2_emit : ByteArray := prog_4_method_4_code
def yX2_emit : MethodName := ⟨RX2, "emit", "(I)V"⟩
abbrev cX2_any : ByteArray := prog_4_method_5_code
def yX2_any : MethodName := ⟨RX2, "any", "(I)Z"⟩
abbrev cX2_all : ByteArray := prog_4_method_6_code
def yX2_all : MethodName := ⟨RX2, "all", "(I)Z"⟩
abbrev cX2_comparison : ByteArray := prog_4_method_7_code
def yX2_comparison : MethodName := ⟨RX2, "comparison", "(I)Z"⟩
abbrev cX2_sum : ByteArray := prog_4_method_8_code
def yX2_sum : MethodName := ⟨RX2, "sum", "(I)Z"⟩
abbrev cX2_product : ByteArray := prog_4_method_9_code
def yX2_product : MethodName := ⟨RX2, "product", "(I)Z"⟩
abbrev cX2_single : ByteArray := prog_4_method_10_code
def yX2_single : MethodName := ⟨RX2, "single", "(I)Z"⟩
abbrev cX2_opened : ByteArray := prog_4_method_11_code
def yX2_opened : MethodName := ⟨RX2, "opened", "(II)Z"⟩
abbrev cX2_number : ByteArray := prog_4_method_12_code
def yX2_number : MethodName := ⟨RX2, "number", "()V"⟩
def RX3 : String := "SlateKin$Roof"
def TX3 : u_T := fun k => match k with
  | 0 => ("SlateKin$Roof", "tiles", "[LSlateKin$Tile;", true)
  | 1 => ("SlateKin$Roof", "size", "I", false)
  | 2 => ("SlateKin$Roof", "year", "I", false)
  | 3 => ("SlateKin$Roof", "sold", "I", false)
  | 4 => ("SlateKin$Roof", "tub", "I", false)
  | 5 => ("SlateKin$Roof", "z", "I", false)
  | 6 => ("SlateKin$Roof", "tape", "[B", true)
  | 7 => ("SlateKin$Roof", "fed", "I", false)
  | 8 => ("SlateKin$Roof", "laws", "[LSlateKin$Law;", true)
  | 9 => ("SlateKin$Roof", "waits", "[I", true)
  | _ => ("SlateKin$Roof", "waiting", "I", false)
def tyX3 : Nat → FieldType := fun k => match k with
  | 0 => .array (.object "SlateKin$Tile")
  | 1 => .int
  | 2 => .int
  | 3 => .int
  | 4 => .int
  | 5 => .int
  | 6 => .array .byte
  | 7 => .int
  | 8 => .array (.object "SlateKin$Law")
  | 9 => .array .int
  | _ => .int
abbrev wsX30 : List Cond := u_ws RX3 TX3 11
theorem nmX3 : ∀ a, a < 11 → ∀ b, b < 11 → a ≠ b → (TX3 a).2.1 ≠ (TX3 b).2.1 := by decide +kernel
theorem tyX3_ok : ∀ k, k < 11 → parseFieldDescriptor (TX3 k).2.2.1 = some (tyX3 k) := by decide +kernel
abbrev cX3_init : ByteArray := prog_5_method_1_code
def yX3_init : MethodName := ⟨RX3, "<init>", "()V"⟩
abbrev cX3_copy : ByteArray := prog_5_method_2_code
def yX3_copy : MethodName := ⟨RX3, "copy", "(LSlateKin$Roof;)V"⟩
abbrev cX3_holdOf : ByteArray := prog_5_method_3_code
def yX3_holdOf : MethodName := ⟨RX3, "holdOf", "(II)I"⟩
abbrev cX3_rightUnder : ByteArray := prog_5_method_4_code
def yX3_rightUnder : MethodName := ⟨RX3, "rightUnder", "(J)J"⟩
abbrev cX3_rightAbove : ByteArray := prog_5_method_5_code
def yX3_rightAbove : MethodName := ⟨RX3, "rightAbove", "(J)J"⟩
abbrev cX3_covered : ByteArray := prog_5_method_6_code
def yX3_covered : MethodName := ⟨RX3, "covered", "(J)J"⟩
abbrev cX3_mayLie : ByteArray := prog_5_method_7_code
def yX3_mayLie : MethodName := ⟨RX3, "mayLie", "(II)Z"⟩
abbrev cX3_dryBut : ByteArray := prog_5_method_8_code
def yX3_dryBut : MethodName := ⟨RX3, "dryBut", "(I)J"⟩
abbrev cX3_dryWith : ByteArray := prog_5_method_9_code
def yX3_dryWith : MethodName := ⟨RX3, "dryWith", "(II)I"⟩
abbrev cX3_bestCell : ByteArray := prog_5_method_10_code
def yX3_bestCell : MethodName := ⟨RX3, "bestCell", "(I)I"⟩
abbrev cX3_lyingOver : ByteArray := prog_5_method_11_code
def yX3_lyingOver : MethodName := ⟨RX3, "lyingOver", "(I)I"⟩
abbrev cX3_toComeTo : ByteArray := prog_5_method_12_code
def yX3_toComeTo : MethodName := ⟨RX3, "toComeTo", "(I)I"⟩
abbrev cX3_ownOf : ByteArray := prog_5_method_13_code
def yX3_ownOf : MethodName := ⟨RX3, "ownOf", "(II)J"⟩
abbrev cX3_blown : ByteArray := prog_5_method_14_code
def yX3_blown : MethodName := ⟨RX3, "blown", "(I)I"⟩
abbrev cX3_takeOff : ByteArray := prog_5_method_15_code
def yX3_takeOff : MethodName := ⟨RX3, "takeOff", "(I)V"⟩
abbrev cX3_mustBeFast : ByteArray := prog_5_method_16_code
def yX3_mustBeFast : MethodName := ⟨RX3, "mustBeFast", "(I)I"⟩
abbrev cX3_ringing : ByteArray := prog_5_method_17_code
def yX3_ringing : MethodName := ⟨RX3, "ringing", "()I"⟩
abbrev cX3_follows : ByteArray := prog_5_method_18_code
def yX3_follows : MethodName := ⟨RX3, "follows", "(II)Z"⟩
abbrev cX3_passYear : ByteArray := prog_5_method_19_code
def yX3_passYear : MethodName := ⟨RX3, "passYear", "()V"⟩
abbrev cX3_draw : ByteArray := prog_5_method_20_code
def yX3_draw : MethodName := ⟨RX3, "draw", "()I"⟩
abbrev cX3_yearByDraws : ByteArray := prog_5_method_21_code
def yX3_yearByDraws : MethodName := ⟨RX3, "yearByDraws", "()I"⟩
def RX4 : String := "SlateKin$Sheet"
def TX4 : u_T := fun k => match k with
  | 0 => ("SlateKin$Sheet", "bits", "I", false)
  | 1 => ("SlateKin$Sheet", "size", "I", false)
  | _ => ("SlateKin$Sheet", "numbers", "[I", true)
def tyX4 : Nat → FieldType := fun k => match k with
  | 0 => .int
  | 1 => .int
  | _ => .array .int
abbrev wsX40 : List Cond := u_ws RX4 TX4 3
theorem nmX4 : ∀ a, a < 3 → ∀ b, b < 3 → a ≠ b → (TX4 a).2.1 ≠ (TX4 b).2.1 := by decide +kernel
theorem tyX4_ok : ∀ k, k < 3 → parseFieldDescriptor (TX4 k).2.2.1 = some (tyX4 k) := by decide +kernel
abbrev cX4_init : ByteArray := prog_6_method_1_code
def yX4_init : MethodName := ⟨RX4, "<init>", "()V"⟩
abbrev cX4_isMissing : ByteArray := prog_6_method_2_code
def yX4_isMissing : MethodName := ⟨RX4, "isMissing", "()Z"⟩
abbrev cX4_begin : ByteArray := prog_6_method_3_code
def yX4_begin : MethodName := ⟨RX4, "begin", "(II)V"⟩
abbrev cX4_write : ByteArray := prog_6_method_4_code
def yX4_write : MethodName := ⟨RX4, "write", "(II)V"⟩
abbrev cX4_has : ByteArray := prog_6_method_5_code
def yX4_has : MethodName := ⟨RX4, "has", "(II)Z"⟩
abbrev cX4_tellsRows : ByteArray := prog_6_method_6_code
def yX4_tellsRows : MethodName := ⟨RX4, "tellsRows", "(J)Z"⟩
def RX5 : String := "SlateKin$Tile"
def TX5 : u_T := fun k => match k with
  | 0 => ("SlateKin$Tile", "kind", "I", false)
  | 1 => ("SlateKin$Tile", "m", "I", false)
  | 2 => ("SlateKin$Tile", "wide", "I", false)
  | 3 => ("SlateKin$Tile", "nails", "I", false)
  | 4 => ("SlateKin$Tile", "leant", "I", false)
  | 5 => ("SlateKin$Tile", "age", "I", false)
  | _ => ("SlateKin$Tile", "cell", "I", false)
def tyX5 : Nat → FieldType := fun k => match k with
  | 0 => .int
  | 1 => .int
  | 2 => .int
  | 3 => .int
  | 4 => .int
  | 5 => .int
  | _ => .int
abbrev wsX50 : List Cond := u_ws RX5 TX5 7
theorem nmX5 : ∀ a, a < 7 → ∀ b, b < 7 → a ≠ b → (TX5 a).2.1 ≠ (TX5 b).2.1 := by decide +kernel
theorem tyX5_ok : ∀ k, k < 7 → parseFieldDescriptor (TX5 k).2.2.1 = some (tyX5 k) := by decide +kernel
abbrev cX5_init : ByteArray := prog_7_method_1_code
def yX5_init : MethodName := ⟨RX5, "<init>", "()V"⟩
abbrev cX5_kindAbove : ByteArray := prog_7_method_2_code
def yX5_kindAbove : MethodName := ⟨RX5, "kindAbove", "(I)I"⟩
abbrev cX5_begin : ByteArray := prog_7_method_3_code
def yX5_begin : MethodName := ⟨RX5, "begin", "(IIII)V"⟩
abbrev cX5_turn : ByteArray := prog_7_method_4_code
def yX5_turn : MethodName := ⟨RX5, "turn", "(I)V"⟩
abbrev cX5_copy : ByteArray := prog_7_method_5_code
def yX5_copy : MethodName := ⟨RX5, "copy", "(LSlateKin$Tile;)V"⟩
abbrev cX5_isUnder : ByteArray := prog_7_method_6_code
def yX5_isUnder : MethodName := ⟨RX5, "isUnder", "(I)Z"⟩
abbrev cX5_isLaid : ByteArray := prog_7_method_7_code
def yX5_isLaid : MethodName := ⟨RX5, "isLaid", "()Z"⟩
abbrev cX5_row : ByteArray := prog_7_method_8_code
def yX5_row : MethodName := ⟨RX5, "row", "()I"⟩
abbrev cX5_place : ByteArray := prog_7_method_9_code
def yX5_place : MethodName := ⟨RX5, "place", "()I"⟩
abbrev cX5_broad : ByteArray := prog_7_method_10_code
def yX5_broad : MethodName := ⟨RX5, "broad", "()I"⟩
abbrev cX5_holds : ByteArray := prog_7_method_11_code
def yX5_holds : MethodName := ⟨RX5, "holds", "(II)I"⟩
abbrev cX5_ownAt : ByteArray := prog_7_method_12_code
def yX5_ownAt : MethodName := ⟨RX5, "ownAt", "(I)J"⟩
abbrev cX5_own : ByteArray := prog_7_method_13_code
def yX5_own : MethodName := ⟨RX5, "own", "()J"⟩
def RX6 : String := "SlateKin"
def TX6 : u_T := fun k => match k with
  | 0 => ("SlateKin", "now", "LSlateKin$Roof;", true)
  | 1 => ("SlateKin", "kept", "LSlateKin$Roof;", true)
  | 2 => ("SlateKin", "timesKept", "I", false)
  | 3 => ("SlateKin", "reader", "LSlateKin$Reader;", true)
  | 4 => ("SlateKin", "choir", "LSlateKin$Choir;", true)
  | 5 => ("SlateKin", "sheets", "[LSlateKin$Sheet;", true)
  | _ => ("SlateKin", "errors", "[I", true)
def tyX6 : Nat → FieldType := fun k => match k with
  | 0 => .object "SlateKin$Roof"
  | 1 => .object "SlateKin$Roof"
  | 2 => .int
  | 3 => .object "SlateKin$Reader"
  | 4 => .object "SlateKin$Choir"
  | 5 => .array (.object "SlateKin$Sheet")
  | _ => .array .int
abbrev wsX60 : List Cond := u_ws RX6 TX6 7
theorem nmX6 : ∀ a, a < 7 → ∀ b, b < 7 → a ≠ b → (TX6 a).2.1 ≠ (TX6 b).2.1 := by decide +kernel
theorem tyX6_ok : ∀ k, k < 7 → parseFieldDescriptor (TX6 k).2.2.1 = some (tyX6 k) := by decide +kernel
abbrev cX6_init : ByteArray := prog_1_method_1_code
def yX6_init : MethodName := ⟨RX6, "<init>", "()V"⟩
abbrev cX6_slate : ByteArray := prog_1_method_2_code
def yX6_slate : MethodName := ⟨RX6, "slate", "(IIII)I"⟩
abbrev cX6_slateIs : ByteArray := prog_1_method_3_code
def yX6_slateIs : MethodName := ⟨RX6, "slateIs", "(II)I"⟩
abbrev cX6_become : ByteArray := prog_1_method_4_code
def yX6_become : MethodName := ⟨RX6, "become", "(II)I"⟩
abbrev cX6_as : ByteArray := prog_1_method_5_code
def yX6_as : MethodName := ⟨RX6, "as", "(II)I"⟩
abbrev cX6_lay : ByteArray := prog_1_method_6_code
def yX6_lay : MethodName := ⟨RX6, "lay", "(III)I"⟩
abbrev cX6_lift : ByteArray := prog_1_method_7_code
def yX6_lift : MethodName := ⟨RX6, "lift", "(I)I"⟩
abbrev cX6_nail : ByteArray := prog_1_method_8_code
def yX6_nail : MethodName := ⟨RX6, "nail", "(II)I"⟩
abbrev cX6_sells : ByteArray := prog_1_method_9_code
def yX6_sells : MethodName := ⟨RX6, "sells", "(I)I"⟩
abbrev cX6_feed : ByteArray := prog_1_method_10_code
def yX6_feed : MethodName := ⟨RX6, "feed", "(JI)I"⟩
abbrev cX6_text : ByteArray := prog_1_method_11_code
def yX6_text : MethodName := ⟨RX6, "text", "(I)I"⟩
abbrev cX6_untell : ByteArray := prog_1_method_12_code
def yX6_untell : MethodName := ⟨RX6, "untell", "(I)I"⟩
abbrev cX6_law : ByteArray := prog_1_method_13_code
def yX6_law : MethodName := ⟨RX6, "law", "(IIII)I"⟩
abbrev cX6_gale : ByteArray := prog_1_method_14_code
def yX6_gale : MethodName := ⟨RX6, "gale", "(I)I"⟩
abbrev cX6_years : ByteArray := prog_1_method_15_code
def yX6_years : MethodName := ⟨RX6, "years", "(I)I"⟩
abbrev cX6_loose : ByteArray := prog_1_method_16_code
def yX6_loose : MethodName := ⟨RX6, "loose", "(I)I"⟩
abbrev cX6_seed : ByteArray := prog_1_method_17_code
def yX6_seed : MethodName := ⟨RX6, "seed", "(I)I"⟩
abbrev cX6_dry : ByteArray := prog_1_method_18_code
def yX6_dry : MethodName := ⟨RX6, "dry", "(I)J"⟩
abbrev cX6_over : ByteArray := prog_1_method_19_code
def yX6_over : MethodName := ⟨RX6, "over", "(II)I"⟩
abbrev cX6_lifts : ByteArray := prog_1_method_20_code
def yX6_lifts : MethodName := ⟨RX6, "lifts", "(II)I"⟩
abbrev cX6_fast : ByteArray := prog_1_method_21_code
def yX6_fast : MethodName := ⟨RX6, "fast", "(II)I"⟩
abbrev cX6_best : ByteArray := prog_1_method_22_code
def yX6_best : MethodName := ⟨RX6, "best", "(II)I"⟩
abbrev cX6_rings : ByteArray := prog_1_method_23_code
def yX6_rings : MethodName := ⟨RX6, "rings", "()I"⟩
abbrev cX6_odds : ByteArray := prog_1_method_24_code
def yX6_odds : MethodName := ⟨RX6, "odds", "(II)I"⟩
abbrev cX6_fits : ByteArray := prog_1_method_25_code
def yX6_fits : MethodName := ⟨RX6, "fits", "(II)I"⟩
abbrev cX6_voice : ByteArray := prog_1_method_26_code
def yX6_voice : MethodName := ⟨RX6, "voice", "(III)I"⟩
abbrev cX6_body : ByteArray := prog_1_method_27_code
def yX6_body : MethodName := ⟨RX6, "body", "(I)I"⟩
abbrev cX6_sheet : ByteArray := prog_1_method_28_code
def yX6_sheet : MethodName := ⟨RX6, "sheet", "(III)I"⟩
abbrev cX6_put : ByteArray := prog_1_method_29_code
def yX6_put : MethodName := ⟨RX6, "put", "(III)I"⟩
abbrev cX6_move : ByteArray := prog_1_method_30_code
def yX6_move : MethodName := ⟨RX6, "move", "(IIIII)I"⟩
abbrev cX6_nailed : ByteArray := prog_1_method_31_code
def yX6_nailed : MethodName := ⟨RX6, "nailed", "(I)I"⟩
abbrev cX6_judge : ByteArray := prog_1_method_32_code
def yX6_judge : MethodName := ⟨RX6, "judge", "(I)I"⟩
abbrev cX6_image : ByteArray := prog_1_method_33_code
def yX6_image : MethodName := ⟨RX6, "image", "()I"⟩
abbrev cX6_restore : ByteArray := prog_1_method_34_code
def yX6_restore : MethodName := ⟨RX6, "restore", "()I"⟩
abbrev cX6_tell : ByteArray := prog_1_method_35_code
def yX6_tell : MethodName := ⟨RX6, "tell", "(I)I"⟩
abbrev cX6_check : ByteArray := prog_1_method_36_code
def yX6_check : MethodName := ⟨RX6, "check", "()I"⟩
abbrev cX6_count : ByteArray := prog_1_method_37_code
def yX6_count : MethodName := ⟨RX6, "count", "(I)I"⟩
abbrev cX6_told : ByteArray := prog_1_method_38_code
def yX6_told : MethodName := ⟨RX6, "told", "(I)I"⟩
abbrev cX6_error : ByteArray := prog_1_method_39_code
def yX6_error : MethodName := ⟨RX6, "error", "(I)I"⟩
abbrev cX6_isSlate : ByteArray := prog_1_method_40_code
def yX6_isSlate : MethodName := ⟨RX6, "isSlate", "(I)Z"⟩
abbrev cX6_isKindAndM : ByteArray := prog_1_method_41_code
def yX6_isKindAndM : MethodName := ⟨RX6, "isKindAndM", "(I)Z"⟩
abbrev cX6_isDigit : ByteArray := prog_1_method_42_code
def yX6_isDigit : MethodName := ⟨RX6, "isDigit", "(I)Z"⟩
abbrev cX6_isBit : ByteArray := prog_1_method_43_code
def yX6_isBit : MethodName := ⟨RX6, "isBit", "(I)Z"⟩
abbrev cX6_isUse : ByteArray := prog_1_method_44_code
def yX6_isUse : MethodName := ⟨RX6, "isUse", "(I)Z"⟩
abbrev cX6_isGale : ByteArray := prog_1_method_45_code
def yX6_isGale : MethodName := ⟨RX6, "isGale", "(I)Z"⟩
abbrev cX6_isCell : ByteArray := prog_1_method_46_code
def yX6_isCell : MethodName := ⟨RX6, "isCell", "(I)Z"⟩
abbrev cX6_isSheet : ByteArray := prog_1_method_47_code
def yX6_isSheet : MethodName := ⟨RX6, "isSheet", "(I)Z"⟩
abbrev cX6_commonDivisor : ByteArray := prog_1_method_48_code
def yX6_commonDivisor : MethodName := ⟨RX6, "commonDivisor", "(II)I"⟩
def RX7 : String := "SlateKinModel"
def TX7 : u_T := fun k => match k with
  | 0 => ("SlateKinModel", "s", "[I", true)
  | 1 => ("SlateKinModel", "kept", "[I", true)
  | 2 => ("SlateKinModel", "images", "I", false)
  | 3 => ("SlateKinModel", "errors", "[I", true)
  | 4 => ("SlateKinModel", "at", "I", false)
  | 5 => ("SlateKinModel", "open", "I", false)
  | 6 => ("SlateKinModel", "steps", "I", false)
  | 7 => ("SlateKinModel", "use", "I", false)
  | 8 => ("SlateKinModel", "step", "[I", true)
  | 9 => ("SlateKinModel", "named", "[I", true)
  | 10 => ("SlateKinModel", "pile", "[I", true)
  | 11 => ("SlateKinModel", "hold", "[I", true)
  | 12 => ("SlateKinModel", "traced", "I", false)
  | 13 => ("SlateKinModel", "trace", "[I", true)
  | 14 => ("SlateKinModel", "speaks", "I", false)
  | 15 => ("SlateKinModel", "isParted", "Z", false)
  | 16 => ("SlateKinModel", "bits", "[I", true)
  | 17 => ("SlateKinModel", "sizes", "[I", true)
  | 18 => ("SlateKinModel", "number", "[I", true)
  | _ => ("SlateKinModel", "aside", "[I", true)
def tyX7 : Nat → FieldType := fun k => match k with
  | 0 => .array .int
  | 1 => .array .int
  | 2 => .int
  | 3 => .array .int
  | 4 => .int
  | 5 => .int
  | 6 => .int
  | 7 => .int
  | 8 => .array .int
  | 9 => .array .int
  | 10 => .array .int
  | 11 => .array .int
  | 12 => .int
  | 13 => .array .int
  | 14 => .int
  | 15 => .boolean
  | 16 => .array .int
  | 17 => .array .int
  | 18 => .array .int
  | _ => .array .int
abbrev wsX70 : List Cond := u_ws RX7 TX7 20
theorem nmX7 : ∀ a, a < 20 → ∀ b, b < 20 → a ≠ b → (TX7 a).2.1 ≠ (TX7 b).2.1 := by decide +kernel
theorem tyX7_ok : ∀ k, k < 20 → parseFieldDescriptor (TX7 k).2.2.1 = some (tyX7 k) := by decide +kernel
abbrev cX7_init : ByteArray := prog_9_method_1_code
def yX7_init : MethodName := ⟨RX7, "<init>", "()V"⟩
abbrev cX7_error : ByteArray := prog_9_method_2_code
def yX7_error : MethodName := ⟨RX7, "error", "(I)I"⟩
abbrev cX7_in : ByteArray := prog_9_method_3_code
def yX7_in : MethodName := ⟨RX7, "in", "(III)Z"⟩
abbrev cX7_held : ByteArray := prog_9_method_4_code
def yX7_held : MethodName := ⟨RX7, "held", "(III)I"⟩
abbrev cX7_copyAll : ByteArray := prog_9_method_5_code
def yX7_copyAll : MethodName := ⟨RX7, "copyAll", "([I[I)V"⟩
abbrev cX7_isSlate : ByteArray := prog_9_method_6_code
def yX7_isSlate : MethodName := ⟨RX7, "isSlate", "(I)Z"⟩
abbrev cX7_its : ByteArray := prog_9_method_7_code
def yX7_its : MethodName := ⟨RX7, "its", "(II)I"⟩
abbrev cX7_lays1 : ByteArray := prog_9_method_8_code
def yX7_lays1 : MethodName := ⟨RX7, "lays1", "(III)V"⟩
abbrev cX7_change1 : ByteArray := prog_9_method_9_code
def yX7_change1 : MethodName := ⟨RX7, "change1", "(II)I"⟩
abbrev cX7_feed : ByteArray := prog_9_method_10_code
def yX7_feed : MethodName := ⟨RX7, "feed", "(JI)I"⟩
abbrev cX7_look : ByteArray := prog_9_method_11_code
def yX7_look : MethodName := ⟨RX7, "look", "()I"⟩
abbrev cX7_isName : ByteArray := prog_9_method_12_code
def yX7_isName : MethodName := ⟨RX7, "isName", "(I)Z"⟩
abbrev cX7_step1 : ByteArray := prog_9_method_13_code
def yX7_step1 : MethodName := ⟨RX7, "step1", "(II)V"⟩
abbrev cX7_whole : ByteArray := prog_9_method_14_code
def yX7_whole : MethodName := ⟨RX7, "whole", "()Z"⟩
abbrev cX7_both : ByteArray := prog_9_method_15_code
def yX7_both : MethodName := ⟨RX7, "both", "()Z"⟩
abbrev cX7_compared : ByteArray := prog_9_method_16_code
def yX7_compared : MethodName := ⟨RX7, "compared", "()Z"⟩
abbrev cX7_sum : ByteArray := prog_9_method_17_code
def yX7_sum : MethodName := ⟨RX7, "sum", "()Z"⟩
abbrev cX7_product : ByteArray := prog_9_method_18_code
def yX7_product : MethodName := ⟨RX7, "product", "()Z"⟩
abbrev cX7_opens : ByteArray := prog_9_method_19_code
def yX7_opens : MethodName := ⟨RX7, "opens", "()Z"⟩
abbrev cX7_one : ByteArray := prog_9_method_20_code
def yX7_one : MethodName := ⟨RX7, "one", "()Z"⟩
abbrev cX7_hasText : ByteArray := prog_9_method_21_code
def yX7_hasText : MethodName := ⟨RX7, "hasText", "(I)Z"⟩
abbrev cX7_text : ByteArray := prog_9_method_22_code
def yX7_text : MethodName := ⟨RX7, "text", "(I)I"⟩
abbrev cX7_untell : ByteArray := prog_9_method_23_code
def yX7_untell : MethodName := ⟨RX7, "untell", "(I)I"⟩
abbrev cX7_joined : ByteArray := prog_9_method_24_code
def yX7_joined : MethodName := ⟨RX7, "joined", "(III)I"⟩
abbrev cX7_worked : ByteArray := prog_9_method_25_code
def yX7_worked : MethodName := ⟨RX7, "worked", "(I)I"⟩
abbrev cX7_broad : ByteArray := prog_9_method_26_code
def yX7_broad : MethodName := ⟨RX7, "broad", "(I)I"⟩
abbrev cX7_holdsOf : ByteArray := prog_9_method_27_code
def yX7_holdsOf : MethodName := ⟨RX7, "holdsOf", "(I)I"⟩
abbrev cX7_holdTold : ByteArray := prog_9_method_28_code
def yX7_holdTold : MethodName := ⟨RX7, "holdTold", "(III)I"⟩
abbrev cX7_dropTold : ByteArray := prog_9_method_29_code
def yX7_dropTold : MethodName := ⟨RX7, "dropTold", "(III)I"⟩
abbrev cX7_holdOf : ByteArray := prog_9_method_30_code
def yX7_holdOf : MethodName := ⟨RX7, "holdOf", "(II)I"⟩
abbrev cX7_ownAt : ByteArray := prog_9_method_31_code
def yX7_ownAt : MethodName := ⟨RX7, "ownAt", "(II)J"⟩
abbrev cX7_own : ByteArray := prog_9_method_32_code
def yX7_own : MethodName := ⟨RX7, "own", "(I)J"⟩
abbrev cX7_covers : ByteArray := prog_9_method_33_code
def yX7_covers : MethodName := ⟨RX7, "covers", "(I)J"⟩
abbrev cX7_drySet : ByteArray := prog_9_method_34_code
def yX7_drySet : MethodName := ⟨RX7, "drySet", "()J"⟩
abbrev cX7_bitsOf : ByteArray := prog_9_method_35_code
def yX7_bitsOf : MethodName := ⟨RX7, "bitsOf", "(J)I"⟩
abbrev cX7_mayLie : ByteArray := prog_9_method_36_code
def yX7_mayLie : MethodName := ⟨RX7, "mayLie", "(II)Z"⟩
abbrev cX7_findHolds : ByteArray := prog_9_method_37_code
def yX7_findHolds : MethodName := ⟨RX7, "findHolds", "(I)V"⟩
abbrev cX7_liftedBy : ByteArray := prog_9_method_38_code
def yX7_liftedBy : MethodName := ⟨RX7, "liftedBy", "(II)I"⟩
abbrev cX7_galeNow : ByteArray := prog_9_method_39_code
def yX7_galeNow : MethodName := ⟨RX7, "galeNow", "(I)I"⟩
abbrev cX7_dryBehind : ByteArray := prog_9_method_40_code
def yX7_dryBehind : MethodName := ⟨RX7, "dryBehind", "(I)J"⟩
abbrev cX7_aYear : ByteArray := prog_9_method_41_code
def yX7_aYear : MethodName := ⟨RX7, "aYear", "()V"⟩
abbrev cX7_draw : ByteArray := prog_9_method_42_code
def yX7_draw : MethodName := ⟨RX7, "draw", "()I"⟩
abbrev cX7_isKind : ByteArray := prog_9_method_43_code
def yX7_isKind : MethodName := ⟨RX7, "isKind", "(I)Z"⟩
abbrev cX7_slate : ByteArray := prog_9_method_44_code
def yX7_slate : MethodName := ⟨RX7, "slate", "(IIII)I"⟩
abbrev cX7_slateIs : ByteArray := prog_9_method_45_code
def yX7_slateIs : MethodName := ⟨RX7, "slateIs", "(II)I"⟩
abbrev cX7_become : ByteArray := prog_9_method_46_code
def yX7_become : MethodName := ⟨RX7, "become", "(II)I"⟩
abbrev cX7_as : ByteArray := prog_9_method_47_code
def yX7_as : MethodName := ⟨RX7, "as", "(II)I"⟩
abbrev cX7_lay : ByteArray := prog_9_method_48_code
def yX7_lay : MethodName := ⟨RX7, "lay", "(III)I"⟩
abbrev cX7_lift : ByteArray := prog_9_method_49_code
def yX7_lift : MethodName := ⟨RX7, "lift", "(I)I"⟩
abbrev cX7_nail : ByteArray := prog_9_method_50_code
def yX7_nail : MethodName := ⟨RX7, "nail", "(II)I"⟩
abbrev cX7_sells : ByteArray := prog_9_method_51_code
def yX7_sells : MethodName := ⟨RX7, "sells", "(I)I"⟩
abbrev cX7_law : ByteArray := prog_9_method_52_code
def yX7_law : MethodName := ⟨RX7, "law", "(IIII)I"⟩
abbrev cX7_isGale : ByteArray := prog_9_method_53_code
def yX7_isGale : MethodName := ⟨RX7, "isGale", "(I)Z"⟩
abbrev cX7_gale : ByteArray := prog_9_method_54_code
def yX7_gale : MethodName := ⟨RX7, "gale", "(I)I"⟩
abbrev cX7_whyNot : ByteArray := prog_9_method_55_code
def yX7_whyNot : MethodName := ⟨RX7, "whyNot", "(II)I"⟩
abbrev cX7_years : ByteArray := prog_9_method_56_code
def yX7_years : MethodName := ⟨RX7, "years", "(I)I"⟩
abbrev cX7_loose : ByteArray := prog_9_method_57_code
def yX7_loose : MethodName := ⟨RX7, "loose", "(I)I"⟩
abbrev cX7_seed : ByteArray := prog_9_method_58_code
def yX7_seed : MethodName := ⟨RX7, "seed", "(I)I"⟩
abbrev cX7_dry : ByteArray := prog_9_method_59_code
def yX7_dry : MethodName := ⟨RX7, "dry", "(I)J"⟩
abbrev cX7_coveredBy : ByteArray := prog_9_method_60_code
def yX7_coveredBy : MethodName := ⟨RX7, "coveredBy", "(JI)I"⟩
abbrev cX7_over : ByteArray := prog_9_method_61_code
def yX7_over : MethodName := ⟨RX7, "over", "(II)I"⟩
abbrev cX7_lifts : ByteArray := prog_9_method_62_code
def yX7_lifts : MethodName := ⟨RX7, "lifts", "(II)I"⟩
abbrev cX7_fast : ByteArray := prog_9_method_63_code
def yX7_fast : MethodName := ⟨RX7, "fast", "(II)I"⟩
abbrev cX7_best : ByteArray := prog_9_method_64_code
def yX7_best : MethodName := ⟨RX7, "best", "(II)I"⟩
abbrev cX7_isBeside : ByteArray := prog_9_method_65_code
def yX7_isBeside : MethodName := ⟨RX7, "isBeside", "(II)Z"⟩
abbrev cX7_rings : ByteArray := prog_9_method_66_code
def yX7_rings : MethodName := ⟨RX7, "rings", "()I"⟩
abbrev cX7_divisor : ByteArray := prog_9_method_67_code
def yX7_divisor : MethodName := ⟨RX7, "divisor", "(II)I"⟩
abbrev cX7_odds : ByteArray := prog_9_method_68_code
def yX7_odds : MethodName := ⟨RX7, "odds", "(II)I"⟩
abbrev cX7_fits : ByteArray := prog_9_method_69_code
def yX7_fits : MethodName := ⟨RX7, "fits", "(II)I"⟩
abbrev cX7_starts : ByteArray := prog_9_method_70_code
def yX7_starts : MethodName := ⟨RX7, "starts", "(I)V"⟩
abbrev cX7_above : ByteArray := prog_9_method_71_code
def yX7_above : MethodName := ⟨RX7, "above", "(I)I"⟩
abbrev cX7_kindNow : ByteArray := prog_9_method_72_code
def yX7_kindNow : MethodName := ⟨RX7, "kindNow", "()I"⟩
abbrev cX7_mNow : ByteArray := prog_9_method_73_code
def yX7_mNow : MethodName := ⟨RX7, "mNow", "()I"⟩
abbrev cX7_dripsAs : ByteArray := prog_9_method_74_code
def yX7_dripsAs : MethodName := ⟨RX7, "dripsAs", "(II)I"⟩
abbrev cX7_ringsAs : ByteArray := prog_9_method_75_code
def yX7_ringsAs : MethodName := ⟨RX7, "ringsAs", "(II)I"⟩
abbrev cX7_creaksAs : ByteArray := prog_9_method_76_code
def yX7_creaksAs : MethodName := ⟨RX7, "creaksAs", "(II)I"⟩
abbrev cX7_partsAs : ByteArray := prog_9_method_77_code
def yX7_partsAs : MethodName := ⟨RX7, "partsAs", "(II)I"⟩
abbrev cX7_voice : ByteArray := prog_9_method_78_code
def yX7_voice : MethodName := ⟨RX7, "voice", "(III)I"⟩
abbrev cX7_body : ByteArray := prog_9_method_79_code
def yX7_body : MethodName := ⟨RX7, "body", "(I)I"⟩
abbrev cX7_isSheet : ByteArray := prog_9_method_80_code
def yX7_isSheet : MethodName := ⟨RX7, "isSheet", "(I)Z"⟩
abbrev cX7_sheet : ByteArray := prog_9_method_81_code
def yX7_sheet : MethodName := ⟨RX7, "sheet", "(III)I"⟩
abbrev cX7_put : ByteArray := prog_9_method_82_code
def yX7_put : MethodName := ⟨RX7, "put", "(III)I"⟩
abbrev cX7_move : ByteArray := prog_9_method_83_code
def yX7_move : MethodName := ⟨RX7, "move", "(IIIII)I"⟩
abbrev cX7_lacks : ByteArray := prog_9_method_84_code
def yX7_lacks : MethodName := ⟨RX7, "lacks", "(I)I"⟩
abbrev cX7_nailed : ByteArray := prog_9_method_85_code
def yX7_nailed : MethodName := ⟨RX7, "nailed", "(I)I"⟩
abbrev cX7_judge : ByteArray := prog_9_method_86_code
def yX7_judge : MethodName := ⟨RX7, "judge", "(I)I"⟩
abbrev cX7_image : ByteArray := prog_9_method_87_code
def yX7_image : MethodName := ⟨RX7, "image", "()I"⟩
abbrev cX7_restore : ByteArray := prog_9_method_88_code
def yX7_restore : MethodName := ⟨RX7, "restore", "()I"⟩
abbrev cX7_tell : ByteArray := prog_9_method_89_code
def yX7_tell : MethodName := ⟨RX7, "tell", "(I)I"⟩
abbrev cX7_check : ByteArray := prog_9_method_90_code
def yX7_check : MethodName := ⟨RX7, "check", "()I"⟩
abbrev cX7_count : ByteArray := prog_9_method_91_code
def yX7_count : MethodName := ⟨RX7, "count", "(I)I"⟩
abbrev cX7_told : ByteArray := prog_9_method_92_code
def yX7_told : MethodName := ⟨RX7, "told", "(I)I"⟩
def RJ6 : String := "java/lang/Integer"
abbrev cJ6_numberOfTrailingZeros_0f7a4 : ByteArray := prog_10_method_48_code
def yJ6_numberOfTrailingZeros_0f7a4 : MethodName := ⟨RJ6, "numberOfTrailingZeros", "(I)I"⟩
abbrev cJ6_bitCount_0f7a4 : ByteArray := prog_10_method_49_code
def yJ6_bitCount_0f7a4 : MethodName := ⟨RJ6, "bitCount", "(I)I"⟩
def RJ13 : String := "java/lang/Long"
abbrev cJ13_numberOfTrailingZeros_95d88 : ByteArray := prog_11_method_49_code
def yJ13_numberOfTrailingZeros_95d88 : MethodName := ⟨RJ13, "numberOfTrailingZeros", "(J)I"⟩
abbrev cJ13_bitCount_95d88 : ByteArray := prog_11_method_50_code
def yJ13_bitCount_95d88 : MethodName := ⟨RJ13, "bitCount", "(J)I"⟩
def RJ9 : String := "java/lang/Math"
abbrev cJ9_max_7cf53 : ByteArray := prog_12_method_65_code
def yJ9_max_7cf53 : MethodName := ⟨RJ9, "max", "(II)I"⟩
abbrev cJ9_min_7cf53 : ByteArray := prog_12_method_69_code
def yJ9_min_7cf53 : MethodName := ⟨RJ9, "min", "(II)I"⟩
def RJ10 : String := "java/lang/System"
def RL : String := "SlateKinLaw"
abbrev cL_law : ByteArray := code
def yL_law : MethodName := ⟨RL, "law", "([I)Z"⟩
abbrev vwCl : List vw_C := [(RX0, TX0, 6), (RX1, TX1, 5), (RX2, TX2, 6), (RX3, TX3, 11), (RX4, TX4, 3), (RX5, TX5, 7), (RX6, TX6, 7), (RX7, TX7, 20)]
end
section
/-! ===== a pure judgement over the machine: a world of cells 0, 1, .. of fixed shapes, their numbers τ; references are places ===== -/
def sk_ALL : List Cond := lw_tbl.filter goodWord
theorem sk_tin {w : Cond} (i : Nat) (h : tables_1[i]? = some w) (hg : goodWord w = true) : w ∈ sk_ALL := by
  unfold sk_ALL lw_tbl
  exact List.mem_filter.mpr ⟨List.mem_append_right _ (List.mem_of_getElem? h), hg⟩
theorem sk_sin {w : Cond} (i : Nat) (h : (k2_sels lw_privs)[i]? = some w) (hg : goodWord w = true) : w ∈ sk_ALL := by
  unfold sk_ALL lw_tbl
  exact List.mem_filter.mpr ⟨List.mem_append_left _ (List.mem_of_getElem? h), hg⟩
theorem sk_good : ∀ w ∈ sk_ALL, goodWord w = true := fun w h => (List.mem_filter.mp h).2
theorem sk_goodIn : GoodIn sk_ALL sk_ALL := fun w h => ⟨h, good_of_word (sk_good w h)⟩
theorem sk_in_tbl : ∀ w ∈ sk_ALL, w ∈ lw_tbl := fun w h => (List.mem_filter.mp h).1
def sk_isN (w : Cond) : Bool := match w with
  | .fieldLinkNest .. => true
  | .methodLinkNest .. => true
  | _ => false
/-- the links between nest mates -/
def sk_NL : List Cond := tables_1.filter sk_isN
theorem sk_nin {w : Cond} (i : Nat) (h : tables_1[i]? = some w) (hg : sk_isN w = true) : w ∈ sk_NL := List.mem_filter.mpr ⟨List.mem_of_getElem? h, hg⟩
def sk_NW (U : State) : Prop := ∀ w ∈ sk_NL, va_Nw w U
theorem sk_isN_tab {w : Cond} (h : sk_isN w = true) : w.onTables = true := by
  cases w <;> first | rfl | (simp [sk_isN] at h)
theorem sk_NW.same {u U : State} (h : u.vm = U.vm) (hZ : sk_NW u) : sk_NW U := fun w hw => (hZ w hw).same (sk_isN_tab (List.mem_filter.mp hw).2) h
theorem sk_NW.warm {s U : State} (hW : s.WarmedH U.vm) (hZ : sk_NW s) : sk_NW U := by
  intro w hw
  have h1 := hZ w hw
  have h2 := (List.mem_filter.mp hw).2
  cases w <;> first | exact va_Nw.warmF hW h1 | exact va_Nw.warmM hW h1 | (simp [sk_isN] at h2)
theorem sk_NW.of {args : Array Value} {s : State} (h : ∀ w ∈ tables_1, w.before args s = true) : sk_NW s := fun w hw => va_Nw.of (sk_isN_tab (List.mem_filter.mp hw).2) (h w (List.mem_filter.mp hw).1)
abbrev sk_T : Type := Nat → Nat → Int32
abbrev sk_Sh : Type := Nat × Nat × List Nat
abbrev sk_M : Type := MethodName × ByteArray × Nat × Option FieldType
abbrev sk_K : Type := Option Value → sk_T → Prop
abbrev sk_L : Type := List (Nat × Value)
def sk_ush (x y : Int32) : Int32 := (x.toUInt32 >>> (y.toUInt32 &&& Int32.toUInt32 31)).toInt32
def sk_lush (x : Int64) (y : Int32) : Int64 := (x.toUInt64 >>> (y.toInt64.toUInt64 &&& Int64.toUInt64 63)).toInt64
/-- cell a becomes f -/
def sk_w (τ : sk_T) (a : Nat) (f : Nat → Int32) : sk_T := fun b => if b = a then f else τ b
/-- number j of cell a becomes x -/
def sk_u (τ : sk_T) (a j : Nat) (x : Int32) : sk_T := sk_w τ a (upd (τ a) j x)
def sk_vm (ad : Nat → Nat) : Value → Value
  | .ref k => .ref (ad k)
  | v => v
def sk_lm (ad : Nat → Nat) (l : sk_L) : sk_L := l.map (fun q => (q.1, sk_vm ad q.2))
def sk_v (ad : Nat → Nat) (x : Int32) (c : Nat) : Value := match c with
  | 0 => .int x
  | 1 => .int (x &&& 1)
  | r + 2 => .ref (ad r)
def sk_fs (ad : Nat → Nat) (f : Nat → Int32) : List Nat → Nat → List Value
  | [], _ => []
  | c :: cs, j => sk_v ad (f j) c :: sk_fs ad f cs (j + 1)
/-- what a cell of a shape holds: (0, class, slots: 0 int, 1 boolean, r + 2 the cell r); (1, n) ints; (2, n) bytes; (3, 4, 5: tiles, laws, sheets; n; which cells) -/
def sk_e (ad : Nat → Nat) (cA : Nat → ClassId) (f : Nat → Int32) (h : sk_Sh) : va_E := match h with
  | (0, ci, cs) => .inr (ci, sk_fs ad f cs 0)
  | (1, n, _) => .inl (cA 0, n, .inl f)
  | (2, n, _) => .inl (cA 1, n, .inl (fun j => vp_nar .byte (f j)))
  | (t + 3, n, rs) => .inl (cA (t + 2), n, .inr (.inr (.inr (.inr (fun j => (rs[j]?).map ad)))))
def sk_wl (S : List sk_Sh) (ad : Nat → Nat) (cA : Nat → ClassId) (τ : sk_T) : va_W := S.mapIdx (fun k h => (ad k, sk_e ad cA (τ k) h))
def sk_tys (cA : Nat → ClassId) : List (ClassId × FieldType) := [(cA 0, .int), (cA 1, .byte), (cA 2, .object "SlateKin$Tile"), (cA 3, .object "SlateKin$Law"), (cA 4, .object "SlateKin$Sheet")]
def sk_above (j : Nat) : Int32 := ([-1, 0, 0, 0, 1, 2, 0] : List Int32).getD j 0
def sk_names (j : Nat) : Int32 := ([104, 110, 103, 114, 99, 121] : List Int32).getD j 0
def sk_bodies (j : Nat) : Int32 := ([10, 11, 12, 13, 20, 0, 0, 21, 0, 30, 0, 0, 0, 0, 40, 0, 50, 0, 51, 0, 0, 60, 0, 0, 70, 71, 0, 0] : List Int32).getD j 0
/-- the three static rows: at places 1000, 1001, 1002; nobody writes them -/
def sk_Ro (ad : Nat → Nat) (A : Nat → Prop) (U : State) (H : Heap) : Prop :=
  (va_Z "SlateKin$Tile" "ABOVE" "[I" (.ref (ad 1000)) A U H ∧ va_T .int (ad 1000) 7 (fun j => .int (sk_above j)) A U H) ∧
  (va_Z "SlateKin$Reader" "NAMES" "[C" (.ref (ad 1001)) A U H ∧ va_T .char (ad 1001) 6 (fun j => .int (sk_names j)) A U H) ∧
  (va_Z "SlateKin$Choir" "BODIES" "[I" (.ref (ad 1002)) A U H ∧ va_T .int (ad 1002) 28 (fun j => .int (sk_bodies j)) A U H)
theorem sk_Ro.moved {ad : Nat → Nat} {A : Nat → Prop} {u U : State} {H : Heap} (hvm : u.vm.Alike U.vm) (h : sk_Ro ad A u H) : sk_Ro ad A U H :=
  ⟨⟨h.1.1.moved hvm, h.1.2.moved hvm⟩, ⟨h.2.1.1.moved hvm, h.2.1.2.moved hvm⟩, ⟨h.2.2.1.moved hvm, h.2.2.2.moved hvm⟩⟩
theorem sk_Ro.kept {ad : Nat → Nat} {A : Nat → Prop} {U : State} {H H1 : Heap} (h : sk_Ro ad A U H) (hq : ∀ a : Nat, a < H.size → ¬ A a → H1[a]? = H[a]?) : sk_Ro ad A U H1 :=
  ⟨⟨h.1.1.kept hq, h.1.2.kept hq⟩, ⟨h.2.1.1.kept hq, h.2.1.2.kept hq⟩, ⟨h.2.2.1.kept hq, h.2.2.2.kept hq⟩⟩
def sk_Wd (S : List sk_Sh) (ad : Nat → Nat) (cA : Nat → ClassId) (D : va_G) (A : Nat → Prop) (τ : sk_T) (U : State) : Prop :=
  va_P D vwCl (sk_wl S ad cA τ) U.heap ∧ va_K D vwCl (sk_tys cA) U ∧ va_D A (sk_wl S ad cA τ) ∧ sk_Ro ad A U U.heap
def sk_Qc (S : List sk_Sh) (ad : Nat → Nat) (cA : Nat → ClassId) (D : va_G) (A : Nat → Prop) (K : sk_K) : Array Value → State → Outcome → State → Prop :=
  fun _ st o t => ∃ (v : Option Value) (τ : sk_T), o = .returned (v.map (sk_vm ad)) ∧ K v τ ∧ sk_Wd S ad cA D A τ t ∧ va_F A st t
def sk_ws (M : sk_M) : List Cond := .code M.1 M.2.1 M.2.2.1 M.2.2.2 :: sk_ALL
def sk_rm (d : Nat) : Room := { frames := d, cells := 0, slots := 0, locals := 40 * d }
/-- a method called with these arguments in this world comes back, and K holds of its answer and the world then -/
def sk_C (S : List sk_Sh) (d : Nat) (M : sk_M) (vs : List Value) (τ : sk_T) (K : sk_K) : Prop :=
  ∀ (l : Launch) (ad : Nat → Nat) (cA : Nat → ClassId) (D : va_G) (A : Nat → Prop), Met l M.1 (sk_ws M) (sk_rm d) (va_Pc (vs.map (sk_vm ad)) (fun U => sk_Wd S ad cA D A τ U ∧ sk_NW U)) (sk_Qc S ad cA D A K) 0 0 A
def sk_X (S : List sk_Sh) (M : sk_M) (p : Program) (s : State) (m : MethodId) (args : Array Value) (meth : Method) (c : Code) (H : Heap) (locs : List Loc) (ls : Array Slot) (ad : Nat → Nat) (cA : Nat → ClassId) (D : va_G) (A : Nat → Prop) (lv : sk_L) (τ : sk_T) : Prop :=
  p.tables.exec = Jvm.exec ∧ c.code = M.2.1 ∧ c.maxLocals = M.2.2.1 ∧ meth.sig.returnType = M.2.2.2 ∧ meth.locks = false ∧ s.vm.findClass M.1.cls = some m.cls ∧ (∀ w ∈ sk_ALL, w.before args s = true) ∧
  va_P D vwCl (sk_wl S ad cA τ) H ∧ va_K D vwCl (sk_tys cA) s ∧ va_D A (sk_wl S ad cA τ) ∧ va_S A s.heap H locs ∧ (sk_Ro ad A s s.heap ∧ sk_NW s) ∧ lv_has ls M.2.2.1 (sk_lm ad lv)
/-- from here on (pc, locals, operands, numbers) the method comes to its end, and K holds then -/
def sk_G (S : List sk_Sh) (d : Nat) (M : sk_M) (pc : Nat) (lv : sk_L) (st : List Value) (τ : sk_T) (K : sk_K) : Prop :=
  ∀ (p : Program) (l : Launch) (e : Env) (s : State) (m : MethodId) (args : Array Value) (below : List Frame) (meth : Method) (c : Code) (H : Heap) (locs : List Loc) (ls : Array Slot) (ad : Nat → Nat) (cA : Nat → ClassId) (D : va_G) (A : Nat → Prop),
    sk_X S M p s m args meth c H locs ls ad cA D A lv τ → W p l e (sk_rm d) s m args below meth c H locs 0 0 (MQ below (sk_Qc S ad cA D A K) args s 0 0 A) (F0 m pc ls (st.map (sk_vm ad)))
/-- what is known of a method -/
def sk_MF (M : sk_M) (n : Nat) : Prop := Cond.code M.1 M.2.1 M.2.2.1 M.2.2.2 ∈ sk_ALL ∧ Cond.initialized M.1.cls ∈ sk_ALL ∧ plainName M.1.cls = true ∧ M.1.cls ≠ "java/lang/invoke/MethodHandle" ∧ M.1.cls ≠ "java/lang/invoke/VarHandle" ∧ (parseMethodDescriptor M.1.desc).map (fun d => d.parameters.length) = some n ∧ M.2.2.1 ≤ 21
/-- a field: slot k of class ci, named in class own's pool at idx -/
def sk_LF (own : String) (idx ci k : Nat) : Prop := ∃ (C : String) (T : u_T) (N : Nat), vwCl[ci]? = some (C, T, N) ∧ k < N ∧ (∀ w ∈ u_ws C T N, w ∈ sk_ALL) ∧ (Cond.fieldLink own idx (T k).1 (T k).2.1 (T k).2.2.1 ∈ sk_ALL ∨ ∃ host, Cond.fieldLinkNest own idx (T k).1 (T k).2.1 (T k).2.2.1 host ∈ sk_NL)
/-- .. that may be written, of a type -/
def sk_LP (own : String) (idx ci k : Nat) (ty : FieldType) : Prop := ∃ (C : String) (T : u_T) (N : Nat), vwCl[ci]? = some (C, T, N) ∧ k < N ∧ (∀ w ∈ u_ws C T N, w ∈ sk_ALL) ∧ (Cond.fieldLink own idx (T k).1 (T k).2.1 (T k).2.2.1 ∈ sk_ALL ∨ ∃ host, Cond.fieldLinkNest own idx (T k).1 (T k).2.1 (T k).2.2.1 host ∈ sk_NL) ∧
  (∃ ty0 : Nat → FieldType, ∀ k, k < N → parseFieldDescriptor (T k).2.2.1 = some (ty0 k)) ∧ (∀ a, a < N → ∀ b, b < N → a ≠ b → (T a).2.1 ≠ (T b).2.1) ∧ (T k).2.2.2 = false ∧ parseFieldDescriptor (T k).2.2.1 = some ty
theorem sk_vm_cat (ad : Nat → Nat) (v : Value) : (sk_vm ad v).category = v.category := by cases v <;> rfl
theorem sk_wl_at {S : List sk_Sh} {ad : Nat → Nat} {cA : Nat → ClassId} {τ : sk_T} {k : Nat} {h : sk_Sh} (hs : S[k]? = some h) : (sk_wl S ad cA τ)[k]? = some (ad k, sk_e ad cA (τ k) h) := by
  unfold sk_wl
  rw [List.getElem?_mapIdx, hs]; rfl
theorem sk_wl_set {S : List sk_Sh} {ad : Nat → Nat} {cA : Nat → ClassId} {τ : sk_T} {k : Nat} {h : sk_Sh} (hs : S[k]? = some h) (f : Nat → Int32) : (sk_wl S ad cA τ).set k (ad k, sk_e ad cA f h) = sk_wl S ad cA (sk_w τ k f) := by
  apply List.ext_getElem?
  intro i
  unfold sk_wl
  rw [List.getElem?_set, List.getElem?_mapIdx, List.getElem?_mapIdx, List.length_mapIdx]
  have hk : k < S.length := (List.getElem?_eq_some_iff.mp hs).1
  by_cases e : k = i
  · subst e
    rw [if_pos rfl, if_pos hk, hs]
    simp [sk_w]
  · rw [if_neg e]
    have e2 : ¬ i = k := fun z => e z.symm
    simp [sk_w, e2]
theorem sk_fs_at {ad : Nat → Nat} {f : Nat → Int32} : ∀ {cs : List Nat} {j i c : Nat}, cs[j]? = some c → (sk_fs ad f cs i)[j]? = some (sk_v ad (f (i + j)) c)
  | [], j, i, c, h => by simp at h
  | c0 :: cs, 0, i, c, h => by simp at h; subst h; rfl
  | c0 :: cs, j + 1, i, c, h => by
    have h2 := sk_fs_at (ad := ad) (f := f) (cs := cs) (j := j) (i := i + 1) (c := c) (by simpa using h)
    rw [show i + 1 + j = i + (j + 1) by omega] at h2
    simpa [sk_fs] using h2
theorem sk_fs_len {ad : Nat → Nat} {f : Nat → Int32} : ∀ {cs : List Nat} {i : Nat}, (sk_fs ad f cs i).length = cs.length
  | [], i => rfl
  | c0 :: cs, i => by simp [sk_fs, sk_fs_len]
theorem sk_fs_low {ad : Nat → Nat} {f : Nat → Int32} {k : Nat} {x : Int32} : ∀ {cs : List Nat} {i : Nat}, k < i → sk_fs ad (upd f k x) cs i = sk_fs ad f cs i
  | [], i, _ => rfl
  | c0 :: cs, i, h => by
    have e : ¬ i = k := by omega
    simp [sk_fs, upd, e]
    exact sk_fs_low (by omega)
theorem sk_fs_set {ad : Nat → Nat} {f : Nat → Int32} {x : Int32} {v : Value} : ∀ {cs : List Nat} {j i c : Nat}, cs[j]? = some c → sk_v ad x c = v → (sk_fs ad f cs i).set j v = sk_fs ad (upd f (i + j) x) cs i
  | [], j, i, c, h, _ => by simp at h
  | c0 :: cs, 0, i, c, h, hv => by
    simp at h; subst h
    simp only [sk_fs, List.set_cons_zero, Nat.add_zero]
    rw [show upd f i x i = x by simp [upd], hv, sk_fs_low (Nat.lt_succ_self i)]
  | c0 :: cs, j + 1, i, c, h, hv => by
    have h2 := sk_fs_set (ad := ad) (f := f) (x := x) (v := v) (cs := cs) (j := j) (i := i + 1) (c := c) (by simpa using h) hv
    rw [show i + 1 + j = i + (j + 1) by omega] at h2
    simp only [sk_fs, List.set_cons_succ]
    rw [h2]
    have e : ¬ i = i + (j + 1) := by omega
    simp [upd, e]
theorem sk_lm_at {ad : Nat → Nat} {l : sk_L} {ls : Array Slot} {nL k i : Nat} {v : Value} (h : lv_has ls nL (sk_lm ad l)) (hk : l[k]? = some (i, v)) : ls[i]? = some (.val (sk_vm ad v)) :=
  lv_at h k (by unfold sk_lm; rw [List.getElem?_map, hk]; rfl)
theorem sk_lm_filter {ad : Nat → Nat} {P : Nat → Nat → Bool} (l : sk_L) : (sk_lm ad l).filter (fun q => P q.1 q.2.category) = sk_lm ad (l.filter (fun q => P q.1 q.2.category)) := by
  unfold sk_lm
  rw [List.filter_map]
  congr 1
  apply List.filter_congr
  intro q _
  simp [sk_vm_cat]
/-- a category 1 value put into local i -/
def sk_st1 (l : sk_L) (i : Nat) (v : Value) : sk_L := (i, v) :: l.filter (fun q => !(q.1 == i) && !(q.1 + 1 == i && q.2.category == 2))
def sk_st2 (l : sk_L) (i : Nat) (v : Value) : sk_L := (i, v) :: l.filter (fun q => !(q.1 == i) && (!(q.1 == i + 1) && !(q.1 + 1 == i && q.2.category == 2)))
theorem sk_st1_m {ad : Nat → Nat} (l : sk_L) (i : Nat) (v : Value) : (i, sk_vm ad v) :: (sk_lm ad l).filter (fun q => !(q.1 == i) && !(q.1 + 1 == i && q.2.category == 2)) = sk_lm ad (sk_st1 l i v) := by
  rw [sk_lm_filter (P := fun a b => !(a == i) && !(a + 1 == i && b == 2))]; rfl
theorem sk_st2_m {ad : Nat → Nat} (l : sk_L) (i : Nat) (v : Value) : (i, sk_vm ad v) :: (sk_lm ad l).filter (fun q => !(q.1 == i) && (!(q.1 == i + 1) && !(q.1 + 1 == i && q.2.category == 2))) = sk_lm ad (sk_st2 l i v) := by
  rw [sk_lm_filter (P := fun a b => !(a == i) && (!(a == i + 1) && !(a + 1 == i && b == 2)))]; rfl
theorem sk_args_m {ad : Nat → Nat} : ∀ (vs : List Value) (i : Nat), lv_args i (vs.map (sk_vm ad)) = sk_lm ad (lv_args i vs)
  | [], i => rfl
  | v :: vs, i => by
    show (i, sk_vm ad v) :: lv_args (if (sk_vm ad v).category = 2 then i + 2 else i + 1) (vs.map (sk_vm ad)) = _
    rw [sk_vm_cat, sk_args_m vs]; rfl
theorem sk_sl_len {ad : Nat → Nat} : ∀ (vs : List Value), (lg_sl (vs.map (sk_vm ad))).length = (lg_sl vs).length
  | [] => rfl
  | v :: vs => by
    have ih := sk_sl_len (ad := ad) vs
    unfold lg_sl at ih ⊢
    simp only [List.map_cons, List.flatMap_cons, List.length_append, sk_vm_cat, ih]
    split <;> rfl
theorem sk_cat_m {ad : Nat → Nat} (vs : List Value) : ((vs.map (sk_vm ad)).map fun v => v.category).sum = (vs.map fun v => v.category).sum := by
  rw [List.map_map]
  congr 1
  apply List.map_congr_left
  intro v _
  exact sk_vm_cat ad v
section
variable {S : List sk_Sh} {d : Nat} {M : sk_M} {pc : Nat} {lv : sk_L} {st : List Value} {τ : sk_T} {K : sk_K}

theorem sk_iadd {x y : Int32} (pc2 : Nat) (hd : decode M.2.1 pc = .ok (.iadd, 1)) (hp : pc + 1 = pc2) (k : sk_G S d M pc2 lv (.int (x + y) :: st) τ K) : sk_G S d M pc lv (.int y :: .int x :: st) τ K := by
  subst hp
  intro p l e s m args below meth c H locs ls ad cA D A X
  obtain ⟨hx, hb, hml, hr, hlk, hown, hts, hP, hK, hD, hS, hR, hl⟩ := id X
  have k := k p l e s m args below meth c H locs ls ad cA D A X
  exact lv_iadd hx hb hd k

theorem sk_isub {x y : Int32} (pc2 : Nat) (hd : decode M.2.1 pc = .ok (.isub, 1)) (hp : pc + 1 = pc2) (k : sk_G S d M pc2 lv (.int (x - y) :: st) τ K) : sk_G S d M pc lv (.int y :: .int x :: st) τ K := by
  subst hp
  intro p l e s m args below meth c H locs ls ad cA D A X
  obtain ⟨hx, hb, hml, hr, hlk, hown, hts, hP, hK, hD, hS, hR, hl⟩ := id X
  have k := k p l e s m args below meth c H locs ls ad cA D A X
  exact lv_isub hx hb hd k

theorem sk_imul {x y : Int32} (pc2 : Nat) (hd : decode M.2.1 pc = .ok (.imul, 1)) (hp : pc + 1 = pc2) (k : sk_G S d M pc2 lv (.int (x * y) :: st) τ K) : sk_G S d M pc lv (.int y :: .int x :: st) τ K := by
  subst hp
  intro p l e s m args below meth c H locs ls ad cA D A X
  obtain ⟨hx, hb, hml, hr, hlk, hown, hts, hP, hK, hD, hS, hR, hl⟩ := id X
  have k := k p l e s m args below meth c H locs ls ad cA D A X
  exact lv_imul hx hb hd k

theorem sk_iand {x y : Int32} (pc2 : Nat) (hd : decode M.2.1 pc = .ok (.iand, 1)) (hp : pc + 1 = pc2) (k : sk_G S d M pc2 lv (.int (x &&& y) :: st) τ K) : sk_G S d M pc lv (.int y :: .int x :: st) τ K := by
  subst hp
  intro p l e s m args below meth c H locs ls ad cA D A X
  obtain ⟨hx, hb, hml, hr, hlk, hown, hts, hP, hK, hD, hS, hR, hl⟩ := id X
  have k := k p l e s m args below meth c H locs ls ad cA D A X
  exact lv_iand hx hb hd k

theorem sk_ior {x y : Int32} (pc2 : Nat) (hd : decode M.2.1 pc = .ok (.ior, 1)) (hp : pc + 1 = pc2) (k : sk_G S d M pc2 lv (.int (x ||| y) :: st) τ K) : sk_G S d M pc lv (.int y :: .int x :: st) τ K := by
  subst hp
  intro p l e s m args below meth c H locs ls ad cA D A X
  obtain ⟨hx, hb, hml, hr, hlk, hown, hts, hP, hK, hD, hS, hR, hl⟩ := id X
  have k := k p l e s m args below meth c H locs ls ad cA D A X
  exact lv_ior hx hb hd k

theorem sk_ixor {x y : Int32} (pc2 : Nat) (hd : decode M.2.1 pc = .ok (.ixor, 1)) (hp : pc + 1 = pc2) (k : sk_G S d M pc2 lv (.int (x ^^^ y) :: st) τ K) : sk_G S d M pc lv (.int y :: .int x :: st) τ K := by
  subst hp
  intro p l e s m args below meth c H locs ls ad cA D A X
  obtain ⟨hx, hb, hml, hr, hlk, hown, hts, hP, hK, hD, hS, hR, hl⟩ := id X
  have k := k p l e s m args below meth c H locs ls ad cA D A X
  exact lv_ixor hx hb hd k

theorem sk_ishl {x y : Int32} (pc2 : Nat) (hd : decode M.2.1 pc = .ok (.ishl, 1)) (hp : pc + 1 = pc2) (k : sk_G S d M pc2 lv (.int (x <<< (y &&& 31)) :: st) τ K) : sk_G S d M pc lv (.int y :: .int x :: st) τ K := by
  subst hp
  intro p l e s m args below meth c H locs ls ad cA D A X
  obtain ⟨hx, hb, hml, hr, hlk, hown, hts, hP, hK, hD, hS, hR, hl⟩ := id X
  have k := k p l e s m args below meth c H locs ls ad cA D A X
  exact lv_ishl hx hb hd k

theorem sk_ishr {x y : Int32} (pc2 : Nat) (hd : decode M.2.1 pc = .ok (.ishr, 1)) (hp : pc + 1 = pc2) (k : sk_G S d M pc2 lv (.int (x >>> (y &&& 31)) :: st) τ K) : sk_G S d M pc lv (.int y :: .int x :: st) τ K := by
  subst hp
  intro p l e s m args below meth c H locs ls ad cA D A X
  obtain ⟨hx, hb, hml, hr, hlk, hown, hts, hP, hK, hD, hS, hR, hl⟩ := id X
  have k := k p l e s m args below meth c H locs ls ad cA D A X
  exact lv_ishr hx hb hd k

theorem sk_iushr {x y : Int32} (pc2 : Nat) (hd : decode M.2.1 pc = .ok (.iushr, 1)) (hp : pc + 1 = pc2) (k : sk_G S d M pc2 lv (.int (sk_ush x y) :: st) τ K) : sk_G S d M pc lv (.int y :: .int x :: st) τ K := by
  subst hp
  intro p l e s m args below meth c H locs ls ad cA D A X
  obtain ⟨hx, hb, hml, hr, hlk, hown, hts, hP, hK, hD, hS, hR, hl⟩ := id X
  have k := k p l e s m args below meth c H locs ls ad cA D A X
  exact lv_iushr hx hb hd rfl k

theorem sk_idiv {x y : Int32} (pc2 : Nat) (hd : decode M.2.1 pc = .ok (.idiv, 1)) (hp : pc + 1 = pc2) (hne : ¬ y = 0) (k : sk_G S d M pc2 lv (.int (x / y) :: st) τ K) : sk_G S d M pc lv (.int y :: .int x :: st) τ K := by
  subst hp
  intro p l e s m args below meth c H locs ls ad cA D A X
  obtain ⟨hx, hb, hml, hr, hlk, hown, hts, hP, hK, hD, hS, hR, hl⟩ := id X
  have k := k p l e s m args below meth c H locs ls ad cA D A X
  exact lv_idiv hx hb hd hne k

theorem sk_irem {x y : Int32} (pc2 : Nat) (hd : decode M.2.1 pc = .ok (.irem, 1)) (hp : pc + 1 = pc2) (hne : ¬ y = 0) (k : sk_G S d M pc2 lv (.int (x % y) :: st) τ K) : sk_G S d M pc lv (.int y :: .int x :: st) τ K := by
  subst hp
  intro p l e s m args below meth c H locs ls ad cA D A X
  obtain ⟨hx, hb, hml, hr, hlk, hown, hts, hP, hK, hD, hS, hR, hl⟩ := id X
  have k := k p l e s m args below meth c H locs ls ad cA D A X
  exact lv_irem hx hb hd hne (by rw [irem_eq_mod]; exact k)

theorem sk_ineg {x : Int32} (pc2 : Nat) (hd : decode M.2.1 pc = .ok (.ineg, 1)) (hp : pc + 1 = pc2) (k : sk_G S d M pc2 lv (.int (-x) :: st) τ K) : sk_G S d M pc lv (.int x :: st) τ K := by
  subst hp
  intro p l e s m args below meth c H locs ls ad cA D A X
  obtain ⟨hx, hb, hml, hr, hlk, hown, hts, hP, hK, hD, hS, hR, hl⟩ := id X
  have k := k p l e s m args below meth c H locs ls ad cA D A X
  exact lv_ineg hx hb hd k

theorem sk_ladd {x y : Int64} (pc2 : Nat) (hd : decode M.2.1 pc = .ok (.ladd, 1)) (hp : pc + 1 = pc2) (k : sk_G S d M pc2 lv (.long (x + y) :: st) τ K) : sk_G S d M pc lv (.long y :: .long x :: st) τ K := by
  subst hp
  intro p l e s m args below meth c H locs ls ad cA D A X
  obtain ⟨hx, hb, hml, hr, hlk, hown, hts, hP, hK, hD, hS, hR, hl⟩ := id X
  have k := k p l e s m args below meth c H locs ls ad cA D A X
  exact lv_ladd hx hb hd k

theorem sk_lsub {x y : Int64} (pc2 : Nat) (hd : decode M.2.1 pc = .ok (.lsub, 1)) (hp : pc + 1 = pc2) (k : sk_G S d M pc2 lv (.long (x - y) :: st) τ K) : sk_G S d M pc lv (.long y :: .long x :: st) τ K := by
  subst hp
  intro p l e s m args below meth c H locs ls ad cA D A X
  obtain ⟨hx, hb, hml, hr, hlk, hown, hts, hP, hK, hD, hS, hR, hl⟩ := id X
  have k := k p l e s m args below meth c H locs ls ad cA D A X
  exact lv_lsub hx hb hd k

theorem sk_land {x y : Int64} (pc2 : Nat) (hd : decode M.2.1 pc = .ok (.land, 1)) (hp : pc + 1 = pc2) (k : sk_G S d M pc2 lv (.long (x &&& y) :: st) τ K) : sk_G S d M pc lv (.long y :: .long x :: st) τ K := by
  subst hp
  intro p l e s m args below meth c H locs ls ad cA D A X
  obtain ⟨hx, hb, hml, hr, hlk, hown, hts, hP, hK, hD, hS, hR, hl⟩ := id X
  have k := k p l e s m args below meth c H locs ls ad cA D A X
  exact lv_land hx hb hd k

theorem sk_lor {x y : Int64} (pc2 : Nat) (hd : decode M.2.1 pc = .ok (.lor, 1)) (hp : pc + 1 = pc2) (k : sk_G S d M pc2 lv (.long (x ||| y) :: st) τ K) : sk_G S d M pc lv (.long y :: .long x :: st) τ K := by
  subst hp
  intro p l e s m args below meth c H locs ls ad cA D A X
  obtain ⟨hx, hb, hml, hr, hlk, hown, hts, hP, hK, hD, hS, hR, hl⟩ := id X
  have k := k p l e s m args below meth c H locs ls ad cA D A X
  exact lv_lor hx hb hd k

theorem sk_lxor {x y : Int64} (pc2 : Nat) (hd : decode M.2.1 pc = .ok (.lxor, 1)) (hp : pc + 1 = pc2) (k : sk_G S d M pc2 lv (.long (x ^^^ y) :: st) τ K) : sk_G S d M pc lv (.long y :: .long x :: st) τ K := by
  subst hp
  intro p l e s m args below meth c H locs ls ad cA D A X
  obtain ⟨hx, hb, hml, hr, hlk, hown, hts, hP, hK, hD, hS, hR, hl⟩ := id X
  have k := k p l e s m args below meth c H locs ls ad cA D A X
  exact lv_lxor hx hb hd k

theorem sk_lushr {x : Int64} {y : Int32} (pc2 : Nat) (hd : decode M.2.1 pc = .ok (.lushr, 1)) (hp : pc + 1 = pc2) (k : sk_G S d M pc2 lv (.long (sk_lush x y) :: st) τ K) : sk_G S d M pc lv (.int y :: .long x :: st) τ K := by
  subst hp
  intro p l e s m args below meth c H locs ls ad cA D A X
  obtain ⟨hx, hb, hml, hr, hlk, hown, hts, hP, hK, hD, hS, hR, hl⟩ := id X
  have k := k p l e s m args below meth c H locs ls ad cA D A X
  exact lv_lushr hx hb hd rfl k

theorem sk_lshl {x : Int64} {y : Int32} (pc2 : Nat) (hd : decode M.2.1 pc = .ok (.lshl, 1)) (hp : pc + 1 = pc2) (k : sk_G S d M pc2 lv (.long (x <<< (y.toInt64 &&& 63)) :: st) τ K) : sk_G S d M pc lv (.int y :: .long x :: st) τ K := by
  subst hp
  intro p l e s m args below meth c H locs ls ad cA D A X
  obtain ⟨hx, hb, hml, hr, hlk, hown, hts, hP, hK, hD, hS, hR, hl⟩ := id X
  have k := k p l e s m args below meth c H locs ls ad cA D A X
  exact lv_lshl hx hb hd rfl k

theorem sk_lshr {x : Int64} {y : Int32} (pc2 : Nat) (hd : decode M.2.1 pc = .ok (.lshr, 1)) (hp : pc + 1 = pc2) (k : sk_G S d M pc2 lv (.long (x >>> (y.toInt64 &&& 63)) :: st) τ K) : sk_G S d M pc lv (.int y :: .long x :: st) τ K := by
  subst hp
  intro p l e s m args below meth c H locs ls ad cA D A X
  obtain ⟨hx, hb, hml, hr, hlk, hown, hts, hP, hK, hD, hS, hR, hl⟩ := id X
  have k := k p l e s m args below meth c H locs ls ad cA D A X
  exact lv_lshr hx hb hd rfl k

theorem sk_i2l {x : Int32} (pc2 : Nat) (hd : decode M.2.1 pc = .ok (.i2l, 1)) (hp : pc + 1 = pc2) (k : sk_G S d M pc2 lv (.long x.toInt64 :: st) τ K) : sk_G S d M pc lv (.int x :: st) τ K := by
  subst hp
  intro p l e s m args below meth c H locs ls ad cA D A X
  obtain ⟨hx, hb, hml, hr, hlk, hown, hts, hP, hK, hD, hS, hR, hl⟩ := id X
  have k := k p l e s m args below meth c H locs ls ad cA D A X
  exact lv_i2l hx hb hd rfl k

theorem sk_l2i {x : Int64} (pc2 : Nat) (hd : decode M.2.1 pc = .ok (.l2i, 1)) (hp : pc + 1 = pc2) (k : sk_G S d M pc2 lv (.int x.toInt32 :: st) τ K) : sk_G S d M pc lv (.long x :: st) τ K := by
  subst hp
  intro p l e s m args below meth c H locs ls ad cA D A X
  obtain ⟨hx, hb, hml, hr, hlk, hown, hts, hP, hK, hD, hS, hR, hl⟩ := id X
  have k := k p l e s m args below meth c H locs ls ad cA D A X
  exact lv_l2i hx hb hd rfl k

theorem sk_i2b {x : Int32} (pc2 : Nat) (hd : decode M.2.1 pc = .ok (.i2b, 1)) (hp : pc + 1 = pc2) (k : sk_G S d M pc2 lv (.int x.toInt8.toInt32 :: st) τ K) : sk_G S d M pc lv (.int x :: st) τ K := by
  subst hp
  intro p l e s m args below meth c H locs ls ad cA D A X
  obtain ⟨hx, hb, hml, hr, hlk, hown, hts, hP, hK, hD, hS, hR, hl⟩ := id X
  have k := k p l e s m args below meth c H locs ls ad cA D A X
  exact lv_i2b hx hb hd rfl k

theorem sk_i2s {x : Int32} (pc2 : Nat) (hd : decode M.2.1 pc = .ok (.i2s, 1)) (hp : pc + 1 = pc2) (k : sk_G S d M pc2 lv (.int x.toInt16.toInt32 :: st) τ K) : sk_G S d M pc lv (.int x :: st) τ K := by
  subst hp
  intro p l e s m args below meth c H locs ls ad cA D A X
  obtain ⟨hx, hb, hml, hr, hlk, hown, hts, hP, hK, hD, hS, hR, hl⟩ := id X
  have k := k p l e s m args below meth c H locs ls ad cA D A X
  exact lv_i2s hx hb hd rfl k

theorem sk_lcmp {x y : Int64} (pc2 : Nat) (hd : decode M.2.1 pc = .ok (.lcmp, 1)) (hp : pc + 1 = pc2) (k : sk_G S d M pc2 lv (.int (lg_cmp x y) :: st) τ K) : sk_G S d M pc lv (.long y :: .long x :: st) τ K := by
  subst hp
  intro p l e s m args below meth c H locs ls ad cA D A X
  obtain ⟨hx, hb, hml, hr, hlk, hown, hts, hP, hK, hD, hS, hR, hl⟩ := id X
  have k := k p l e s m args below meth c H locs ls ad cA D A X
  exact W.lcmp hx hb hd k

theorem sk_iconst {n : Int} {v : Int32} (pc2 : Nat) (hd : decode M.2.1 pc = .ok (.iconst n, 1)) (hp : pc + 1 = pc2) (hv : Int32.ofInt n = v) (k : sk_G S d M pc2 lv (.int v :: st) τ K) : sk_G S d M pc lv st τ K := by
  subst hp
  intro p l e s m args below meth c H locs ls ad cA D A X
  obtain ⟨hx, hb, hml, hr, hlk, hown, hts, hP, hK, hD, hS, hR, hl⟩ := id X
  have k := k p l e s m args below meth c H locs ls ad cA D A X
  exact lv_iconst hx hb hd hv k

theorem sk_bipush {n : Int} {v : Int32} (pc2 : Nat) (hd : decode M.2.1 pc = .ok (.bipush n, 2)) (hp : pc + 2 = pc2) (hv : (Int8.ofInt n).toInt32 = v) (k : sk_G S d M pc2 lv (.int v :: st) τ K) : sk_G S d M pc lv st τ K := by
  subst hp
  intro p l e s m args below meth c H locs ls ad cA D A X
  obtain ⟨hx, hb, hml, hr, hlk, hown, hts, hP, hK, hD, hS, hR, hl⟩ := id X
  have k := k p l e s m args below meth c H locs ls ad cA D A X
  exact lv_bipush hx hb hd hv k

theorem sk_sipush {n : Int} {v : Int32} (pc2 : Nat) (hd : decode M.2.1 pc = .ok (.sipush n, 3)) (hp : pc + 3 = pc2) (hv : (Int16.ofInt n).toInt32 = v) (k : sk_G S d M pc2 lv (.int v :: st) τ K) : sk_G S d M pc lv st τ K := by
  subst hp
  intro p l e s m args below meth c H locs ls ad cA D A X
  obtain ⟨hx, hb, hml, hr, hlk, hown, hts, hP, hK, hD, hS, hR, hl⟩ := id X
  have k := k p l e s m args below meth c H locs ls ad cA D A X
  exact lv_sipush hx hb hd hv k

theorem sk_lconst {n : Fin 2} {v : Int64} (pc2 : Nat) (hd : decode M.2.1 pc = .ok (.lconst n, 1)) (hp : pc + 1 = pc2) (hv : Int64.ofNat (n : Nat) = v) (k : sk_G S d M pc2 lv (.long v :: st) τ K) : sk_G S d M pc lv st τ K := by
  subst hp
  intro p l e s m args below meth c H locs ls ad cA D A X
  obtain ⟨hx, hb, hml, hr, hlk, hown, hts, hP, hK, hD, hS, hR, hl⟩ := id X
  have k := k p l e s m args below meth c H locs ls ad cA D A X
  exact lv_lconst hx hb hd hv k

theorem sk_ldc {idx : Nat} {v : Int32} (pc2 : Nat) (hd : decode M.2.1 pc = .ok (.ldc idx, 2)) (hp : pc + 2 = pc2) (hc : Cond.constant M.1.cls idx v ∈ sk_ALL) (k : sk_G S d M pc2 lv (.int v :: st) τ K) : sk_G S d M pc lv st τ K := by
  subst hp
  intro p l e s m args below meth c H locs ls ad cA D A X
  obtain ⟨hx, hb, hml, hr, hlk, hown, hts, hP, hK, hD, hS, hR, hl⟩ := id X
  have k := k p l e s m args below meth c H locs ls ad cA D A X
  exact lv_ldc hx hb hown (hts _ hc) hd k

theorem sk_ldcw {idx : Nat} {v : Int32} (pc2 : Nat) (hd : decode M.2.1 pc = .ok (.ldc_w idx, 3)) (hp : pc + 3 = pc2) (hc : Cond.constant M.1.cls idx v ∈ sk_ALL) (k : sk_G S d M pc2 lv (.int v :: st) τ K) : sk_G S d M pc lv st τ K := by
  subst hp
  intro p l e s m args below meth c H locs ls ad cA D A X
  obtain ⟨hx, hb, hml, hr, hlk, hown, hts, hP, hK, hD, hS, hR, hl⟩ := id X
  have k := k p l e s m args below meth c H locs ls ad cA D A X
  exact lv_ldcw hx hb hown (hts _ hc) hd k

theorem sk_ldc2 {idx : Nat} {v : Int64} (pc2 : Nat) (hd : decode M.2.1 pc = .ok (.ldc2_w idx, 3)) (hp : pc + 3 = pc2) (hc : Cond.constantLong M.1.cls idx v ∈ sk_ALL) (k : sk_G S d M pc2 lv (.long v :: st) τ K) : sk_G S d M pc lv st τ K := by
  subst hp
  intro p l e s m args below meth c H locs ls ad cA D A X
  obtain ⟨hx, hb, hml, hr, hlk, hown, hts, hP, hK, hD, hS, hR, hl⟩ := id X
  have k := k p l e s m args below meth c H locs ls ad cA D A X
  exact lv_ldc2 hx hb hown (hts _ hc) hd k

theorem sk_iload {i : Nat} {x : Int32} (q : Nat) (pc2 : Nat) (hd : decode M.2.1 pc = .ok (.iload i, 2)) (hp : pc + 2 = pc2) (hq : lv[q]? = some (i, .int x)) (k : sk_G S d M pc2 lv (.int x :: st) τ K) : sk_G S d M pc lv st τ K := by
  subst hp
  intro p l e s m args below meth c H locs ls ad cA D A X
  obtain ⟨hx, hb, hml, hr, hlk, hown, hts, hP, hK, hD, hS, hR, hl⟩ := id X
  have k := k p l e s m args below meth c H locs ls ad cA D A X
  exact lv_iload hx hb hd (sk_lm_at hl hq) k

theorem sk_iload_n {n : Fin 4} {i : Nat} {x : Int32} (q : Nat) (pc2 : Nat) (hd : decode M.2.1 pc = .ok (.iload_n n, 1)) (hp : pc + 1 = pc2) (hi : (n : Nat) = i) (hq : lv[q]? = some (i, .int x)) (k : sk_G S d M pc2 lv (.int x :: st) τ K) : sk_G S d M pc lv st τ K := by
  subst hp
  intro p l e s m args below meth c H locs ls ad cA D A X
  obtain ⟨hx, hb, hml, hr, hlk, hown, hts, hP, hK, hD, hS, hR, hl⟩ := id X
  have k := k p l e s m args below meth c H locs ls ad cA D A X
  exact lv_iload_n hx hb hd hi (sk_lm_at hl hq) k

theorem sk_lload {i : Nat} {x : Int64} (q : Nat) (pc2 : Nat) (hd : decode M.2.1 pc = .ok (.lload i, 2)) (hp : pc + 2 = pc2) (hq : lv[q]? = some (i, .long x)) (k : sk_G S d M pc2 lv (.long x :: st) τ K) : sk_G S d M pc lv st τ K := by
  subst hp
  intro p l e s m args below meth c H locs ls ad cA D A X
  obtain ⟨hx, hb, hml, hr, hlk, hown, hts, hP, hK, hD, hS, hR, hl⟩ := id X
  have k := k p l e s m args below meth c H locs ls ad cA D A X
  exact lv_lload hx hb hd (sk_lm_at hl hq) k

theorem sk_lload_n {n : Fin 4} {i : Nat} {x : Int64} (q : Nat) (pc2 : Nat) (hd : decode M.2.1 pc = .ok (.lload_n n, 1)) (hp : pc + 1 = pc2) (hi : (n : Nat) = i) (hq : lv[q]? = some (i, .long x)) (k : sk_G S d M pc2 lv (.long x :: st) τ K) : sk_G S d M pc lv st τ K := by
  subst hp
  intro p l e s m args below meth c H locs ls ad cA D A X
  obtain ⟨hx, hb, hml, hr, hlk, hown, hts, hP, hK, hD, hS, hR, hl⟩ := id X
  have k := k p l e s m args below meth c H locs ls ad cA D A X
  exact lv_lload_n hx hb hd hi (sk_lm_at hl hq) k

theorem sk_aload {i : Nat} {x : Nat} (q : Nat) (pc2 : Nat) (hd : decode M.2.1 pc = .ok (.aload i, 2)) (hp : pc + 2 = pc2) (hq : lv[q]? = some (i, .ref x)) (k : sk_G S d M pc2 lv (.ref x :: st) τ K) : sk_G S d M pc lv st τ K := by
  subst hp
  intro p l e s m args below meth c H locs ls ad cA D A X
  obtain ⟨hx, hb, hml, hr, hlk, hown, hts, hP, hK, hD, hS, hR, hl⟩ := id X
  have k := k p l e s m args below meth c H locs ls ad cA D A X
  exact lv_aload hx hb hd (sk_lm_at hl hq) k

theorem sk_aload_n {n : Fin 4} {i : Nat} {x : Nat} (q : Nat) (pc2 : Nat) (hd : decode M.2.1 pc = .ok (.aload_n n, 1)) (hp : pc + 1 = pc2) (hi : (n : Nat) = i) (hq : lv[q]? = some (i, .ref x)) (k : sk_G S d M pc2 lv (.ref x :: st) τ K) : sk_G S d M pc lv st τ K := by
  subst hp
  intro p l e s m args below meth c H locs ls ad cA D A X
  obtain ⟨hx, hb, hml, hr, hlk, hown, hts, hP, hK, hD, hS, hR, hl⟩ := id X
  have k := k p l e s m args below meth c H locs ls ad cA D A X
  exact lv_aload_n hx hb hd hi (sk_lm_at hl hq) k

theorem sk_istore {i : Nat} {x : Int32} {lv2 : sk_L} (pc2 : Nat) (hd : decode M.2.1 pc = .ok (.istore i, 2)) (hp : pc + 2 = pc2) (hn : i < M.2.2.1) (h2 : sk_st1 lv i (.int x) = lv2) (k : sk_G S d M pc2 lv2 st τ K) : sk_G S d M pc lv (.int x :: st) τ K := by
  subst hp
  subst h2
  intro p l e s m args below meth c H locs ls ad cA D A X
  obtain ⟨hx, hb, hml, hr, hlk, hown, hts, hP, hK, hD, hS, hR, hl⟩ := id X
  exact lv_istore hx hb hd hl hn (sk_st1_m (ad := ad) lv i (.int x)) (fun ls2 hl2 => k p l e s m args below meth c H locs ls2 ad cA D A ⟨hx, hb, hml, hr, hlk, hown, hts, hP, hK, hD, hS, hR, hl2⟩)

theorem sk_istore_n {i : Nat} {x : Int32} {lv2 : sk_L} {n : Fin 4} (pc2 : Nat) (hd : decode M.2.1 pc = .ok (.istore_n n, 1)) (hp : pc + 1 = pc2) (hi : (n : Nat) = i) (hn : i < M.2.2.1) (h2 : sk_st1 lv i (.int x) = lv2) (k : sk_G S d M pc2 lv2 st τ K) : sk_G S d M pc lv (.int x :: st) τ K := by
  subst hp
  subst h2
  intro p l e s m args below meth c H locs ls ad cA D A X
  obtain ⟨hx, hb, hml, hr, hlk, hown, hts, hP, hK, hD, hS, hR, hl⟩ := id X
  exact lv_istore_n hx hb hd hi hl hn (sk_st1_m (ad := ad) lv i (.int x)) (fun ls2 hl2 => k p l e s m args below meth c H locs ls2 ad cA D A ⟨hx, hb, hml, hr, hlk, hown, hts, hP, hK, hD, hS, hR, hl2⟩)

theorem sk_astore {i : Nat} {x : Nat} {lv2 : sk_L} (pc2 : Nat) (hd : decode M.2.1 pc = .ok (.astore i, 2)) (hp : pc + 2 = pc2) (hn : i < M.2.2.1) (h2 : sk_st1 lv i (.ref x) = lv2) (k : sk_G S d M pc2 lv2 st τ K) : sk_G S d M pc lv (.ref x :: st) τ K := by
  subst hp
  subst h2
  intro p l e s m args below meth c H locs ls ad cA D A X
  obtain ⟨hx, hb, hml, hr, hlk, hown, hts, hP, hK, hD, hS, hR, hl⟩ := id X
  exact lv_astore hx hb hd hl hn (sk_st1_m (ad := ad) lv i (.ref x)) (fun ls2 hl2 => k p l e s m args below meth c H locs ls2 ad cA D A ⟨hx, hb, hml, hr, hlk, hown, hts, hP, hK, hD, hS, hR, hl2⟩)

theorem sk_astore_n {i : Nat} {x : Nat} {lv2 : sk_L} {n : Fin 4} (pc2 : Nat) (hd : decode M.2.1 pc = .ok (.astore_n n, 1)) (hp : pc + 1 = pc2) (hi : (n : Nat) = i) (hn : i < M.2.2.1) (h2 : sk_st1 lv i (.ref x) = lv2) (k : sk_G S d M pc2 lv2 st τ K) : sk_G S d M pc lv (.ref x :: st) τ K := by
  subst hp
  subst h2
  intro p l e s m args below meth c H locs ls ad cA D A X
  obtain ⟨hx, hb, hml, hr, hlk, hown, hts, hP, hK, hD, hS, hR, hl⟩ := id X
  exact lv_astore_n hx hb hd hi hl hn (sk_st1_m (ad := ad) lv i (.ref x)) (fun ls2 hl2 => k p l e s m args below meth c H locs ls2 ad cA D A ⟨hx, hb, hml, hr, hlk, hown, hts, hP, hK, hD, hS, hR, hl2⟩)

theorem sk_lstore {i : Nat} {x : Int64} {lv2 : sk_L} (pc2 : Nat) (hd : decode M.2.1 pc = .ok (.lstore i, 2)) (hp : pc + 2 = pc2) (hn : i + 1 < M.2.2.1) (h2 : sk_st2 lv i (.long x) = lv2) (k : sk_G S d M pc2 lv2 st τ K) : sk_G S d M pc lv (.long x :: st) τ K := by
  subst hp
  subst h2
  intro p l e s m args below meth c H locs ls ad cA D A X
  obtain ⟨hx, hb, hml, hr, hlk, hown, hts, hP, hK, hD, hS, hR, hl⟩ := id X
  exact lv_lstore hx hb hd hl hn (sk_st2_m (ad := ad) lv i (.long x)) (fun ls2 hl2 => k p l e s m args below meth c H locs ls2 ad cA D A ⟨hx, hb, hml, hr, hlk, hown, hts, hP, hK, hD, hS, hR, hl2⟩)

theorem sk_lstore_n {i : Nat} {x : Int64} {lv2 : sk_L} {n : Fin 4} (pc2 : Nat) (hd : decode M.2.1 pc = .ok (.lstore_n n, 1)) (hp : pc + 1 = pc2) (hi : (n : Nat) = i) (hn : i + 1 < M.2.2.1) (h2 : sk_st2 lv i (.long x) = lv2) (k : sk_G S d M pc2 lv2 st τ K) : sk_G S d M pc lv (.long x :: st) τ K := by
  subst hp
  subst h2
  intro p l e s m args below meth c H locs ls ad cA D A X
  obtain ⟨hx, hb, hml, hr, hlk, hown, hts, hP, hK, hD, hS, hR, hl⟩ := id X
  exact lv_lstore_n hx hb hd hi hl hn (sk_st2_m (ad := ad) lv i (.long x)) (fun ls2 hl2 => k p l e s m args below meth c H locs ls2 ad cA D A ⟨hx, hb, hml, hr, hlk, hown, hts, hP, hK, hD, hS, hR, hl2⟩)

theorem sk_iinc {i : Nat} {n : Int} {x v : Int32} {lv2 : sk_L} (q : Nat) (pc2 : Nat) (hd : decode M.2.1 pc = .ok (.iinc i n, 3)) (hp : pc + 3 = pc2) (hq : lv[q]? = some (i, .int x)) (hv : x + Int32.ofInt n = v) (hn : i < M.2.2.1) (h2 : sk_st1 lv i (.int v) = lv2) (k : sk_G S d M pc2 lv2 st τ K) : sk_G S d M pc lv st τ K := by
  subst hp
  subst h2
  intro p l e s m args below meth c H locs ls ad cA D A X
  obtain ⟨hx, hb, hml, hr, hlk, hown, hts, hP, hK, hD, hS, hR, hl⟩ := id X
  exact lv_iinc (k := q) hx hb hd hl (by unfold sk_lm; rw [List.getElem?_map, hq]; rfl) hv hn (sk_st1_m (ad := ad) lv i (.int v)) (fun ls2 hl2 => k p l e s m args below meth c H locs ls2 ad cA D A ⟨hx, hb, hml, hr, hlk, hown, hts, hP, hK, hD, hS, hR, hl2⟩)

theorem sk_perm {lv2 : sk_L} (ks : List Nat) (h : lv_pick lv ks = lv2) (k : sk_G S d M pc lv2 st τ K) : sk_G S d M pc lv st τ K := by
  intro p l e s m args below meth c H locs ls ad cA D A X
  obtain ⟨hx, hb, hml, hr, hlk, hown, hts, hP, hK, hD, hS, hR, hl⟩ := id X
  refine k p l e s m args below meth c H locs ls ad cA D A ⟨hx, hb, hml, hr, hlk, hown, hts, hP, hK, hD, hS, hR, lv_sub hl ks ?_⟩
  subst h
  unfold lv_pick sk_lm
  rw [List.map_filterMap]
  congr 1
  funext i
  rw [List.getElem?_map]

theorem sk_goto {off : Int} (pc2 : Nat) (hd : decode M.2.1 pc = .ok (.goto off, 3)) (ht : (pc : Int) + off = (pc2 : Int)) (k : sk_G S d M pc2 lv st τ K) : sk_G S d M pc lv st τ K := by
  intro p l e s m args below meth c H locs ls ad cA D A X
  obtain ⟨hx, hb, hml, hr, hlk, hown, hts, hP, hK, hD, hS, hR, hl⟩ := id X
  exact lv_goto hx hb hd ht (k p l e s m args below meth c H locs ls ad cA D A X)

theorem sk_icmp_eq {x y : Int32} {off : Int} (tgt pc2 : Nat) (hd : decode M.2.1 pc = .ok (.if_icmp .eq off, 3)) (ht : (pc : Int) + off = (tgt : Int)) (hp : pc + 3 = pc2) (kt : x = y → sk_G S d M tgt lv st τ K) (kf : ¬ x = y → sk_G S d M pc2 lv st τ K) : sk_G S d M pc lv (.int y :: .int x :: st) τ K := by
  subst hp
  intro p l e s m args below meth c H locs ls ad cA D A X
  obtain ⟨hx, hb, hml, hr, hlk, hown, hts, hP, hK, hD, hS, hR, hl⟩ := id X
  exact lv_icmp_eq hx hb hd ht (fun h => kt h p l e s m args below meth c H locs ls ad cA D A X) (fun h => kf h p l e s m args below meth c H locs ls ad cA D A X)

theorem sk_icmp_ne {x y : Int32} {off : Int} (tgt pc2 : Nat) (hd : decode M.2.1 pc = .ok (.if_icmp .ne off, 3)) (ht : (pc : Int) + off = (tgt : Int)) (hp : pc + 3 = pc2) (kt : ¬ x = y → sk_G S d M tgt lv st τ K) (kf : x = y → sk_G S d M pc2 lv st τ K) : sk_G S d M pc lv (.int y :: .int x :: st) τ K := by
  subst hp
  intro p l e s m args below meth c H locs ls ad cA D A X
  obtain ⟨hx, hb, hml, hr, hlk, hown, hts, hP, hK, hD, hS, hR, hl⟩ := id X
  exact lv_icmp_ne hx hb hd ht (fun h => kt h p l e s m args below meth c H locs ls ad cA D A X) (fun h => kf h p l e s m args below meth c H locs ls ad cA D A X)

theorem sk_icmp_lt {x y : Int32} {off : Int} (tgt pc2 : Nat) (hd : decode M.2.1 pc = .ok (.if_icmp .lt off, 3)) (ht : (pc : Int) + off = (tgt : Int)) (hp : pc + 3 = pc2) (kt : x < y → sk_G S d M tgt lv st τ K) (kf : ¬ x < y → sk_G S d M pc2 lv st τ K) : sk_G S d M pc lv (.int y :: .int x :: st) τ K := by
  subst hp
  intro p l e s m args below meth c H locs ls ad cA D A X
  obtain ⟨hx, hb, hml, hr, hlk, hown, hts, hP, hK, hD, hS, hR, hl⟩ := id X
  exact lv_icmp_lt hx hb hd ht (fun h => kt h p l e s m args below meth c H locs ls ad cA D A X) (fun h => kf h p l e s m args below meth c H locs ls ad cA D A X)

theorem sk_icmp_ge {x y : Int32} {off : Int} (tgt pc2 : Nat) (hd : decode M.2.1 pc = .ok (.if_icmp .ge off, 3)) (ht : (pc : Int) + off = (tgt : Int)) (hp : pc + 3 = pc2) (kt : y ≤ x → sk_G S d M tgt lv st τ K) (kf : ¬ y ≤ x → sk_G S d M pc2 lv st τ K) : sk_G S d M pc lv (.int y :: .int x :: st) τ K := by
  subst hp
  intro p l e s m args below meth c H locs ls ad cA D A X
  obtain ⟨hx, hb, hml, hr, hlk, hown, hts, hP, hK, hD, hS, hR, hl⟩ := id X
  exact lv_icmp_ge hx hb hd ht (fun h => kt h p l e s m args below meth c H locs ls ad cA D A X) (fun h => kf h p l e s m args below meth c H locs ls ad cA D A X)

theorem sk_icmp_gt {x y : Int32} {off : Int} (tgt pc2 : Nat) (hd : decode M.2.1 pc = .ok (.if_icmp .gt off, 3)) (ht : (pc : Int) + off = (tgt : Int)) (hp : pc + 3 = pc2) (kt : y < x → sk_G S d M tgt lv st τ K) (kf : ¬ y < x → sk_G S d M pc2 lv st τ K) : sk_G S d M pc lv (.int y :: .int x :: st) τ K := by
  subst hp
  intro p l e s m args below meth c H locs ls ad cA D A X
  obtain ⟨hx, hb, hml, hr, hlk, hown, hts, hP, hK, hD, hS, hR, hl⟩ := id X
  exact lv_icmp_gt hx hb hd ht (fun h => kt h p l e s m args below meth c H locs ls ad cA D A X) (fun h => kf h p l e s m args below meth c H locs ls ad cA D A X)

theorem sk_icmp_le {x y : Int32} {off : Int} (tgt pc2 : Nat) (hd : decode M.2.1 pc = .ok (.if_icmp .le off, 3)) (ht : (pc : Int) + off = (tgt : Int)) (hp : pc + 3 = pc2) (kt : x ≤ y → sk_G S d M tgt lv st τ K) (kf : ¬ x ≤ y → sk_G S d M pc2 lv st τ K) : sk_G S d M pc lv (.int y :: .int x :: st) τ K := by
  subst hp
  intro p l e s m args below meth c H locs ls ad cA D A X
  obtain ⟨hx, hb, hml, hr, hlk, hown, hts, hP, hK, hD, hS, hR, hl⟩ := id X
  exact lv_icmp_le hx hb hd ht (fun h => kt h p l e s m args below meth c H locs ls ad cA D A X) (fun h => kf h p l e s m args below meth c H locs ls ad cA D A X)

theorem sk_if_eq {x : Int32} {off : Int} (tgt pc2 : Nat) (hd : decode M.2.1 pc = .ok (.ifCond .eq off, 3)) (ht : (pc : Int) + off = (tgt : Int)) (hp : pc + 3 = pc2) (kt : x = 0 → sk_G S d M tgt lv st τ K) (kf : ¬ x = 0 → sk_G S d M pc2 lv st τ K) : sk_G S d M pc lv (.int x :: st) τ K := by
  subst hp
  intro p l e s m args below meth c H locs ls ad cA D A X
  obtain ⟨hx, hb, hml, hr, hlk, hown, hts, hP, hK, hD, hS, hR, hl⟩ := id X
  exact lv_if_eq hx hb hd ht (fun h => kt h p l e s m args below meth c H locs ls ad cA D A X) (fun h => kf h p l e s m args below meth c H locs ls ad cA D A X)

theorem sk_if_ne {x : Int32} {off : Int} (tgt pc2 : Nat) (hd : decode M.2.1 pc = .ok (.ifCond .ne off, 3)) (ht : (pc : Int) + off = (tgt : Int)) (hp : pc + 3 = pc2) (kt : ¬ x = 0 → sk_G S d M tgt lv st τ K) (kf : x = 0 → sk_G S d M pc2 lv st τ K) : sk_G S d M pc lv (.int x :: st) τ K := by
  subst hp
  intro p l e s m args below meth c H locs ls ad cA D A X
  obtain ⟨hx, hb, hml, hr, hlk, hown, hts, hP, hK, hD, hS, hR, hl⟩ := id X
  exact lv_if_ne hx hb hd ht (fun h => kt h p l e s m args below meth c H locs ls ad cA D A X) (fun h => kf h p l e s m args below meth c H locs ls ad cA D A X)

theorem sk_if_lt {x : Int32} {off : Int} (tgt pc2 : Nat) (hd : decode M.2.1 pc = .ok (.ifCond .lt off, 3)) (ht : (pc : Int) + off = (tgt : Int)) (hp : pc + 3 = pc2) (kt : x < 0 → sk_G S d M tgt lv st τ K) (kf : ¬ x < 0 → sk_G S d M pc2 lv st τ K) : sk_G S d M pc lv (.int x :: st) τ K := by
  subst hp
  intro p l e s m args below meth c H locs ls ad cA D A X
  obtain ⟨hx, hb, hml, hr, hlk, hown, hts, hP, hK, hD, hS, hR, hl⟩ := id X
  exact lv_if_lt hx hb hd ht (fun h => kt h p l e s m args below meth c H locs ls ad cA D A X) (fun h => kf h p l e s m args below meth c H locs ls ad cA D A X)

theorem sk_if_ge {x : Int32} {off : Int} (tgt pc2 : Nat) (hd : decode M.2.1 pc = .ok (.ifCond .ge off, 3)) (ht : (pc : Int) + off = (tgt : Int)) (hp : pc + 3 = pc2) (kt : 0 ≤ x → sk_G S d M tgt lv st τ K) (kf : ¬ 0 ≤ x → sk_G S d M pc2 lv st τ K) : sk_G S d M pc lv (.int x :: st) τ K := by
  subst hp
  intro p l e s m args below meth c H locs ls ad cA D A X
  obtain ⟨hx, hb, hml, hr, hlk, hown, hts, hP, hK, hD, hS, hR, hl⟩ := id X
  exact lv_if_ge hx hb hd ht (fun h => kt h p l e s m args below meth c H locs ls ad cA D A X) (fun h => kf h p l e s m args below meth c H locs ls ad cA D A X)

theorem sk_if_gt {x : Int32} {off : Int} (tgt pc2 : Nat) (hd : decode M.2.1 pc = .ok (.ifCond .gt off, 3)) (ht : (pc : Int) + off = (tgt : Int)) (hp : pc + 3 = pc2) (kt : 0 < x → sk_G S d M tgt lv st τ K) (kf : ¬ 0 < x → sk_G S d M pc2 lv st τ K) : sk_G S d M pc lv (.int x :: st) τ K := by
  subst hp
  intro p l e s m args below meth c H locs ls ad cA D A X
  obtain ⟨hx, hb, hml, hr, hlk, hown, hts, hP, hK, hD, hS, hR, hl⟩ := id X
  exact lv_if_gt hx hb hd ht (fun h => kt h p l e s m args below meth c H locs ls ad cA D A X) (fun h => kf h p l e s m args below meth c H locs ls ad cA D A X)

theorem sk_if_le {x : Int32} {off : Int} (tgt pc2 : Nat) (hd : decode M.2.1 pc = .ok (.ifCond .le off, 3)) (ht : (pc : Int) + off = (tgt : Int)) (hp : pc + 3 = pc2) (kt : x ≤ 0 → sk_G S d M tgt lv st τ K) (kf : ¬ x ≤ 0 → sk_G S d M pc2 lv st τ K) : sk_G S d M pc lv (.int x :: st) τ K := by
  subst hp
  intro p l e s m args below meth c H locs ls ad cA D A X
  obtain ⟨hx, hb, hml, hr, hlk, hown, hts, hP, hK, hD, hS, hR, hl⟩ := id X
  exact lv_if_le hx hb hd ht (fun h => kt h p l e s m args below meth c H locs ls ad cA D A X) (fun h => kf h p l e s m args below meth c H locs ls ad cA D A X)

end
end
section
def sk_max (x y : Int32) : Int32 := if x < y then y else x
def sk_min (x y : Int32) : Int32 := if y < x then y else x
section
variable {S : List sk_Sh} {d : Nat} {M : sk_M} {pc : Nat} {lv : sk_L} {st : List Value} {τ : sk_T} {K : sk_K}
theorem sk_get {q ci j c idx : Nat} {cs : List Nat} {v : Value} (pc2 : Nat) (hd : decode M.2.1 pc = .ok (.getfield idx, 3)) (hp : pc + 3 = pc2) (lf : sk_LF M.1.cls idx ci j) (hs : S[q]? = some (0, ci, cs)) (hc : cs[j]? = some c) (hv : ∀ ad : Nat → Nat, sk_v ad (τ q j) c = sk_vm ad v) (k : sk_G S d M pc2 lv (v :: st) τ K) : sk_G S d M pc lv (.ref q :: st) τ K := by
  subst hp
  intro p l e s m args below meth c H locs ls ad cA D A X
  obtain ⟨hx, hb, hml, hr, hlk, hown, hts, hP, hK, hD, hS, hR, hl⟩ := id X
  have k := k p l e s m args below meth c H locs ls ad cA D A X
  obtain ⟨C, T, N, h1, h2, h3, h4⟩ := lf
  have he := sk_wl_at (S := S) (ad := ad) (cA := cA) (τ := τ) hs
  have hf : (sk_fs ad (τ q) cs 0)[j]? = some (sk_vm ad v) := by rw [sk_fs_at hc, Nat.zero_add, hv]
  rcases h4 with h4 | ⟨host, h4⟩
  · exact va_get hx hb hts h3 hown hK hP q he h1 j h2 (hts _ h4) (fun _ z => z) hf hd k
  · exact va_getN (host := host) hx hb hts h3 hown hK hP q he h1 j h2 ((hR.2 _ h4).use rfl) (fun _ z => z) hf hd k
theorem sk_getI {q ci j idx : Nat} {cs : List Nat} (pc2 : Nat) (hd : decode M.2.1 pc = .ok (.getfield idx, 3)) (hp : pc + 3 = pc2) (lf : sk_LF M.1.cls idx ci j) (hs : S[q]? = some (0, ci, cs)) (hc : cs[j]? = some 0) (k : sk_G S d M pc2 lv (.int (τ q j) :: st) τ K) : sk_G S d M pc lv (.ref q :: st) τ K :=
  sk_get (v := .int (τ q j)) pc2 hd hp lf hs hc (fun _ => rfl) k
theorem sk_getB {q ci j idx : Nat} {cs : List Nat} (pc2 : Nat) (hd : decode M.2.1 pc = .ok (.getfield idx, 3)) (hp : pc + 3 = pc2) (lf : sk_LF M.1.cls idx ci j) (hs : S[q]? = some (0, ci, cs)) (hc : cs[j]? = some 1) (k : sk_G S d M pc2 lv (.int (τ q j &&& 1) :: st) τ K) : sk_G S d M pc lv (.ref q :: st) τ K :=
  sk_get (v := .int (τ q j &&& 1)) pc2 hd hp lf hs hc (fun _ => rfl) k
theorem sk_getR {q ci j r idx : Nat} {cs : List Nat} (pc2 : Nat) (hd : decode M.2.1 pc = .ok (.getfield idx, 3)) (hp : pc + 3 = pc2) (lf : sk_LF M.1.cls idx ci j) (hs : S[q]? = some (0, ci, cs)) (hc : cs[j]? = some (r + 2)) (k : sk_G S d M pc2 lv (.ref r :: st) τ K) : sk_G S d M pc lv (.ref q :: st) τ K :=
  sk_get (v := .ref r) pc2 hd hp lf hs hc (fun _ => rfl) k
theorem sk_put {q ci j c idx : Nat} {cs : List Nat} {x : Int32} {ty : FieldType} (pc2 : Nat) (hd : decode M.2.1 pc = .ok (.putfield idx, 3)) (hp : pc + 3 = pc2) (lp : sk_LP M.1.cls idx ci j ty) (hs : S[q]? = some (0, ci, cs)) (hc : cs[j]? = some c) (hv : ∀ ad : Nat → Nat, sk_v ad x c = .int x) (hn : narrow ty (.int x) = .int x) (hft : Jvm.fits ty (.int x) = true) (k : sk_G S d M pc2 lv st (sk_u τ q j x) K) : sk_G S d M pc lv (.int x :: .ref q :: st) τ K := by
  subst hp
  intro p l e s m args below meth c H locs ls ad cA D A X
  obtain ⟨hx, hb, hml, hr, hlk, hown, hts, hP, hK, hD, hS, hR, hl⟩ := id X
  obtain ⟨C, T, N, h1, h2, h3, h4, ⟨ty0, h5⟩, h6, h7, h8⟩ := lp
  have he := sk_wl_at (S := S) (ad := ad) (cA := cA) (τ := τ) hs
  have hlen : j < (sk_fs ad (τ q) cs 0).length := by rw [sk_fs_len]; exact (List.getElem?_eq_some_iff.mp hc).1
  have hset : (sk_wl S ad cA τ).set q (ad q, .inr (ci, (sk_fs ad (τ q) cs 0).set j (.int x))) = sk_wl S ad cA (sk_u τ q j x) := by
    rw [sk_fs_set hc (hv ad), Nat.zero_add]
    exact sk_wl_set hs _
  rcases h4 with h4 | ⟨host, h4⟩
  · refine va_put hx hb hts h3 ty0 h5 h6 hown hK hP hD hS q he h1 j h2 (hts _ h4) (fun _ z => z) h7 h8 hn hft hlen hd (fun H1 locs1 hP1 hD1 hS1 => ?_)
    rw [show sk_vm ad (Value.int x) = .int x from rfl, hset] at hP1 hD1
    exact k p l e s m args below meth c H1 locs1 ls ad cA D A ⟨hx, hb, hml, hr, hlk, hown, hts, hP1, hK, hD1, hS1, hR, hl⟩
  · refine va_putN (host := host) hx hb hts h3 ty0 h5 h6 hown hK hP hD hS q he h1 j h2 ((hR.2 _ h4).use rfl) (fun _ z => z) h7 h8 hn hft hlen hd (fun H1 locs1 hP1 hD1 hS1 => ?_)
    rw [show sk_vm ad (Value.int x) = .int x from rfl, hset] at hP1 hD1
    exact k p l e s m args below meth c H1 locs1 ls ad cA D A ⟨hx, hb, hml, hr, hlk, hown, hts, hP1, hK, hD1, hS1, hR, hl⟩
theorem sk_putI {q ci j idx : Nat} {cs : List Nat} {x : Int32} (pc2 : Nat) (hd : decode M.2.1 pc = .ok (.putfield idx, 3)) (hp : pc + 3 = pc2) (lp : sk_LP M.1.cls idx ci j .int) (hs : S[q]? = some (0, ci, cs)) (hc : cs[j]? = some 0) (k : sk_G S d M pc2 lv st (sk_u τ q j x) K) : sk_G S d M pc lv (.int x :: .ref q :: st) τ K :=
  sk_put pc2 hd hp lp hs hc (fun _ => rfl) rfl rfl k
theorem sk_bit {x : Int32} (h : x &&& 1 = x) : x = 0 ∨ x = 1 := by
  have h1 : (x &&& 1).toBitVec.toNat = x.toBitVec.toNat := by rw [h]
  have h2 : (x &&& 1).toBitVec.toNat = x.toBitVec.toNat % 2 := by
    show (x.toBitVec &&& 1#32).toNat = _
    rw [BitVec.toNat_and]
    exact Nat.and_one_is_mod _
  rcases (show x.toBitVec.toNat = 0 ∨ x.toBitVec.toNat = 1 by omega) with h3 | h3
  · exact Or.inl (Int32.toBitVec_inj.mp (BitVec.eq_of_toNat_eq h3))
  · exact Or.inr (Int32.toBitVec_inj.mp (BitVec.eq_of_toNat_eq h3))
theorem sk_putB {q ci j idx : Nat} {cs : List Nat} {x : Int32} (pc2 : Nat) (hd : decode M.2.1 pc = .ok (.putfield idx, 3)) (hp : pc + 3 = pc2) (lp : sk_LP M.1.cls idx ci j .boolean) (hs : S[q]? = some (0, ci, cs)) (hc : cs[j]? = some 1) (hx1 : x &&& 1 = x) (k : sk_G S d M pc2 lv st (sk_u τ q j x) K) : sk_G S d M pc lv (.int x :: .ref q :: st) τ K :=
  sk_put pc2 hd hp lp hs hc (fun _ => by show Value.int (x &&& 1) = _; rw [hx1]) (by show Value.int (x &&& 1) = _; rw [hx1]) (by rcases sk_bit hx1 with h | h <;> rw [h] <;> rfl) k
theorem sk_iald {q n : Nat} {rs : List Nat} {i : Int32} (pc2 : Nat) (hd : decode M.2.1 pc = .ok (.iaload, 1)) (hp : pc + 1 = pc2) (hs : S[q]? = some (1, n, rs)) (hi : vp_in i n) (j : Nat) (hj : i.toNatClampNeg = j) (k : sk_G S d M pc2 lv (.int (τ q j) :: st) τ K) : sk_G S d M pc lv (.int i :: .ref q :: st) τ K := by
  subst hp
  subst hj
  intro p l e s m args below meth c H locs ls ad cA D A X
  obtain ⟨hx, hb, hml, hr, hlk, hown, hts, hP, hK, hD, hS, hR, hl⟩ := id X
  exact va_iald hx hb hK hP q 0 (sk_wl_at (S := S) (ad := ad) (cA := cA) (τ := τ) hs) rfl hi hd (k p l e s m args below meth c H locs ls ad cA D A X)
theorem sk_bald {q n : Nat} {rs : List Nat} {i : Int32} (pc2 : Nat) (hd : decode M.2.1 pc = .ok (.baload, 1)) (hp : pc + 1 = pc2) (hs : S[q]? = some (2, n, rs)) (hi : vp_in i n) (j : Nat) (hj : i.toNatClampNeg = j) (k : sk_G S d M pc2 lv (.int (vp_nar .byte (τ q j)) :: st) τ K) : sk_G S d M pc lv (.int i :: .ref q :: st) τ K := by
  subst hp
  subst hj
  intro p l e s m args below meth c H locs ls ad cA D A X
  obtain ⟨hx, hb, hml, hr, hlk, hown, hts, hP, hK, hD, hS, hR, hl⟩ := id X
  exact va_bald hx hb hK hP q 1 (sk_wl_at (S := S) (ad := ad) (cA := cA) (τ := τ) hs) rfl hi hd (k p l e s m args below meth c H locs ls ad cA D A X)
theorem sk_aald {q n t r : Nat} {rs : List Nat} {i : Int32} (pc2 : Nat) (hd : decode M.2.1 pc = .ok (.aaload, 1)) (hp : pc + 1 = pc2) (hs : S[q]? = some (t + 3, n, rs)) (ht : t < 3) (hi : vp_in i n) (j : Nat) (hj : i.toNatClampNeg = j) (hr2 : rs[j]? = some r) (k : sk_G S d M pc2 lv (.ref r :: st) τ K) : sk_G S d M pc lv (.int i :: .ref q :: st) τ K := by
  subst hp
  subst hj
  intro p l e s m args below meth c H locs ls ad cA D A X
  obtain ⟨hx, hb, hml, hr, hlk, hown, hts, hP, hK, hD, hS, hR, hl⟩ := id X
  have k := k p l e s m args below meth c H locs ls ad cA D A X
  have he := sk_wl_at (S := S) (ad := ad) (cA := cA) (τ := τ) hs
  have e1 : va_rf ((fun j => (rs[j]?).map ad) i.toNatClampNeg) = .ref (ad r) := by
    show va_rf ((rs[i.toNatClampNeg]?).map ad) = _
    rw [hr2]; rfl
  match t, ht, he with
  | 0, _, he => exact va_aldq (C := "SlateKin$Tile") hx hb hK hP q 2 he rfl hi hd (by rw [e1]; exact k)
  | 1, _, he => exact va_aldq (C := "SlateKin$Law") hx hb hK hP q 3 he rfl hi hd (by rw [e1]; exact k)
  | 2, _, he => exact va_aldq (C := "SlateKin$Sheet") hx hb hK hP q 4 he rfl hi hd (by rw [e1]; exact k)
theorem sk_iast {q n : Nat} {rs : List Nat} {i x : Int32} (pc2 : Nat) (hd : decode M.2.1 pc = .ok (.iastore, 1)) (hp : pc + 1 = pc2) (hs : S[q]? = some (1, n, rs)) (hi : vp_in i n) (j : Nat) (hj : i.toNatClampNeg = j) (k : sk_G S d M pc2 lv st (sk_u τ q j x) K) : sk_G S d M pc lv (.int x :: .int i :: .ref q :: st) τ K := by
  subst hp
  subst hj
  intro p l e s m args below meth c H locs ls ad cA D A X
  obtain ⟨hx, hb, hml, hr, hlk, hown, hts, hP, hK, hD, hS, hR, hl⟩ := id X
  refine va_iast hx hb hK hP hD hS q 0 (sk_wl_at (S := S) (ad := ad) (cA := cA) (τ := τ) hs) rfl hi hd (fun H1 locs1 hP1 hD1 hS1 => ?_)
  have hset : (sk_wl S ad cA τ).set q (ad q, .inl (cA 0, n, .inl (upd (τ q) i.toNatClampNeg x))) = sk_wl S ad cA (sk_u τ q i.toNatClampNeg x) := sk_wl_set hs _
  rw [hset] at hP1 hD1
  exact k p l e s m args below meth c H1 locs1 ls ad cA D A ⟨hx, hb, hml, hr, hlk, hown, hts, hP1, hK, hD1, hS1, hR, hl⟩
theorem sk_bast {q n : Nat} {rs : List Nat} {i x : Int32} (pc2 : Nat) (hd : decode M.2.1 pc = .ok (.bastore, 1)) (hp : pc + 1 = pc2) (hs : S[q]? = some (2, n, rs)) (hi : vp_in i n) (j : Nat) (hj : i.toNatClampNeg = j) (k : sk_G S d M pc2 lv st (sk_u τ q j x) K) : sk_G S d M pc lv (.int x :: .int i :: .ref q :: st) τ K := by
  subst hp
  subst hj
  intro p l e s m args below meth c H locs ls ad cA D A X
  obtain ⟨hx, hb, hml, hr, hlk, hown, hts, hP, hK, hD, hS, hR, hl⟩ := id X
  refine va_bast hx hb hK hP hD hS q 1 (sk_wl_at (S := S) (ad := ad) (cA := cA) (τ := τ) hs) rfl hi hd (fun H1 locs1 hP1 hD1 hS1 => ?_)
  have hset : (sk_wl S ad cA τ).set q (ad q, .inl (cA 1, n, .inl (upd (fun j => vp_nar .byte (τ q j)) i.toNatClampNeg (vp_nar .byte x)))) = sk_wl S ad cA (sk_u τ q i.toNatClampNeg x) := by
    have e2 : upd (fun j => vp_nar .byte (τ q j)) i.toNatClampNeg (vp_nar .byte x) = fun j => vp_nar .byte (upd (τ q) i.toNatClampNeg x j) := by
      funext j
      unfold upd
      split <;> rfl
    rw [e2]
    exact sk_wl_set hs _
  rw [hset] at hP1 hD1
  exact k p l e s m args below meth c H1 locs1 ls ad cA D A ⟨hx, hb, hml, hr, hlk, hown, hts, hP1, hK, hD1, hS1, hR, hl⟩
theorem sk_alenI {q n : Nat} {rs : List Nat} {v : Int32} (pc2 : Nat) (hd : decode M.2.1 pc = .ok (.arraylength, 1)) (hp : pc + 1 = pc2) (hs : S[q]? = some (1, n, rs)) (hv : Int32.ofNat n = v) (k : sk_G S d M pc2 lv (.int v :: st) τ K) : sk_G S d M pc lv (.ref q :: st) τ K := by
  subst hp
  intro p l e s m args below meth c H locs ls ad cA D A X
  obtain ⟨hx, hb, hml, hr, hlk, hown, hts, hP, hK, hD, hS, hR, hl⟩ := id X
  exact va_alen hx hb hK hP q 0 (sk_wl_at (S := S) (ad := ad) (cA := cA) (τ := τ) hs) rfl hv hd (k p l e s m args below meth c H locs ls ad cA D A X)
theorem sk_dup {v : Value} (pc2 : Nat) (hd : decode M.2.1 pc = .ok (.dup, 1)) (hp : pc + 1 = pc2) (hv : v.category = 1) (k : sk_G S d M pc2 lv (v :: v :: st) τ K) : sk_G S d M pc lv (v :: st) τ K := by
  subst hp
  intro p l e s m args below meth c H locs ls ad cA D A X
  obtain ⟨hx, hb, hml, hr, hlk, hown, hts, hP, hK, hD, hS, hR, hl⟩ := id X
  exact lv_dup hx hb hd (by rw [sk_vm_cat]; exact hv) (k p l e s m args below meth c H locs ls ad cA D A X)
theorem sk_dup2 {v w : Value} (pc2 : Nat) (hd : decode M.2.1 pc = .ok (.dup2, 1)) (hp : pc + 1 = pc2) (hv : v.category = 1) (hw : w.category = 1) (k : sk_G S d M pc2 lv (v :: w :: v :: w :: st) τ K) : sk_G S d M pc lv (v :: w :: st) τ K := by
  subst hp
  intro p l e s m args below meth c H locs ls ad cA D A X
  obtain ⟨hx, hb, hml, hr, hlk, hown, hts, hP, hK, hD, hS, hR, hl⟩ := id X
  exact lv_dup2_11 hx hb hd (by rw [sk_vm_cat]; exact hv) (by rw [sk_vm_cat]; exact hw) (k p l e s m args below meth c H locs ls ad cA D A X)
theorem sk_nm {x : Int32} (k : ∀ y : Int32, y = x → sk_G S d M pc lv (.int y :: st) τ K) : sk_G S d M pc lv (.int x :: st) τ K := k x rfl
theorem sk_nmL {x : Int64} (k : ∀ y : Int64, y = x → sk_G S d M pc lv (.long y :: st) τ K) : sk_G S d M pc lv (.long x :: st) τ K := k x rfl
theorem sk_gsA {idx : Nat} (pc2 : Nat) (hd : decode M.2.1 pc = .ok (.getstatic idx, 3)) (hp : pc + 3 = pc2) (hc : Cond.fieldLink M.1.cls idx "SlateKin$Tile" "ABOVE" "[I" ∈ sk_ALL) (k : sk_G S d M pc2 lv (.ref 1000 :: st) τ K) : sk_G S d M pc lv st τ K := by
  subst hp
  intro p l e s m args below meth c H locs ls ad cA D A X
  obtain ⟨hx, hb, hml, hr, hlk, hown, hts, hP, hK, hD, hS, hR, hl⟩ := id X
  exact va_gets hx hb hR.1.1.1 hS hown (hts _ hc) (fun _ z => z) hd (k p l e s m args below meth c H locs ls ad cA D A X)
theorem sk_gsN {idx : Nat} (pc2 : Nat) (hd : decode M.2.1 pc = .ok (.getstatic idx, 3)) (hp : pc + 3 = pc2) (hc : Cond.fieldLink M.1.cls idx "SlateKin$Reader" "NAMES" "[C" ∈ sk_ALL) (k : sk_G S d M pc2 lv (.ref 1001 :: st) τ K) : sk_G S d M pc lv st τ K := by
  subst hp
  intro p l e s m args below meth c H locs ls ad cA D A X
  obtain ⟨hx, hb, hml, hr, hlk, hown, hts, hP, hK, hD, hS, hR, hl⟩ := id X
  exact va_gets hx hb hR.1.2.1.1 hS hown (hts _ hc) (fun _ z => z) hd (k p l e s m args below meth c H locs ls ad cA D A X)
theorem sk_gsB {idx : Nat} (pc2 : Nat) (hd : decode M.2.1 pc = .ok (.getstatic idx, 3)) (hp : pc + 3 = pc2) (hc : Cond.fieldLink M.1.cls idx "SlateKin$Choir" "BODIES" "[I" ∈ sk_ALL) (k : sk_G S d M pc2 lv (.ref 1002 :: st) τ K) : sk_G S d M pc lv st τ K := by
  subst hp
  intro p l e s m args below meth c H locs ls ad cA D A X
  obtain ⟨hx, hb, hml, hr, hlk, hown, hts, hP, hK, hD, hS, hR, hl⟩ := id X
  exact va_gets hx hb hR.1.2.2.1 hS hown (hts _ hc) (fun _ z => z) hd (k p l e s m args below meth c H locs ls ad cA D A X)
theorem sk_ldA {i : Int32} (pc2 : Nat) (hd : decode M.2.1 pc = .ok (.iaload, 1)) (hp : pc + 1 = pc2) (hi : vp_in i 7) (j : Nat) (hj : i.toNatClampNeg = j) (k : sk_G S d M pc2 lv (.int (sk_above j) :: st) τ K) : sk_G S d M pc lv (.int i :: .ref 1000 :: st) τ K := by
  subst hp
  subst hj
  intro p l e s m args below meth c H locs ls ad cA D A X
  obtain ⟨hx, hb, hml, hr, hlk, hown, hts, hP, hK, hD, hS, hR, hl⟩ := id X
  exact va_ti hx hb hR.1.1.2 hS hi rfl hd (k p l e s m args below meth c H locs ls ad cA D A X)
theorem sk_lenA {v : Int32} (pc2 : Nat) (hd : decode M.2.1 pc = .ok (.arraylength, 1)) (hp : pc + 1 = pc2) (hv : 7 = v) (k : sk_G S d M pc2 lv (.int v :: st) τ K) : sk_G S d M pc lv (.ref 1000 :: st) τ K := by
  subst hp
  subst hv
  intro p l e s m args below meth c H locs ls ad cA D A X
  obtain ⟨hx, hb, hml, hr, hlk, hown, hts, hP, hK, hD, hS, hR, hl⟩ := id X
  exact va_tlen hx hb hR.1.1.2 hS rfl hd (k p l e s m args below meth c H locs ls ad cA D A X)
theorem sk_ldN {i : Int32} (pc2 : Nat) (hd : decode M.2.1 pc = .ok (.caload, 1)) (hp : pc + 1 = pc2) (hi : vp_in i 6) (j : Nat) (hj : i.toNatClampNeg = j) (k : sk_G S d M pc2 lv (.int (sk_names j) :: st) τ K) : sk_G S d M pc lv (.int i :: .ref 1001 :: st) τ K := by
  subst hp
  subst hj
  intro p l e s m args below meth c H locs ls ad cA D A X
  obtain ⟨hx, hb, hml, hr, hlk, hown, hts, hP, hK, hD, hS, hR, hl⟩ := id X
  exact va_tc hx hb hR.1.2.1.2 hS hi rfl hd (k p l e s m args below meth c H locs ls ad cA D A X)
theorem sk_ldB {i : Int32} (pc2 : Nat) (hd : decode M.2.1 pc = .ok (.iaload, 1)) (hp : pc + 1 = pc2) (hi : vp_in i 28) (j : Nat) (hj : i.toNatClampNeg = j) (k : sk_G S d M pc2 lv (.int (sk_bodies j) :: st) τ K) : sk_G S d M pc lv (.int i :: .ref 1002 :: st) τ K := by
  subst hp
  subst hj
  intro p l e s m args below meth c H locs ls ad cA D A X
  obtain ⟨hx, hb, hml, hr, hlk, hown, hts, hP, hK, hD, hS, hR, hl⟩ := id X
  exact va_ti hx hb hR.1.2.2.2 hS hi rfl hd (k p l e s m args below meth c H locs ls ad cA D A X)
def sk_sw (G : Nat → Prop) (x : Int32) : Int → List Nat → Prop
  | _, [] => True
  | n, t :: ts => (x = Int32.ofInt n → G t) ∧ sk_sw G x (n + 1) ts
theorem sk_sw_at {G : Nat → Prop} {x : Int32} : ∀ {ts : List Nat} {n : Int} {k t : Nat}, sk_sw G x n ts → ts[k]? = some t → x = Int32.ofInt (n + k) → G t
  | [], n, k, t, _, h, _ => by simp at h
  | t0 :: ts, n, 0, t, hs, h, hx => by simp at h; subst h; exact hs.1 (by simpa using hx)
  | t0 :: ts, n, k + 1, t, hs, h, hx => sk_sw_at (n := n + 1) (k := k) hs.2 (by simpa using h) (by rw [hx]; congr 1; omega)
theorem sk_table {x : Int32} {dflt lo hi : Int} {offs : Array Int} {len : Nat} (tg : List Nat) (td : Nat) (hd : decode M.2.1 pc = .ok (.tableswitch dflt lo hi offs, len)) (h1 : hi = lo + tg.length - 1) (h2 : -100000 ≤ lo ∧ hi ≤ 100000) (h3 : offs.toList = tg.map (fun t : Nat => (t : Int) - (pc : Int))) (h4 : (pc : Int) + dflt = (td : Int))
    (k : sk_sw (fun t => sk_G S d M t lv st τ K) x lo tg) (kd : (∀ i : Nat, i < tg.length → ¬ x = Int32.ofInt (lo + i)) → sk_G S d M td lv st τ K) : sk_G S d M pc lv (.int x :: st) τ K := by
  intro p l e s m args below meth c H locs ls ad cA D A X
  obtain ⟨hx, hb, hml, hr, hlk, hown, hts, hP, hK, hD, hS, hR, hl⟩ := id X
  by_cases hlo : x.toInt < lo
  · exact lv_tableOut hx hb hd (Or.inl hlo) h4 (kd (fun i hi e => by
      rw [e, Int32.toInt_ofInt_of_le (by omega) (by omega)] at hlo; omega) p l e s m args below meth c H locs ls ad cA D A X)
  · by_cases hhi : hi < x.toInt
    · exact lv_tableOut hx hb hd (Or.inr hhi) h4 (kd (fun i hi e => by
        rw [e, Int32.toInt_ofInt_of_le (by omega) (by omega)] at hhi; omega) p l e s m args below meth c H locs ls ad cA D A X)
    · have hk : (x.toInt - lo).toNat < tg.length := by omega
      obtain ⟨t, ht⟩ : ∃ t, tg[(x.toInt - lo).toNat]? = some t := ⟨_, List.getElem?_eq_getElem hk⟩
      have ho : offs[(x.toInt - lo).toNat]? = some ((t : Int) - pc) := by
        rw [← Array.getElem?_toList, h3, List.getElem?_map, ht]; rfl
      refine lv_tableIn hx hb hd hlo hhi ho (tgt := t) (by omega) (sk_sw_at k ht ?_ p l e s m args below meth c H locs ls ad cA D A X)
      have : lo + ((x.toInt - lo).toNat : Int) = x.toInt := by omega
      rw [this]; exact (Int32.ofInt_toInt x).symm
def sk_lk (G : Nat → Prop) (x : Int32) : List (Int × Nat) → Prop
  | [] => True
  | (n, t) :: ts => (x = Int32.ofInt n → G t) ∧ sk_lk G x ts
theorem sk_lk_go {G : Nat → Prop} {x : Int32} {pc : Nat} {dflt : Int} {td : Nat} (h4 : (pc : Int) + dflt = (td : Int)) : ∀ (tg : List (Int × Nat)), (∀ q ∈ tg, (Int32.ofInt q.1).toInt = q.1) → sk_lk G x tg → ((∀ q ∈ tg, ¬ x = Int32.ofInt q.1) → G td) → ∃ t : Nat, (pc : Int) + Op.lookupswitch.offset (tg.map (fun q : Int × Nat => (q.1, (q.2 : Int) - (pc : Int)))) dflt x.toInt = (t : Int) ∧ G t
  | [], _, _, hd => ⟨td, h4, hd (fun q h => by cases h)⟩
  | (n, t) :: ts, hN, h, hd => by
    by_cases e : x.toInt = n
    · refine ⟨t, ?_, h.1 (by rw [← e, Int32.ofInt_toInt])⟩
      simp [Op.lookupswitch.offset, e]; omega
    · obtain ⟨t2, h1, h2⟩ := sk_lk_go h4 ts (fun q hm => hN q (List.mem_cons_of_mem _ hm)) h.2 (fun hq => hd (fun q hm => by
        rcases List.mem_cons.mp hm with rfl | hm
        · exact fun e2 => e (by rw [e2]; exact hN _ List.mem_cons_self)
        · exact hq q hm))
      refine ⟨t2, ?_, h2⟩
      rw [← h1]
      have e3 : ¬ n = x.toInt := fun z => e z.symm
      simp [Op.lookupswitch.offset, e, e3]
theorem sk_look {x : Int32} {dflt : Int} {ps : Array (Int × Int)} {len : Nat} (tg : List (Int × Nat)) (td : Nat) (hd : decode M.2.1 pc = .ok (.lookupswitch dflt ps, len)) (h1 : (ps.toList.zip (ps.toList.drop 1)).all (fun (a, next) => a.1 < next.1) = true) (h2 : ∀ q ∈ tg, (Int32.ofInt q.1).toInt = q.1) (h3 : ps.toList = tg.map (fun q : Int × Nat => (q.1, (q.2 : Int) - (pc : Int)))) (h4 : (pc : Int) + dflt = (td : Int))
    (k : sk_lk (fun t => sk_G S d M t lv st τ K) x tg) (kd : (∀ q ∈ tg, ¬ x = Int32.ofInt q.1) → sk_G S d M td lv st τ K) : sk_G S d M pc lv (.int x :: st) τ K := by
  intro p l e s m args below meth c H locs ls ad cA D A X
  obtain ⟨hx, hb, hml, hr, hlk, hown, hts, hP, hK, hD, hS, hR, hl⟩ := id X
  obtain ⟨t, ht, hG⟩ := sk_lk_go h4 tg h2 k kd
  rw [← h3] at ht
  exact lv_lookup hx hb hd h1 rfl ht (hG p l e s m args below meth c H locs ls ad cA D A X)
theorem sk_iret {x : Int32} {ty : FieldType} (hd : decode M.2.1 pc = .ok (.ireturn, 1)) (hrt : M.2.2.2 = some ty) (hn : narrow ty (.int x) = .int x) (k : K (some (.int x)) τ) : sk_G S d M pc lv [.int x] τ K := by
  intro p l e s m args below meth c H locs ls ad cA D A X
  obtain ⟨hx, hb, hml, hr, hlk, hown, hts, hP, hK, hD, hS, hR, hl⟩ := id X
  exact W.zret hx hb (hr.trans hrt) hn (fun t ht hW => ⟨some (.int x), τ, rfl, k, ⟨by rw [ht]; exact hP, va_K.moved hW.alike hK, hD, (hR.1.moved hW.alike).kept (fun a h1 h2 => by rw [ht]; exact hS.2.1 a h1 h2)⟩, hS.F ht⟩) hS.2.2 hd hlk
theorem sk_lret {x : Int64} (hd : decode M.2.1 pc = .ok (.lreturn, 1)) (hrt : M.2.2.2 = some .long) (k : K (some (.long x)) τ) : sk_G S d M pc lv [.long x] τ K := by
  intro p l e s m args below meth c H locs ls ad cA D A X
  obtain ⟨hx, hb, hml, hr, hlk, hown, hts, hP, hK, hD, hS, hR, hl⟩ := id X
  exact W.lret hx hb (hr.trans hrt) (fun t ht hW => ⟨some (.long x), τ, rfl, k, ⟨by rw [ht]; exact hP, va_K.moved hW.alike hK, hD, (hR.1.moved hW.alike).kept (fun a h1 h2 => by rw [ht]; exact hS.2.1 a h1 h2)⟩, hS.F ht⟩) hS.2.2 hd hlk
theorem sk_vret (hd : decode M.2.1 pc = .ok (.return_, 1)) (hrt : M.2.2.2 = none) (k : K none τ) : sk_G S d M pc lv [] τ K := by
  intro p l e s m args below meth c H locs ls ad cA D A X
  obtain ⟨hx, hb, hml, hr, hlk, hown, hts, hP, hK, hD, hS, hR, hl⟩ := id X
  exact W.vret hx hb (hr.trans hrt) (fun t ht hW => ⟨none, τ, rfl, k, ⟨by rw [ht]; exact hP, va_K.moved hW.alike hK, hD, (hR.1.moved hW.alike).kept (fun a h1 h2 => by rw [ht]; exact hS.2.1 a h1 h2)⟩, hS.F ht⟩) hS.2.2 hd hlk
end
/-- what a call says, to the caller's own walk -/
theorem sk_run {p : Program} {l : Launch} {e : Env} {R : Room} {s : State} {m : MethodId} {args : Array Value} {below : List Frame} {meth : Method} {c : Code} {H : Heap} {locs : List Loc} {cells slots : Nat} {Q : State → Prop} {pc : Nat} {ls : Array Slot} {rest st0 : List Value} {a : Array Value} {A : Nat → Prop} {S : List sk_Sh} {ad : Nat → Nat} {cA : Nat → ClassId} {D : va_G} {K : sk_K} {H0 : Heap} {A0 : Nat → Prop}
    (hr : va_Run p l e R s m args below meth c H locs cells slots 0 0 (F0 m pc ls st0) rest (sk_Qc S ad cA D A K a) A) (hS : va_S A0 H0 H locs) (hA : ∀ q, A q → A0 q)
    (kk : ∀ (v : Option Value) (τ2 : sk_T) (t : State) (H1 : Heap) (locs1 : List Loc), t.heap = H1 → s.vm.Alike t.vm → K v τ2 → sk_Wd S ad cA D A τ2 t → (∀ q : Nat, q < H.size → ¬ A q → H1[q]? = H[q]?) → va_S A0 H0 H1 locs1 → W p l e R s m args below meth c H1 locs1 cells slots Q (F0 m (pc + 3) ls ((v.map (sk_vm ad)).toList ++ rest))) : W p l e R s m args below meth c H locs cells slots Q (F0 m pc ls st0) := by
  intro T hT X
  obtain ⟨v, st₀, t, T', L, h0, X', hL, e1, e2, ⟨v2, τ2, hv, hk, hw, hz, hq⟩, st⟩ := hr T hT X
  cases hv
  rw [h0] at hz hq
  obtain ⟨t2, a1, b1⟩ := kk v2 τ2 t T'.heap (locs ++ L) e1.symm (by rw [← e2]; exact X'.warmed.alike) hk hw (fun q h1 h2 => by rw [e1]; exact hq q h1 h2)
    ⟨Nat.le_trans hS.1 (by rw [e1]; exact hz), fun q h1 h2 => by rw [e1, hq q (Nat.lt_of_lt_of_le h1 hS.1) (fun z => h2 (hA q z))]; exact hS.2.1 q h1 h2, fun q hq => by
      rcases List.mem_append.mp hq with h | h
      · exact hS.2.2 q h
      · exact hA _ (hL q h)⟩ T' rfl X'
  exact ⟨t2, st t2 a1, b1⟩
theorem sk_pre {S : List sk_Sh} {ad : Nat → Nat} {cA : Nat → ClassId} {D : va_G} {A : Nat → Prop} {τ : sk_T} {vs : List Value} {s : State} {H : Heap} {locs : List Loc} (hP : va_P D vwCl (sk_wl S ad cA τ) H) (hK : va_K D vwCl (sk_tys cA) s) (hD : va_D A (sk_wl S ad cA τ)) (hq : ∀ q : Nat, q < s.heap.size → ¬ A q → H[q]? = s.heap[q]?) (hR : sk_Ro ad A s s.heap) (hN : sk_NW s) :
    FrameBlind (va_Pc (vs.map (sk_vm ad)) (fun U => sk_Wd S ad cA D A τ U ∧ sk_NW U)) ∧ ∀ U : State, U.heap = H → s.WarmedH U.vm → va_Pc (vs.map (sk_vm ad)) (fun U => sk_Wd S ad cA D A τ U ∧ sk_NW U) (vs.map (sk_vm ad)).toArray U := by
  refine ⟨fun a U g mk q => ?_, fun U hU hW => ?_⟩
  · obtain ⟨q0, ⟨qP, qK, qD, qR⟩, qN⟩ := q
    exact ⟨q0, ⟨qP, va_K.moved (u := U) (U := U.calling g mk a) (Vm.Alike.refl U.vm) qK, qD, sk_Ro.moved (u := U) (U := U.calling g mk a) (Vm.Alike.refl U.vm) qR⟩, sk_NW.same (u := U) (U := U.calling g mk a) rfl qN⟩
  · exact ⟨rfl, ⟨by rw [hU]; exact hP, va_K.moved hW.alike hK, hD, (hR.moved hW.alike).kept (fun a h1 h2 => by rw [hU]; exact hq a h1 h2)⟩, hN.warm hW⟩
theorem sk_goodM {M : sk_M} {n : Nat} (mf : sk_MF M n) : GoodIn sk_ALL (sk_ws M) := by
  intro w h
  rcases List.mem_cons.mp h with rfl | h
  · exact ⟨mf.1, good_of_word (sk_good _ mf.1)⟩
  · exact sk_goodIn w h
theorem sk_rmL {d n : Nat} (h0 : 0 < d) (h : n ≤ 21) : (sk_rm (d - 1)).frames + 1 ≤ (sk_rm d).frames ∧ 8 + (n + 11) + (sk_rm (d - 1)).locals ≤ (sk_rm d).locals := by
  refine ⟨?_, ?_⟩
  · show d - 1 + 1 ≤ d
    omega
  · show 8 + (n + 11) + 40 * (d - 1) ≤ 40 * d
    omega
def sk_LV (own : String) (idx : Nat) (y : MethodName) : Prop := Cond.methodLink own idx y ∈ sk_ALL ∨ ∃ host, Cond.methodLinkNest own idx y host ∈ sk_NL
section
variable {S : List sk_Sh} {d : Nat} {M : sk_M} {pc : Nat} {lv : sk_L} {st : List Value} {τ : sk_T} {K : sk_K}
theorem sk_callV {M2 : sk_M} {n idx q ci : Nat} {cs : List Nat} {r : vw_C} (As rest : List Value) (pc2 : Nat) (hd : decode M.2.1 pc = .ok (.invokevirtual idx, 3)) (hp : pc + 3 = pc2) (mf : sk_MF M2 n) (hl : sk_LV M.1.cls idx M2.1) (hi : Cond.instanceMethod M2.1 ∈ sk_ALL) (hse : Cond.selects M2.1.cls M2.1 M2.1 ∈ sk_ALL)
    (hs : S[q]? = some (0, ci, cs)) (hci : vwCl[ci]? = some r) (hrc : r.1 = M2.1.cls) (hn : As.length = n) (hst : st = As.reverse ++ .ref q :: rest) (hcat : (rest.map fun v => v.category).sum ≤ 8) (h0 : 0 < d)
    (k : sk_C S (d - 1) M2 (.ref q :: As) τ (fun v τ2 => sk_G S d M pc2 lv (v.toList ++ rest) τ2 K)) : sk_G S d M pc lv st τ K := by
  subst hp
  subst hst
  intro p l e s m args below meth c H locs ls ad cA D A X
  obtain ⟨hx, hb, hml, hr, hlk, hown, hts, hP, hK, hD, hS, hR, hl9⟩ := id X
  have hfr := sk_rmL (d := d) (n := M2.2.2.1) h0 mf.2.2.2.2.2.2
  have hpre := sk_pre (vs := .ref q :: As) (locs := locs) hP hK hD hS.2.1 hR.1 hR.2
  have hst2 : List.map (sk_vm ad) (As.reverse ++ Value.ref q :: rest) = (As.map (sk_vm ad)).reverse ++ .ref (ad q) :: rest.map (sk_vm ad) := by rw [List.map_append, List.map_reverse]; rfl
  have hrun : va_Run p l e (sk_rm d) s m args below meth c H locs 0 0 0 0 (F0 m pc ls ((As.reverse ++ Value.ref q :: rest).map (sk_vm ad))) (rest.map (sk_vm ad)) (sk_Qc S ad cA D A (fun v τ2 => sk_G S d M (pc + 3) lv (v.toList ++ rest) τ2 K) (Value.ref (ad q) :: As.map (sk_vm ad)).toArray) A := by
    rcases hl with hl | ⟨host, hl⟩
    · exact va_runV (C := M2.1.cls) (As := As.map (sk_vm ad)) ⟨hx, hb, hml, hown, hts⟩ (k l ad cA D A) ⟨callB_of (index := idx) n hts (sk_goodM mf) rfl rfl rfl (hts _ mf.2.1) (hts _ hl) ⟨mf.2.2.2.1, mf.2.2.2.2.1, mf.2.2.2.2.2.1⟩ hfr, hts _ hi, hts _ hse⟩ ⟨hpre.1, hrc ▸ va_recv hK hP hci (sk_wl_at (S := S) (ad := ad) (cA := cA) (τ := τ) hs), hpre.2⟩ rfl (by rw [List.length_map]; exact hn) hl9.1 hst2 (lv_room (by rw [sk_cat_m]; exact hcat)) hd ⟨Nat.le_refl _, Nat.le_refl _⟩
    · exact va_runVN (C := M2.1.cls) (host := host) (As := As.map (sk_vm ad)) ⟨hx, hb, hml, hown, hts⟩ (k l ad cA D A) ⟨va_cnB (index := idx) n hts (sk_goodM mf) rfl rfl rfl (hR.2 _ hl) (hts _ mf.2.1) ⟨mf.2.2.2.1, mf.2.2.2.2.1, mf.2.2.2.2.2.1⟩ hfr, hts _ hi, hts _ hse⟩ ⟨hpre.1, hrc ▸ va_recv hK hP hci (sk_wl_at (S := S) (ad := ad) (cA := cA) (τ := τ) hs), hpre.2⟩ rfl (by rw [List.length_map]; exact hn) hl9.1 hst2 (lv_room (by rw [sk_cat_m]; exact hcat)) hd ⟨Nat.le_refl _, Nat.le_refl _⟩
  refine sk_run hrun hS (fun _ h => h) (fun v τ2 t H1 locs1 ht hvm hk hw hq hS1 => ?_)
  obtain ⟨hP1, hK1, hD1, hR1⟩ := hw
  rw [ht] at hP1
  have hkk := hk p l e s m args below meth c H1 locs1 ls ad cA D A ⟨hx, hb, hml, hr, hlk, hown, hts, hP1, hK, hD1, hS1, hR, hl9⟩
  have e5 : (v.toList ++ rest).map (sk_vm ad) = (v.map (sk_vm ad)).toList ++ rest.map (sk_vm ad) := by cases v <;> simp
  rw [e5] at hkk
  exact hkk
theorem sk_callS {M2 : sk_M} {n idx : Nat} (As rest : List Value) (pc2 : Nat) (hd : decode M.2.1 pc = .ok (.invokestatic idx, 3)) (hp : pc + 3 = pc2) (mf : sk_MF M2 n) (hl : sk_LV M.1.cls idx M2.1) (hi : Cond.static M2.1 ∈ sk_ALL)
    (hn : As.length = n) (hst : st = As.reverse ++ rest) (hcat : (rest.map fun v => v.category).sum ≤ 8) (h0 : 0 < d)
    (k : sk_C S (d - 1) M2 As τ (fun v τ2 => sk_G S d M pc2 lv (v.toList ++ rest) τ2 K)) : sk_G S d M pc lv st τ K := by
  subst hp
  subst hst
  intro p l e s m args below meth c H locs ls ad cA D A X
  obtain ⟨hx, hb, hml, hr, hlk, hown, hts, hP, hK, hD, hS, hR, hl9⟩ := id X
  have hfr := sk_rmL (d := d) (n := M2.2.2.1) h0 mf.2.2.2.2.2.2
  have hpre := sk_pre (vs := As) (locs := locs) hP hK hD hS.2.1 hR.1 hR.2
  have hst2 : List.map (sk_vm ad) (As.reverse ++ rest) = (As.map (sk_vm ad)).reverse ++ rest.map (sk_vm ad) := by rw [List.map_append, List.map_reverse]
  have hrun : va_Run p l e (sk_rm d) s m args below meth c H locs 0 0 0 0 (F0 m pc ls ((As.reverse ++ rest).map (sk_vm ad))) (rest.map (sk_vm ad)) (sk_Qc S ad cA D A (fun v τ2 => sk_G S d M (pc + 3) lv (v.toList ++ rest) τ2 K) (As.map (sk_vm ad)).toArray) A := by
    rcases hl with hl | ⟨host, hl⟩
    · exact va_runS (As := As.map (sk_vm ad)) ⟨hx, hb, hml, hown, hts⟩ (k l ad cA D A) ⟨callB_of (index := idx) n hts (sk_goodM mf) rfl rfl rfl (hts _ mf.2.1) (hts _ hl) ⟨mf.2.2.2.1, mf.2.2.2.2.1, mf.2.2.2.2.2.1⟩ hfr, hts _ hi⟩ ⟨hpre.1, hpre.2⟩ rfl (by rw [List.length_map]; exact hn) hl9.1 hst2 (lv_room (by rw [sk_cat_m]; exact hcat)) hd ⟨Nat.le_refl _, Nat.le_refl _⟩
    · exact va_runSN (host := host) (As := As.map (sk_vm ad)) ⟨hx, hb, hml, hown, hts⟩ (k l ad cA D A) ⟨va_cnB (index := idx) n hts (sk_goodM mf) rfl rfl rfl (hR.2 _ hl) (hts _ mf.2.1) ⟨mf.2.2.2.1, mf.2.2.2.2.1, mf.2.2.2.2.2.1⟩ hfr, hts _ hi, trivial⟩ ⟨hpre.1, hpre.2⟩ rfl (by rw [List.length_map]; exact hn) hl9.1 hst2 (lv_room (by rw [sk_cat_m]; exact hcat)) hd ⟨Nat.le_refl _, Nat.le_refl _⟩
  refine sk_run hrun hS (fun _ h => h) (fun v τ2 t H1 locs1 ht hvm hk hw hq hS1 => ?_)
  obtain ⟨hP1, hK1, hD1, hR1⟩ := hw
  rw [ht] at hP1
  have hkk := hk p l e s m args below meth c H1 locs1 ls ad cA D A ⟨hx, hb, hml, hr, hlk, hown, hts, hP1, hK, hD1, hS1, hR, hl9⟩
  have e5 : (v.toList ++ rest).map (sk_vm ad) = (v.map (sk_vm ad)).toList ++ rest.map (sk_vm ad) := by cases v <;> simp
  rw [e5] at hkk
  exact hkk
theorem sk_copyI {idx q0 q1 n0 n1 : Nat} {r0 r1 : List Nat} {sp dp n : Int32} (pc2 : Nat) (hd : decode M.2.1 pc = .ok (.invokestatic idx, 3)) (hp : pc + 3 = pc2) (hl : Cond.methodLink M.1.cls idx arraycopyName ∈ sk_ALL) (hw : Cond.native arraycopyName ∈ sk_ALL ∧ Cond.static arraycopyName ∈ sk_ALL ∧ Cond.initialized "java/lang/System" ∈ sk_ALL)
    (hs0 : S[q0]? = some (1, n0, r0)) (hs1 : S[q1]? = some (1, n1, r1)) (h1 : ¬ sp < 0) (h2 : ¬ dp < 0) (h3 : ¬ n < 0) (h4 : sp.toNatClampNeg + n.toNatClampNeg ≤ n0) (h5 : dp.toNatClampNeg + n.toNatClampNeg ≤ n1) (hcat : (st.map fun v => v.category).sum ≤ 8) (h0 : 0 < d)
    (k : sk_G S d M pc2 lv st (sk_w τ q1 (va_cpy (τ q0) (τ q1) sp.toNatClampNeg dp.toNatClampNeg n.toNatClampNeg)) K) : sk_G S d M pc lv (.int n :: .int dp :: .ref q1 :: .int sp :: .ref q0 :: st) τ K := by
  subst hp
  intro p l e s m args below meth c H locs ls ad cA D A X
  obtain ⟨hx, hb, hml, hr, hlk, hown, hts, hP, hK, hD, hS, hR, hl9⟩ := id X
  refine va_copyi hx hb (hml.trans hl9.1.symm) hown (hts _ hl) (hts _ hw.1) (hts _ hw.2.1) (hts _ hw.2.2) hK hP hD hS q0 q1 0 0 (sk_wl_at (S := S) (ad := ad) (cA := cA) (τ := τ) hs0) (sk_wl_at (S := S) (ad := ad) (cA := cA) (τ := τ) hs1) rfl rfl rfl h1 h2 h3 h4 h5 (fun i hi => rfl) (show 1 ≤ d from h0) (by rw [sk_cat_m]; show _ + (7 + 11) ≤ 40 * d; omega) hd (fun H1 locs1 hP1 hD1 hS1 => ?_)
  have hset : (sk_wl S ad cA τ).set q1 (ad q1, .inl (cA 0, n1, .inl (va_cpy (τ q0) (τ q1) sp.toNatClampNeg dp.toNatClampNeg n.toNatClampNeg))) = sk_wl S ad cA (sk_w τ q1 (va_cpy (τ q0) (τ q1) sp.toNatClampNeg dp.toNatClampNeg n.toNatClampNeg)) := sk_wl_set hs1 _
  rw [hset] at hP1 hD1
  exact k p l e s m args below meth c H1 locs1 ls ad cA D A ⟨hx, hb, hml, hr, hlk, hown, hts, hP1, hK, hD1, hS1, hR, hl9⟩
theorem sk_copyB {idx q0 q1 n0 n1 : Nat} {r0 r1 : List Nat} {sp dp n : Int32} (pc2 : Nat) (hd : decode M.2.1 pc = .ok (.invokestatic idx, 3)) (hp : pc + 3 = pc2) (hl : Cond.methodLink M.1.cls idx arraycopyName ∈ sk_ALL) (hw : Cond.native arraycopyName ∈ sk_ALL ∧ Cond.static arraycopyName ∈ sk_ALL ∧ Cond.initialized "java/lang/System" ∈ sk_ALL)
    (hs0 : S[q0]? = some (2, n0, r0)) (hs1 : S[q1]? = some (2, n1, r1)) (h1 : ¬ sp < 0) (h2 : ¬ dp < 0) (h3 : ¬ n < 0) (h4 : sp.toNatClampNeg + n.toNatClampNeg ≤ n0) (h5 : dp.toNatClampNeg + n.toNatClampNeg ≤ n1) (hcat : (st.map fun v => v.category).sum ≤ 8) (h0 : 0 < d)
    (k : sk_G S d M pc2 lv st (sk_w τ q1 (va_cpy (τ q0) (τ q1) sp.toNatClampNeg dp.toNatClampNeg n.toNatClampNeg)) K) : sk_G S d M pc lv (.int n :: .int dp :: .ref q1 :: .int sp :: .ref q0 :: st) τ K := by
  subst hp
  intro p l e s m args below meth c H locs ls ad cA D A X
  obtain ⟨hx, hb, hml, hr, hlk, hown, hts, hP, hK, hD, hS, hR, hl9⟩ := id X
  refine va_copyi hx hb (hml.trans hl9.1.symm) hown (hts _ hl) (hts _ hw.1) (hts _ hw.2.1) (hts _ hw.2.2) hK hP hD hS q0 q1 1 1 (sk_wl_at (S := S) (ad := ad) (cA := cA) (τ := τ) hs0) (sk_wl_at (S := S) (ad := ad) (cA := cA) (τ := τ) hs1) rfl rfl rfl h1 h2 h3 h4 h5 (fun i hi => pk_fb _) (show 1 ≤ d from h0) (by rw [sk_cat_m]; show _ + (7 + 11) ≤ 40 * d; omega) hd (fun H1 locs1 hP1 hD1 hS1 => ?_)
  have hset : (sk_wl S ad cA τ).set q1 (ad q1, .inl (cA 1, n1, .inl (va_cpy (fun j => vp_nar .byte (τ q0 j)) (fun j => vp_nar .byte (τ q1 j)) sp.toNatClampNeg dp.toNatClampNeg n.toNatClampNeg))) = sk_wl S ad cA (sk_w τ q1 (va_cpy (τ q0) (τ q1) sp.toNatClampNeg dp.toNatClampNeg n.toNatClampNeg)) := by
    have e2 : va_cpy (fun j => vp_nar .byte (τ q0 j)) (fun j => vp_nar .byte (τ q1 j)) sp.toNatClampNeg dp.toNatClampNeg n.toNatClampNeg = fun j => vp_nar .byte (va_cpy (τ q0) (τ q1) sp.toNatClampNeg dp.toNatClampNeg n.toNatClampNeg j) := by
      funext j
      unfold va_cpy
      split <;> rfl
    rw [e2]
    exact sk_wl_set hs1 _
  rw [hset] at hP1 hD1
  exact k p l e s m args below meth c H1 locs1 ls ad cA D A ⟨hx, hb, hml, hr, hlk, hown, hts, hP1, hK, hD1, hS1, hR, hl9⟩
theorem sk_mmax {idx : Nat} {x y : Int32} (pc2 : Nat) (hd : decode M.2.1 pc = .ok (.invokestatic idx, 3)) (hp : pc + 3 = pc2) (hl : Cond.methodLink M.1.cls idx Lib.Math.max.name ∈ sk_ALL) (hw : Cond.static Lib.Math.max.name ∈ sk_ALL ∧ Cond.initialized "java/lang/Math" ∈ sk_ALL ∧ Cond.code Lib.Math.max.name Lib.Math.max.code 2 (some .int) ∈ sk_ALL) (hcat : (st.map fun v => v.category).sum ≤ 8) (h0 : 0 < d)
    (k : sk_G S d M pc2 lv (.int (sk_max x y) :: st) τ K) : sk_G S d M pc lv (.int y :: .int x :: st) τ K := by
  subst hp
  intro p l e s m args below meth c H locs ls ad cA D A X
  obtain ⟨hx, hb, hml, hr, hlk, hown, hts, hP, hK, hD, hS, hR, hl9⟩ := id X
  exact va_mmax hx hb (hml.trans hl9.1.symm) hown (hts _ hl) (hts _ hw.1) (hts _ hw.2.1) (hts _ hw.2.2) (show 1 ≤ d from h0) (by rw [sk_cat_m]; show _ + 13 ≤ 40 * d; omega) (Nat.le_refl _) (Nat.le_refl _) hd (k p l e s m args below meth c H locs ls ad cA D A X)
theorem sk_mmin {idx : Nat} {x y : Int32} (pc2 : Nat) (hd : decode M.2.1 pc = .ok (.invokestatic idx, 3)) (hp : pc + 3 = pc2) (hl : Cond.methodLink M.1.cls idx Lib.Math.min.name ∈ sk_ALL) (hw : Cond.static Lib.Math.min.name ∈ sk_ALL ∧ Cond.initialized "java/lang/Math" ∈ sk_ALL ∧ Cond.code Lib.Math.min.name Lib.Math.min.code 2 (some .int) ∈ sk_ALL) (hcat : (st.map fun v => v.category).sum ≤ 8) (h0 : 0 < d)
    (k : sk_G S d M pc2 lv (.int (sk_min x y) :: st) τ K) : sk_G S d M pc lv (.int y :: .int x :: st) τ K := by
  subst hp
  intro p l e s m args below meth c H locs ls ad cA D A X
  obtain ⟨hx, hb, hml, hr, hlk, hown, hts, hP, hK, hD, hS, hR, hl9⟩ := id X
  exact va_mmin hx hb (hml.trans hl9.1.symm) hown (hts _ hl) (hts _ hw.1) (hts _ hw.2.1) (hts _ hw.2.2) (show 1 ≤ d from h0) (by rw [sk_cat_m]; show _ + 13 ≤ 40 * d; omega) (Nat.le_refl _) (Nat.le_refl _) hd (k p l e s m args below meth c H locs ls ad cA D A X)
theorem sk_enter {n : Nat} {vs : List Value} (mf : sk_MF M n) (hlen : (lg_sl vs).length ≤ M.2.2.1) (k : sk_G S d M 0 (lv_args 0 vs) [] τ K) : sk_C S d M vs τ K := by
  intro l ad cA D A
  refine Met.ofW (cc := M.2.1) (maxL := M.2.2.1) (ret := M.2.2.2) mf.2.2.1 rfl ?_
  intro p e s m args below meth c s₁ B hml hv
  obtain ⟨rfl, ⟨hP, hK, hD, hR⟩, hN⟩ := hv
  have hts := atoms_spec (ws := sk_ws M) B.pre
  rw [lg_entry_eq, sk_sl_len]
  have hl := lv_entry (vs.map (sk_vm ad)) (n := M.2.2.1) (by rw [sk_sl_len]; exact hlen)
  rw [sk_args_m, sk_sl_len] at hl
  exact k p l e s m _ below meth c s.heap [] _ ad cA D A ⟨B.exec, B.bytes, hml, B.returns, B.notSynchronized, findClass_of_methodNamed B.named, fun w hw => hts w (List.mem_cons_of_mem _ hw), hP, hK, hD, va_S.rf, ⟨hR, hN⟩, hl⟩
theorem sk_Cm {M2 : sk_M} {vs : List Value} {K2 : sk_K} (h : sk_C S d M2 vs τ K) (hk : ∀ v τ2, K v τ2 → K2 v τ2) : sk_C S d M2 vs τ K2 := by
  intro l ad cA D A
  have h1 := h l ad cA D A
  intro p e ha hc hk2 s m args below hf hpre hP hcalls
  obtain ⟨t, o, a1, a2, a3, ⟨⟨v, τ2, b1, b2, b3⟩, b4⟩⟩ := h1 p e ha hc hk2 s m args below hf hpre hP hcalls
  exact ⟨t, o, a1, a2, a3, ⟨⟨v, τ2, b1, hk v τ2 b2, b3⟩, b4⟩⟩
theorem sk_callVi {M2 : sk_M} {n idx q ci : Nat} {cs : List Nat} {r : vw_C} (As rest : List Value) (pc2 : Nat) (hd : decode M.2.1 pc = .ok (.invokevirtual idx, 3)) (hp : pc + 3 = pc2) (mf : sk_MF M2 n) (hl : sk_LV M.1.cls idx M2.1) (hi : Cond.instanceMethod M2.1 ∈ sk_ALL) (hse : Cond.selects M2.1.cls M2.1 M2.1 ∈ sk_ALL) (hs : S[q]? = some (0, ci, cs)) (hci : vwCl[ci]? = some r) (hrc : r.1 = M2.1.cls) (hn : As.length = n) (hst : st = As.reverse ++ .ref q :: rest) (hcat : (rest.map fun v => v.category).sum ≤ 8) (h0 : 0 < d) (k : sk_C S (d - 1) M2 (.ref q :: As) τ (fun v τ2 => ∃ r : Int32, v = some (.int r) ∧ sk_G S d M pc2 lv (.int r :: rest) τ2 K)) : sk_G S d M pc lv st τ K :=
  sk_callV As rest pc2 hd hp mf hl hi hse hs hci hrc hn hst hcat h0 (sk_Cm k (fun v τ2 hk => by obtain ⟨r, rfl, hk⟩ := hk; exact hk))
theorem sk_callVl {M2 : sk_M} {n idx q ci : Nat} {cs : List Nat} {r : vw_C} (As rest : List Value) (pc2 : Nat) (hd : decode M.2.1 pc = .ok (.invokevirtual idx, 3)) (hp : pc + 3 = pc2) (mf : sk_MF M2 n) (hl : sk_LV M.1.cls idx M2.1) (hi : Cond.instanceMethod M2.1 ∈ sk_ALL) (hse : Cond.selects M2.1.cls M2.1 M2.1 ∈ sk_ALL) (hs : S[q]? = some (0, ci, cs)) (hci : vwCl[ci]? = some r) (hrc : r.1 = M2.1.cls) (hn : As.length = n) (hst : st = As.reverse ++ .ref q :: rest) (hcat : (rest.map fun v => v.category).sum ≤ 8) (h0 : 0 < d) (k : sk_C S (d - 1) M2 (.ref q :: As) τ (fun v τ2 => ∃ r : Int64, v = some (.long r) ∧ sk_G S d M pc2 lv (.long r :: rest) τ2 K)) : sk_G S d M pc lv st τ K :=
  sk_callV As rest pc2 hd hp mf hl hi hse hs hci hrc hn hst hcat h0 (sk_Cm k (fun v τ2 hk => by obtain ⟨r, rfl, hk⟩ := hk; exact hk))
theorem sk_callVv {M2 : sk_M} {n idx q ci : Nat} {cs : List Nat} {r : vw_C} (As rest : List Value) (pc2 : Nat) (hd : decode M.2.1 pc = .ok (.invokevirtual idx, 3)) (hp : pc + 3 = pc2) (mf : sk_MF M2 n) (hl : sk_LV M.1.cls idx M2.1) (hi : Cond.instanceMethod M2.1 ∈ sk_ALL) (hse : Cond.selects M2.1.cls M2.1 M2.1 ∈ sk_ALL) (hs : S[q]? = some (0, ci, cs)) (hci : vwCl[ci]? = some r) (hrc : r.1 = M2.1.cls) (hn : As.length = n) (hst : st = As.reverse ++ .ref q :: rest) (hcat : (rest.map fun v => v.category).sum ≤ 8) (h0 : 0 < d) (k : sk_C S (d - 1) M2 (.ref q :: As) τ (fun v τ2 => v = none ∧ sk_G S d M pc2 lv rest τ2 K)) : sk_G S d M pc lv st τ K :=
  sk_callV As rest pc2 hd hp mf hl hi hse hs hci hrc hn hst hcat h0 (sk_Cm k (fun v τ2 hk => by obtain ⟨rfl, hk⟩ := hk; exact hk))
theorem sk_callSi {M2 : sk_M} {n idx : Nat} (As rest : List Value) (pc2 : Nat) (hd : decode M.2.1 pc = .ok (.invokestatic idx, 3)) (hp : pc + 3 = pc2) (mf : sk_MF M2 n) (hl : sk_LV M.1.cls idx M2.1) (hi : Cond.static M2.1 ∈ sk_ALL) (hn : As.length = n) (hst : st = As.reverse ++ rest) (hcat : (rest.map fun v => v.category).sum ≤ 8) (h0 : 0 < d) (k : sk_C S (d - 1) M2 As τ (fun v τ2 => ∃ r : Int32, v = some (.int r) ∧ sk_G S d M pc2 lv (.int r :: rest) τ2 K)) : sk_G S d M pc lv st τ K :=
  sk_callS As rest pc2 hd hp mf hl hi hn hst hcat h0 (sk_Cm k (fun v τ2 hk => by obtain ⟨r, rfl, hk⟩ := hk; exact hk))
theorem sk_callSl {M2 : sk_M} {n idx : Nat} (As rest : List Value) (pc2 : Nat) (hd : decode M.2.1 pc = .ok (.invokestatic idx, 3)) (hp : pc + 3 = pc2) (mf : sk_MF M2 n) (hl : sk_LV M.1.cls idx M2.1) (hi : Cond.static M2.1 ∈ sk_ALL) (hn : As.length = n) (hst : st = As.reverse ++ rest) (hcat : (rest.map fun v => v.category).sum ≤ 8) (h0 : 0 < d) (k : sk_C S (d - 1) M2 As τ (fun v τ2 => ∃ r : Int64, v = some (.long r) ∧ sk_G S d M pc2 lv (.long r :: rest) τ2 K)) : sk_G S d M pc lv st τ K :=
  sk_callS As rest pc2 hd hp mf hl hi hn hst hcat h0 (sk_Cm k (fun v τ2 hk => by obtain ⟨r, rfl, hk⟩ := hk; exact hk))
theorem sk_callSv {M2 : sk_M} {n idx : Nat} (As rest : List Value) (pc2 : Nat) (hd : decode M.2.1 pc = .ok (.invokestatic idx, 3)) (hp : pc + 3 = pc2) (mf : sk_MF M2 n) (hl : sk_LV M.1.cls idx M2.1) (hi : Cond.static M2.1 ∈ sk_ALL) (hn : As.length = n) (hst : st = As.reverse ++ rest) (hcat : (rest.map fun v => v.category).sum ≤ 8) (h0 : 0 < d) (k : sk_C S (d - 1) M2 As τ (fun v τ2 => v = none ∧ sk_G S d M pc2 lv rest τ2 K)) : sk_G S d M pc lv st τ K :=
  sk_callS As rest pc2 hd hp mf hl hi hn hst hcat h0 (sk_Cm k (fun v τ2 hk => by obtain ⟨rfl, hk⟩ := hk; exact hk))
end
end
section
def sk_Sc : List sk_Sh := [(0, 6, [3, 4, 0, 45, 48, 50, 59]), (0, 3, [37, 0, 0, 0, 0, 0, 41, 0, 39, 43, 0]), (0, 3, [38, 0, 0, 0, 0, 0, 42, 0, 40, 44, 0]), (0, 5, [0, 0, 0, 0, 0, 0, 0]), (0, 5, [0, 0, 0, 0, 0, 0, 0]), (0, 5, [0, 0, 0, 0, 0, 0, 0]), (0, 5, [0, 0, 0, 0, 0, 0, 0]), (0, 5, [0, 0, 0, 0, 0, 0, 0]), (0, 5, [0, 0, 0, 0, 0, 0, 0]), (0, 5, [0, 0, 0, 0, 0, 0, 0]), (0, 5, [0, 0, 0, 0, 0, 0, 0]), (0, 5, [0, 0, 0, 0, 0, 0, 0]), (0, 5, [0, 0, 0, 0, 0, 0, 0]), (0, 5, [0, 0, 0, 0, 0, 0, 0]), (0, 5, [0, 0, 0, 0, 0, 0, 0]), (0, 5, [0, 0, 0, 0, 0, 0, 0]), (0, 5, [0, 0, 0, 0, 0, 0, 0]), (0, 5, [0, 0, 0, 0, 0, 0, 0]), (0, 5, [0, 0, 0, 0, 0, 0, 0]), (0, 5, [0, 0, 0, 0, 0, 0, 0]), (0, 5, [0, 0, 0, 0, 0, 0, 0]), (0, 5, [0, 0, 0, 0, 0, 0, 0]), (0, 5, [0, 0, 0, 0, 0, 0, 0]), (0, 1, [0, 1, 29, 0, 33]), (0, 1, [0, 1, 30, 0, 34]), (0, 1, [0, 1, 31, 0, 35]), (0, 1, [0, 1, 32, 0, 36]), (1, 60, []), (1, 60, []), (1, 60, []), (1, 60, []), (1, 60, []), (1, 60, []), (1, 60, []), (1, 60, []), (3, 10, [3, 4, 5, 6, 7, 8, 9, 10, 11, 12]), (3, 10, [13, 14, 15, 16, 17, 18, 19, 20, 21, 22]), (4, 2, [23, 24]), (4, 2, [25, 26]), (2, 60, []), (2, 60, []), (1, 24, []), (1, 24, []), (0, 2, [46, 0, 0, 0, 47, 0]), (2, 60, []), (1, 60, []), (0, 0, [49, 0, 1, 0, 0, 0]), (1, 30, []), (5, 4, [49, 50, 51, 52]), (0, 4, [0, 0, 55]), (0, 4, [0, 0, 56]), (0, 4, [0, 0, 57]), (0, 4, [0, 0, 58]), (1, 24, []), (1, 24, []), (1, 24, []), (1, 24, []), (1, 7, [])]
def sk_Sm : List sk_Sh := [(0, 7, [3, 4, 0, 5, 0, 0, 0, 0, 6, 7, 8, 9, 0, 10, 0, 1, 11, 12, 13, 14]), (1, 412, []), (1, 412, []), (1, 7, []), (1, 124, []), (1, 128, []), (1, 64, []), (1, 10, []), (1, 30, []), (1, 4, []), (1, 4, []), (1, 96, []), (1, 24, [])]
theorem sc_0 : sk_Sc[0]? = some (0, 6, [3, 4, 0, 45, 48, 50, 59]) := rfl
theorem sc_1 : sk_Sc[1]? = some (0, 3, [37, 0, 0, 0, 0, 0, 41, 0, 39, 43, 0]) := rfl
theorem sc_2 : sk_Sc[2]? = some (0, 3, [38, 0, 0, 0, 0, 0, 42, 0, 40, 44, 0]) := rfl
theorem sc_3 : sk_Sc[3]? = some (0, 5, [0, 0, 0, 0, 0, 0, 0]) := rfl
theorem sc_4 : sk_Sc[4]? = some (0, 5, [0, 0, 0, 0, 0, 0, 0]) := rfl
theorem sc_5 : sk_Sc[5]? = some (0, 5, [0, 0, 0, 0, 0, 0, 0]) := rfl
theorem sc_6 : sk_Sc[6]? = some (0, 5, [0, 0, 0, 0, 0, 0, 0]) := rfl
theorem sc_7 : sk_Sc[7]? = some (0, 5, [0, 0, 0, 0, 0, 0, 0]) := rfl
theorem sc_8 : sk_Sc[8]? = some (0, 5, [0, 0, 0, 0, 0, 0, 0]) := rfl
theorem sc_9 : sk_Sc[9]? = some (0, 5, [0, 0, 0, 0, 0, 0, 0]) := rfl
theorem sc_10 : sk_Sc[10]? = some (0, 5, [0, 0, 0, 0, 0, 0, 0]) := rfl
theorem sc_11 : sk_Sc[11]? = some (0, 5, [0, 0, 0, 0, 0, 0, 0]) := rfl
theorem sc_12 : sk_Sc[12]? = some (0, 5, [0, 0, 0, 0, 0, 0, 0]) := rfl
theorem sc_13 : sk_Sc[13]? = some (0, 5, [0, 0, 0, 0, 0, 0, 0]) := rfl
theorem sc_14 : sk_Sc[14]? = some (0, 5, [0, 0, 0, 0, 0, 0, 0]) := rfl
theorem sc_15 : sk_Sc[15]? = some (0, 5, [0, 0, 0, 0, 0, 0, 0]) := rfl
theorem sc_16 : sk_Sc[16]? = some (0, 5, [0, 0, 0, 0, 0, 0, 0]) := rfl
theorem sc_17 : sk_Sc[17]? = some (0, 5, [0, 0, 0, 0, 0, 0, 0]) := rfl
theorem sc_18 : sk_Sc[18]? = some (0, 5, [0, 0, 0, 0, 0, 0, 0]) := rfl
theorem sc_19 : sk_Sc[19]? = some (0, 5, [0, 0, 0, 0, 0, 0, 0]) := rfl
theorem sc_20 : sk_Sc[20]? = some (0, 5, [0, 0, 0, 0, 0, 0, 0]) := rfl
theorem sc_21 : sk_Sc[21]? = some (0, 5, [0, 0, 0, 0, 0, 0, 0]) := rfl
theorem sc_22 : sk_Sc[22]? = some (0, 5, [0, 0, 0, 0, 0, 0, 0]) := rfl
theorem sc_23 : sk_Sc[23]? = some (0, 1, [0, 1, 29, 0, 33]) := rfl
theorem sc_24 : sk_Sc[24]? = some (0, 1, [0, 1, 30, 0, 34]) := rfl
theorem sc_25 : sk_Sc[25]? = some (0, 1, [0, 1, 31, 0, 35]) := rfl
theorem sc_26 : sk_Sc[26]? = some (0, 1, [0, 1, 32, 0, 36]) := rfl
theorem sc_27 : sk_Sc[27]? = some (1, 60, []) := rfl
theorem sc_28 : sk_Sc[28]? = some (1, 60, []) := rfl
theorem sc_29 : sk_Sc[29]? = some (1, 60, []) := rfl
theorem sc_30 : sk_Sc[30]? = some (1, 60, []) := rfl
theorem sc_31 : sk_Sc[31]? = some (1, 60, []) := rfl
theorem sc_32 : sk_Sc[32]? = some (1, 60, []) := rfl
theorem sc_33 : sk_Sc[33]? = some (1, 60, []) := rfl
theorem sc_34 : sk_Sc[34]? = some (1, 60, []) := rfl
theorem sc_35 : sk_Sc[35]? = some (3, 10, [3, 4, 5, 6, 7, 8, 9, 10, 11, 12]) := rfl
theorem sc_36 : sk_Sc[36]? = some (3, 10, [13, 14, 15, 16, 17, 18, 19, 20, 21, 22]) := rfl
theorem sc_37 : sk_Sc[37]? = some (4, 2, [23, 24]) := rfl
theorem sc_38 : sk_Sc[38]? = some (4, 2, [25, 26]) := rfl
theorem sc_39 : sk_Sc[39]? = some (2, 60, []) := rfl
theorem sc_40 : sk_Sc[40]? = some (2, 60, []) := rfl
theorem sc_41 : sk_Sc[41]? = some (1, 24, []) := rfl
theorem sc_42 : sk_Sc[42]? = some (1, 24, []) := rfl
theorem sc_43 : sk_Sc[43]? = some (0, 2, [46, 0, 0, 0, 47, 0]) := rfl
theorem sc_44 : sk_Sc[44]? = some (2, 60, []) := rfl
theorem sc_45 : sk_Sc[45]? = some (1, 60, []) := rfl
theorem sc_46 : sk_Sc[46]? = some (0, 0, [49, 0, 1, 0, 0, 0]) := rfl
theorem sc_47 : sk_Sc[47]? = some (1, 30, []) := rfl
theorem sc_48 : sk_Sc[48]? = some (5, 4, [49, 50, 51, 52]) := rfl
theorem sc_49 : sk_Sc[49]? = some (0, 4, [0, 0, 55]) := rfl
theorem sc_50 : sk_Sc[50]? = some (0, 4, [0, 0, 56]) := rfl
theorem sc_51 : sk_Sc[51]? = some (0, 4, [0, 0, 57]) := rfl
theorem sc_52 : sk_Sc[52]? = some (0, 4, [0, 0, 58]) := rfl
theorem sc_53 : sk_Sc[53]? = some (1, 24, []) := rfl
theorem sc_54 : sk_Sc[54]? = some (1, 24, []) := rfl
theorem sc_55 : sk_Sc[55]? = some (1, 24, []) := rfl
theorem sc_56 : sk_Sc[56]? = some (1, 24, []) := rfl
theorem sc_57 : sk_Sc[57]? = some (1, 7, []) := rfl
theorem sm_0 : sk_Sm[0]? = some (0, 7, [3, 4, 0, 5, 0, 0, 0, 0, 6, 7, 8, 9, 0, 10, 0, 1, 11, 12, 13, 14]) := rfl
theorem sm_1 : sk_Sm[1]? = some (1, 412, []) := rfl
theorem sm_2 : sk_Sm[2]? = some (1, 412, []) := rfl
theorem sm_3 : sk_Sm[3]? = some (1, 7, []) := rfl
theorem sm_4 : sk_Sm[4]? = some (1, 124, []) := rfl
theorem sm_5 : sk_Sm[5]? = some (1, 128, []) := rfl
theorem sm_6 : sk_Sm[6]? = some (1, 64, []) := rfl
theorem sm_7 : sk_Sm[7]? = some (1, 10, []) := rfl
theorem sm_8 : sk_Sm[8]? = some (1, 30, []) := rfl
theorem sm_9 : sk_Sm[9]? = some (1, 4, []) := rfl
theorem sm_10 : sk_Sm[10]? = some (1, 4, []) := rfl
theorem sm_11 : sk_Sm[11]? = some (1, 96, []) := rfl
theorem sm_12 : sk_Sm[12]? = some (1, 24, []) := rfl
theorem sk_arr {w : Cond} (h : w ∈ tables_1) (hg : goodWord w = true) : w ∈ sk_ALL := by
  unfold sk_ALL lw_tbl
  exact List.mem_filter.mpr ⟨List.mem_append_right _ h, hg⟩
theorem sk_fw0 : ∀ w ∈ u_ws RX0 TX0 6, w ∈ sk_ALL := by
  have h : (u_ws RX0 TX0 6).all (fun w => decide (w ∈ tables_1) && goodWord w) = true := by decide +kernel
  intro w hw
  have h2 := List.all_eq_true.mp h w hw
  simp only [Bool.and_eq_true, decide_eq_true_eq] at h2
  exact sk_arr h2.1 h2.2
theorem sk_fw1 : ∀ w ∈ u_ws RX1 TX1 5, w ∈ sk_ALL := by
  have h : (u_ws RX1 TX1 5).all (fun w => decide (w ∈ tables_1) && goodWord w) = true := by decide +kernel
  intro w hw
  have h2 := List.all_eq_true.mp h w hw
  simp only [Bool.and_eq_true, decide_eq_true_eq] at h2
  exact sk_arr h2.1 h2.2
theorem sk_fw2 : ∀ w ∈ u_ws RX2 TX2 6, w ∈ sk_ALL := by
  have h : (u_ws RX2 TX2 6).all (fun w => decide (w ∈ tables_1) && goodWord w) = true := by decide +kernel
  intro w hw
  have h2 := List.all_eq_true.mp h w hw
  simp only [Bool.and_eq_true, decide_eq_true_eq] at h2
  exact sk_arr h2.1 h2.2
theorem sk_fw3 : ∀ w ∈ u_ws RX3 TX3 11, w ∈ sk_ALL := by
  have h : (u_ws RX3 TX3 11).all (fun w => decide (w ∈ tables_1) && goodWord w) = true := by decide +kernel
  intro w hw
  have h2 := List.all_eq_true.mp h w hw
  simp only [Bool.and_eq_true, decide_eq_true_eq] at h2
  exact sk_arr h2.1 h2.2
theorem sk_fw4 : ∀ w ∈ u_ws RX4 TX4 3, w ∈ sk_ALL := by
  have h : (u_ws RX4 TX4 3).all (fun w => decide (w ∈ tables_1) && goodWord w) = true := by decide +kernel
  intro w hw
  have h2 := List.all_eq_true.mp h w hw
  simp only [Bool.and_eq_true, decide_eq_true_eq] at h2
  exact sk_arr h2.1 h2.2
theorem sk_fw5 : ∀ w ∈ u_ws RX5 TX5 7, w ∈ sk_ALL := by
  have h : (u_ws RX5 TX5 7).all (fun w => decide (w ∈ tables_1) && goodWord w) = true := by decide +kernel
  intro w hw
  have h2 := List.all_eq_true.mp h w hw
  simp only [Bool.and_eq_true, decide_eq_true_eq] at h2
  exact sk_arr h2.1 h2.2
theorem sk_fw6 : ∀ w ∈ u_ws RX6 TX6 7, w ∈ sk_ALL := by
  have h : (u_ws RX6 TX6 7).all (fun w => decide (w ∈ tables_1) && goodWord w) = true := by decide +kernel
  intro w hw
  have h2 := List.all_eq_true.mp h w hw
  simp only [Bool.and_eq_true, decide_eq_true_eq] at h2
  exact sk_arr h2.1 h2.2
theorem sk_fw7 : ∀ w ∈ u_ws RX7 TX7 20, w ∈ sk_ALL := by
  have h : (u_ws RX7 TX7 20).all (fun w => decide (w ∈ tables_1) && goodWord w) = true := by decide +kernel
  intro w hw
  have h2 := List.all_eq_true.mp h w hw
  simp only [Bool.and_eq_true, decide_eq_true_eq] at h2
  exact sk_arr h2.1 h2.2
theorem lfX6_12 : sk_LF RX6 12 6 0 := ⟨RX6, TX6, 7, rfl, by decide, sk_fw6, Or.inl (sk_tin 215 (by decide +kernel) rfl)⟩
theorem lfX6_16 : sk_LF RX6 16 6 1 := ⟨RX6, TX6, 7, rfl, by decide, sk_fw6, Or.inl (sk_tin 216 (by decide +kernel) rfl)⟩
theorem lfX6_19 : sk_LF RX6 19 6 2 := ⟨RX6, TX6, 7, rfl, by decide, sk_fw6, Or.inl (sk_tin 217 (by decide +kernel) rfl)⟩
theorem lpX6_19 : sk_LP RX6 19 6 2 .int := ⟨RX6, TX6, 7, rfl, by decide, sk_fw6, Or.inl (sk_tin 217 (by decide +kernel) rfl), ⟨tyX6, tyX6_ok⟩, nmX6, rfl, by decide +kernel⟩
theorem lfX6_26 : sk_LF RX6 26 6 3 := ⟨RX6, TX6, 7, rfl, by decide, sk_fw6, Or.inl (sk_tin 218 (by decide +kernel) rfl)⟩
theorem lfX6_33 : sk_LF RX6 33 6 4 := ⟨RX6, TX6, 7, rfl, by decide, sk_fw6, Or.inl (sk_tin 219 (by decide +kernel) rfl)⟩
theorem lfX6_39 : sk_LF RX6 39 6 5 := ⟨RX6, TX6, 7, rfl, by decide, sk_fw6, Or.inl (sk_tin 220 (by decide +kernel) rfl)⟩
theorem lfX6_43 : sk_LF RX6 43 6 6 := ⟨RX6, TX6, 7, rfl, by decide, sk_fw6, Or.inl (sk_tin 221 (by decide +kernel) rfl)⟩
theorem lfX6_55 : sk_LF RX6 55 3 1 := ⟨RX3, TX3, 11, rfl, by decide, sk_fw3, Or.inr ⟨"SlateKin", sk_nin 98 (by decide +kernel) rfl⟩⟩
theorem lpX6_55 : sk_LP RX6 55 3 1 .int := ⟨RX3, TX3, 11, rfl, by decide, sk_fw3, Or.inr ⟨"SlateKin", sk_nin 98 (by decide +kernel) rfl⟩, ⟨tyX3, tyX3_ok⟩, nmX3, rfl, by decide +kernel⟩
theorem lfX6_62 : sk_LF RX6 62 3 0 := ⟨RX3, TX3, 11, rfl, by decide, sk_fw3, Or.inr ⟨"SlateKin", sk_nin 96 (by decide +kernel) rfl⟩⟩
theorem lfX6_75 : sk_LF RX6 75 5 0 := ⟨RX5, TX5, 7, rfl, by decide, sk_fw5, Or.inr ⟨"SlateKin", sk_nin 38 (by decide +kernel) rfl⟩⟩
theorem lpX6_75 : sk_LP RX6 75 5 0 .int := ⟨RX5, TX5, 7, rfl, by decide, sk_fw5, Or.inr ⟨"SlateKin", sk_nin 38 (by decide +kernel) rfl⟩, ⟨tyX5, tyX5_ok⟩, nmX5, rfl, by decide +kernel⟩
theorem lfX6_78 : sk_LF RX6 78 5 1 := ⟨RX5, TX5, 7, rfl, by decide, sk_fw5, Or.inr ⟨"SlateKin", sk_nin 41 (by decide +kernel) rfl⟩⟩
theorem lpX6_78 : sk_LP RX6 78 5 1 .int := ⟨RX5, TX5, 7, rfl, by decide, sk_fw5, Or.inr ⟨"SlateKin", sk_nin 41 (by decide +kernel) rfl⟩, ⟨tyX5, tyX5_ok⟩, nmX5, rfl, by decide +kernel⟩
theorem lfX6_81 : sk_LF RX6 81 5 2 := ⟨RX5, TX5, 7, rfl, by decide, sk_fw5, Or.inr ⟨"SlateKin", sk_nin 43 (by decide +kernel) rfl⟩⟩
theorem lpX6_81 : sk_LP RX6 81 5 2 .int := ⟨RX5, TX5, 7, rfl, by decide, sk_fw5, Or.inr ⟨"SlateKin", sk_nin 43 (by decide +kernel) rfl⟩, ⟨tyX5, tyX5_ok⟩, nmX5, rfl, by decide +kernel⟩
theorem lfX6_84 : sk_LF RX6 84 5 3 := ⟨RX5, TX5, 7, rfl, by decide, sk_fw5, Or.inr ⟨"SlateKin", sk_nin 46 (by decide +kernel) rfl⟩⟩
theorem lpX6_84 : sk_LP RX6 84 5 3 .int := ⟨RX5, TX5, 7, rfl, by decide, sk_fw5, Or.inr ⟨"SlateKin", sk_nin 46 (by decide +kernel) rfl⟩, ⟨tyX5, tyX5_ok⟩, nmX5, rfl, by decide +kernel⟩
theorem lfX6_87 : sk_LF RX6 87 5 4 := ⟨RX5, TX5, 7, rfl, by decide, sk_fw5, Or.inr ⟨"SlateKin", sk_nin 48 (by decide +kernel) rfl⟩⟩
theorem lpX6_87 : sk_LP RX6 87 5 4 .int := ⟨RX5, TX5, 7, rfl, by decide, sk_fw5, Or.inr ⟨"SlateKin", sk_nin 48 (by decide +kernel) rfl⟩, ⟨tyX5, tyX5_ok⟩, nmX5, rfl, by decide +kernel⟩
theorem lfX6_97 : sk_LF RX6 97 5 5 := ⟨RX5, TX5, 7, rfl, by decide, sk_fw5, Or.inr ⟨"SlateKin", sk_nin 51 (by decide +kernel) rfl⟩⟩
theorem lpX6_97 : sk_LP RX6 97 5 5 .int := ⟨RX5, TX5, 7, rfl, by decide, sk_fw5, Or.inr ⟨"SlateKin", sk_nin 51 (by decide +kernel) rfl⟩, ⟨tyX5, tyX5_ok⟩, nmX5, rfl, by decide +kernel⟩
theorem lfX6_118 : sk_LF RX6 118 5 6 := ⟨RX5, TX5, 7, rfl, by decide, sk_fw5, Or.inr ⟨"SlateKin", sk_nin 54 (by decide +kernel) rfl⟩⟩
theorem lpX6_118 : sk_LP RX6 118 5 6 .int := ⟨RX5, TX5, 7, rfl, by decide, sk_fw5, Or.inr ⟨"SlateKin", sk_nin 54 (by decide +kernel) rfl⟩, ⟨tyX5, tyX5_ok⟩, nmX5, rfl, by decide +kernel⟩
theorem lfX6_138 : sk_LF RX6 138 3 3 := ⟨RX3, TX3, 11, rfl, by decide, sk_fw3, Or.inr ⟨"SlateKin", sk_nin 102 (by decide +kernel) rfl⟩⟩
theorem lpX6_138 : sk_LP RX6 138 3 3 .int := ⟨RX3, TX3, 11, rfl, by decide, sk_fw3, Or.inr ⟨"SlateKin", sk_nin 102 (by decide +kernel) rfl⟩, ⟨tyX3, tyX3_ok⟩, nmX3, rfl, by decide +kernel⟩
theorem lfX6_141 : sk_LF RX6 141 3 7 := ⟨RX3, TX3, 11, rfl, by decide, sk_fw3, Or.inr ⟨"SlateKin", sk_nin 110 (by decide +kernel) rfl⟩⟩
theorem lpX6_141 : sk_LP RX6 141 3 7 .int := ⟨RX3, TX3, 11, rfl, by decide, sk_fw3, Or.inr ⟨"SlateKin", sk_nin 110 (by decide +kernel) rfl⟩, ⟨tyX3, tyX3_ok⟩, nmX3, rfl, by decide +kernel⟩
theorem lfX6_144 : sk_LF RX6 144 3 6 := ⟨RX3, TX3, 11, rfl, by decide, sk_fw3, Or.inr ⟨"SlateKin", sk_nin 108 (by decide +kernel) rfl⟩⟩
theorem lfX6_155 : sk_LF RX6 155 3 8 := ⟨RX3, TX3, 11, rfl, by decide, sk_fw3, Or.inr ⟨"SlateKin", sk_nin 112 (by decide +kernel) rfl⟩⟩
theorem lfX6_159 : sk_LF RX6 159 2 4 := ⟨RX2, TX2, 6, rfl, by decide, sk_fw2, Or.inr ⟨"SlateKin", sk_nin 151 (by decide +kernel) rfl⟩⟩
theorem lfX6_162 : sk_LF RX6 162 2 5 := ⟨RX2, TX2, 6, rfl, by decide, sk_fw2, Or.inr ⟨"SlateKin", sk_nin 153 (by decide +kernel) rfl⟩⟩
theorem lpX6_162 : sk_LP RX6 162 2 5 .int := ⟨RX2, TX2, 6, rfl, by decide, sk_fw2, Or.inr ⟨"SlateKin", sk_nin 153 (by decide +kernel) rfl⟩, ⟨tyX2, tyX2_ok⟩, nmX2, rfl, by decide +kernel⟩
theorem lfX6_169 : sk_LF RX6 169 1 1 := ⟨RX1, TX1, 5, rfl, by decide, sk_fw1, Or.inr ⟨"SlateKin", sk_nin 80 (by decide +kernel) rfl⟩⟩
theorem lpX6_169 : sk_LP RX6 169 1 1 .boolean := ⟨RX1, TX1, 5, rfl, by decide, sk_fw1, Or.inr ⟨"SlateKin", sk_nin 80 (by decide +kernel) rfl⟩, ⟨tyX1, tyX1_ok⟩, nmX1, rfl, by decide +kernel⟩
theorem lfX6_186 : sk_LF RX6 186 3 2 := ⟨RX3, TX3, 11, rfl, by decide, sk_fw3, Or.inr ⟨"SlateKin", sk_nin 100 (by decide +kernel) rfl⟩⟩
theorem lpX6_186 : sk_LP RX6 186 3 2 .int := ⟨RX3, TX3, 11, rfl, by decide, sk_fw3, Or.inr ⟨"SlateKin", sk_nin 100 (by decide +kernel) rfl⟩, ⟨tyX3, tyX3_ok⟩, nmX3, rfl, by decide +kernel⟩
theorem lfX6_192 : sk_LF RX6 192 3 4 := ⟨RX3, TX3, 11, rfl, by decide, sk_fw3, Or.inr ⟨"SlateKin", sk_nin 104 (by decide +kernel) rfl⟩⟩
theorem lpX6_192 : sk_LP RX6 192 3 4 .int := ⟨RX3, TX3, 11, rfl, by decide, sk_fw3, Or.inr ⟨"SlateKin", sk_nin 104 (by decide +kernel) rfl⟩, ⟨tyX3, tyX3_ok⟩, nmX3, rfl, by decide +kernel⟩
theorem lfX6_198 : sk_LF RX6 198 3 5 := ⟨RX3, TX3, 11, rfl, by decide, sk_fw3, Or.inr ⟨"SlateKin", sk_nin 106 (by decide +kernel) rfl⟩⟩
theorem lpX6_198 : sk_LP RX6 198 3 5 .int := ⟨RX3, TX3, 11, rfl, by decide, sk_fw3, Or.inr ⟨"SlateKin", sk_nin 106 (by decide +kernel) rfl⟩, ⟨tyX3, tyX3_ok⟩, nmX3, rfl, by decide +kernel⟩
theorem lfX6_250 : sk_LF RX6 250 0 2 := ⟨RX0, TX0, 6, rfl, by decide, sk_fw0, Or.inr ⟨"SlateKin", sk_nin 178 (by decide +kernel) rfl⟩⟩
theorem lpX6_250 : sk_LP RX6 250 0 2 .boolean := ⟨RX0, TX0, 6, rfl, by decide, sk_fw0, Or.inr ⟨"SlateKin", sk_nin 178 (by decide +kernel) rfl⟩, ⟨tyX0, tyX0_ok⟩, nmX0, rfl, by decide +kernel⟩
theorem lfX6_253 : sk_LF RX6 253 0 1 := ⟨RX0, TX0, 6, rfl, by decide, sk_fw0, Or.inr ⟨"SlateKin", sk_nin 176 (by decide +kernel) rfl⟩⟩
theorem lpX6_253 : sk_LP RX6 253 0 1 .int := ⟨RX0, TX0, 6, rfl, by decide, sk_fw0, Or.inr ⟨"SlateKin", sk_nin 176 (by decide +kernel) rfl⟩, ⟨tyX0, tyX0_ok⟩, nmX0, rfl, by decide +kernel⟩
theorem lfX6_254 : sk_LF RX6 254 0 0 := ⟨RX0, TX0, 6, rfl, by decide, sk_fw0, Or.inr ⟨"SlateKin", sk_nin 174 (by decide +kernel) rfl⟩⟩
theorem lfX6_260 : sk_LF RX6 260 4 1 := ⟨RX4, TX4, 3, rfl, by decide, sk_fw4, Or.inr ⟨"SlateKin", sk_nin 205 (by decide +kernel) rfl⟩⟩
theorem lpX6_260 : sk_LP RX6 260 4 1 .int := ⟨RX4, TX4, 3, rfl, by decide, sk_fw4, Or.inr ⟨"SlateKin", sk_nin 205 (by decide +kernel) rfl⟩, ⟨tyX4, tyX4_ok⟩, nmX4, rfl, by decide +kernel⟩
theorem lfX6_264 : sk_LF RX6 264 4 0 := ⟨RX4, TX4, 3, rfl, by decide, sk_fw4, Or.inr ⟨"SlateKin", sk_nin 203 (by decide +kernel) rfl⟩⟩
theorem lpX6_264 : sk_LP RX6 264 4 0 .int := ⟨RX4, TX4, 3, rfl, by decide, sk_fw4, Or.inr ⟨"SlateKin", sk_nin 203 (by decide +kernel) rfl⟩, ⟨tyX4, tyX4_ok⟩, nmX4, rfl, by decide +kernel⟩
theorem lfX6_270 : sk_LF RX6 270 4 2 := ⟨RX4, TX4, 3, rfl, by decide, sk_fw4, Or.inr ⟨"SlateKin", sk_nin 207 (by decide +kernel) rfl⟩⟩
theorem lfX6_283 : sk_LF RX6 283 3 10 := ⟨RX3, TX3, 11, rfl, by decide, sk_fw3, Or.inr ⟨"SlateKin", sk_nin 116 (by decide +kernel) rfl⟩⟩
theorem lpX6_283 : sk_LP RX6 283 3 10 .int := ⟨RX3, TX3, 11, rfl, by decide, sk_fw3, Or.inr ⟨"SlateKin", sk_nin 116 (by decide +kernel) rfl⟩, ⟨tyX3, tyX3_ok⟩, nmX3, rfl, by decide +kernel⟩
theorem lfX6_286 : sk_LF RX6 286 3 9 := ⟨RX3, TX3, 11, rfl, by decide, sk_fw3, Or.inr ⟨"SlateKin", sk_nin 114 (by decide +kernel) rfl⟩⟩
theorem lfX0_9 : sk_LF RX0 9 0 0 := ⟨RX0, TX0, 6, rfl, by decide, sk_fw0, Or.inl (sk_tin 173 (by decide +kernel) rfl)⟩
theorem lfX0_15 : sk_LF RX0 15 0 1 := ⟨RX0, TX0, 6, rfl, by decide, sk_fw0, Or.inl (sk_tin 175 (by decide +kernel) rfl)⟩
theorem lpX0_15 : sk_LP RX0 15 0 1 .int := ⟨RX0, TX0, 6, rfl, by decide, sk_fw0, Or.inl (sk_tin 175 (by decide +kernel) rfl), ⟨tyX0, tyX0_ok⟩, nmX0, rfl, by decide +kernel⟩
theorem lfX0_19 : sk_LF RX0 19 0 2 := ⟨RX0, TX0, 6, rfl, by decide, sk_fw0, Or.inl (sk_tin 177 (by decide +kernel) rfl)⟩
theorem lpX0_19 : sk_LP RX0 19 0 2 .boolean := ⟨RX0, TX0, 6, rfl, by decide, sk_fw0, Or.inl (sk_tin 177 (by decide +kernel) rfl), ⟨tyX0, tyX0_ok⟩, nmX0, rfl, by decide +kernel⟩
theorem lfX0_23 : sk_LF RX0 23 0 3 := ⟨RX0, TX0, 6, rfl, by decide, sk_fw0, Or.inl (sk_tin 179 (by decide +kernel) rfl)⟩
theorem lpX0_23 : sk_LP RX0 23 0 3 .int := ⟨RX0, TX0, 6, rfl, by decide, sk_fw0, Or.inl (sk_tin 179 (by decide +kernel) rfl), ⟨tyX0, tyX0_ok⟩, nmX0, rfl, by decide +kernel⟩
theorem lfX0_26 : sk_LF RX0 26 0 4 := ⟨RX0, TX0, 6, rfl, by decide, sk_fw0, Or.inl (sk_tin 180 (by decide +kernel) rfl)⟩
theorem lpX0_26 : sk_LP RX0 26 0 4 .int := ⟨RX0, TX0, 6, rfl, by decide, sk_fw0, Or.inl (sk_tin 180 (by decide +kernel) rfl), ⟨tyX0, tyX0_ok⟩, nmX0, rfl, by decide +kernel⟩
theorem lfX0_29 : sk_LF RX0 29 0 5 := ⟨RX0, TX0, 6, rfl, by decide, sk_fw0, Or.inl (sk_tin 181 (by decide +kernel) rfl)⟩
theorem lpX0_29 : sk_LP RX0 29 0 5 .int := ⟨RX0, TX0, 6, rfl, by decide, sk_fw0, Or.inl (sk_tin 181 (by decide +kernel) rfl), ⟨tyX0, tyX0_ok⟩, nmX0, rfl, by decide +kernel⟩
theorem lfX0_32 : sk_LF RX0 32 5 0 := ⟨RX5, TX5, 7, rfl, by decide, sk_fw5, Or.inr ⟨"SlateKin", sk_nin 37 (by decide +kernel) rfl⟩⟩
theorem lpX0_32 : sk_LP RX0 32 5 0 .int := ⟨RX5, TX5, 7, rfl, by decide, sk_fw5, Or.inr ⟨"SlateKin", sk_nin 37 (by decide +kernel) rfl⟩, ⟨tyX5, tyX5_ok⟩, nmX5, rfl, by decide +kernel⟩
theorem lfX0_35 : sk_LF RX0 35 5 1 := ⟨RX5, TX5, 7, rfl, by decide, sk_fw5, Or.inr ⟨"SlateKin", sk_nin 40 (by decide +kernel) rfl⟩⟩
theorem lpX0_35 : sk_LP RX0 35 5 1 .int := ⟨RX5, TX5, 7, rfl, by decide, sk_fw5, Or.inr ⟨"SlateKin", sk_nin 40 (by decide +kernel) rfl⟩, ⟨tyX5, tyX5_ok⟩, nmX5, rfl, by decide +kernel⟩
theorem flX0_44 : Cond.fieldLink RX0 44 "SlateKin$Choir" "BODIES" "[I" ∈ sk_ALL := sk_tin 631 (by decide +kernel) rfl
theorem lfX1_9 : sk_LF RX1 9 1 1 := ⟨RX1, TX1, 5, rfl, by decide, sk_fw1, Or.inl (sk_tin 79 (by decide +kernel) rfl)⟩
theorem lpX1_9 : sk_LP RX1 9 1 1 .boolean := ⟨RX1, TX1, 5, rfl, by decide, sk_fw1, Or.inl (sk_tin 79 (by decide +kernel) rfl), ⟨tyX1, tyX1_ok⟩, nmX1, rfl, by decide +kernel⟩
theorem lfX1_15 : sk_LF RX1 15 1 2 := ⟨RX1, TX1, 5, rfl, by decide, sk_fw1, Or.inl (sk_tin 81 (by decide +kernel) rfl)⟩
theorem lfX1_19 : sk_LF RX1 19 1 3 := ⟨RX1, TX1, 5, rfl, by decide, sk_fw1, Or.inl (sk_tin 82 (by decide +kernel) rfl)⟩
theorem lpX1_19 : sk_LP RX1 19 1 3 .int := ⟨RX1, TX1, 5, rfl, by decide, sk_fw1, Or.inl (sk_tin 82 (by decide +kernel) rfl), ⟨tyX1, tyX1_ok⟩, nmX1, rfl, by decide +kernel⟩
theorem lfX1_23 : sk_LF RX1 23 1 4 := ⟨RX1, TX1, 5, rfl, by decide, sk_fw1, Or.inl (sk_tin 83 (by decide +kernel) rfl)⟩
theorem lfX1_26 : sk_LF RX1 26 1 0 := ⟨RX1, TX1, 5, rfl, by decide, sk_fw1, Or.inl (sk_tin 78 (by decide +kernel) rfl)⟩
theorem lfX2_9 : sk_LF RX2 9 2 0 := ⟨RX2, TX2, 6, rfl, by decide, sk_fw2, Or.inl (sk_tin 146 (by decide +kernel) rfl)⟩
theorem lfX2_15 : sk_LF RX2 15 2 1 := ⟨RX2, TX2, 6, rfl, by decide, sk_fw2, Or.inl (sk_tin 147 (by decide +kernel) rfl)⟩
theorem lpX2_15 : sk_LP RX2 15 2 1 .int := ⟨RX2, TX2, 6, rfl, by decide, sk_fw2, Or.inl (sk_tin 147 (by decide +kernel) rfl), ⟨tyX2, tyX2_ok⟩, nmX2, rfl, by decide +kernel⟩
theorem lfX2_19 : sk_LF RX2 19 2 2 := ⟨RX2, TX2, 6, rfl, by decide, sk_fw2, Or.inl (sk_tin 148 (by decide +kernel) rfl)⟩
theorem lpX2_19 : sk_LP RX2 19 2 2 .int := ⟨RX2, TX2, 6, rfl, by decide, sk_fw2, Or.inl (sk_tin 148 (by decide +kernel) rfl), ⟨tyX2, tyX2_ok⟩, nmX2, rfl, by decide +kernel⟩
theorem lfX2_22 : sk_LF RX2 22 2 3 := ⟨RX2, TX2, 6, rfl, by decide, sk_fw2, Or.inl (sk_tin 149 (by decide +kernel) rfl)⟩
theorem lpX2_22 : sk_LP RX2 22 2 3 .int := ⟨RX2, TX2, 6, rfl, by decide, sk_fw2, Or.inl (sk_tin 149 (by decide +kernel) rfl), ⟨tyX2, tyX2_ok⟩, nmX2, rfl, by decide +kernel⟩
theorem lfX2_25 : sk_LF RX2 25 2 4 := ⟨RX2, TX2, 6, rfl, by decide, sk_fw2, Or.inl (sk_tin 150 (by decide +kernel) rfl)⟩
theorem lfX2_29 : sk_LF RX2 29 2 5 := ⟨RX2, TX2, 6, rfl, by decide, sk_fw2, Or.inl (sk_tin 152 (by decide +kernel) rfl)⟩
theorem lpX2_29 : sk_LP RX2 29 2 5 .int := ⟨RX2, TX2, 6, rfl, by decide, sk_fw2, Or.inl (sk_tin 152 (by decide +kernel) rfl), ⟨tyX2, tyX2_ok⟩, nmX2, rfl, by decide +kernel⟩
theorem flX2_80 : Cond.fieldLink RX2 80 "SlateKin$Reader" "NAMES" "[C" ∈ sk_ALL := sk_tin 449 (by decide +kernel) rfl
theorem lfX3_11 : sk_LF RX3 11 3 0 := ⟨RX3, TX3, 11, rfl, by decide, sk_fw3, Or.inl (sk_tin 95 (by decide +kernel) rfl)⟩
theorem lfX3_17 : sk_LF RX3 17 3 1 := ⟨RX3, TX3, 11, rfl, by decide, sk_fw3, Or.inl (sk_tin 97 (by decide +kernel) rfl)⟩
theorem lpX3_17 : sk_LP RX3 17 3 1 .int := ⟨RX3, TX3, 11, rfl, by decide, sk_fw3, Or.inl (sk_tin 97 (by decide +kernel) rfl), ⟨tyX3, tyX3_ok⟩, nmX3, rfl, by decide +kernel⟩
theorem lfX3_21 : sk_LF RX3 21 3 2 := ⟨RX3, TX3, 11, rfl, by decide, sk_fw3, Or.inl (sk_tin 99 (by decide +kernel) rfl)⟩
theorem lpX3_21 : sk_LP RX3 21 3 2 .int := ⟨RX3, TX3, 11, rfl, by decide, sk_fw3, Or.inl (sk_tin 99 (by decide +kernel) rfl), ⟨tyX3, tyX3_ok⟩, nmX3, rfl, by decide +kernel⟩
theorem lfX3_24 : sk_LF RX3 24 3 3 := ⟨RX3, TX3, 11, rfl, by decide, sk_fw3, Or.inl (sk_tin 101 (by decide +kernel) rfl)⟩
theorem lpX3_24 : sk_LP RX3 24 3 3 .int := ⟨RX3, TX3, 11, rfl, by decide, sk_fw3, Or.inl (sk_tin 101 (by decide +kernel) rfl), ⟨tyX3, tyX3_ok⟩, nmX3, rfl, by decide +kernel⟩
theorem lfX3_27 : sk_LF RX3 27 3 4 := ⟨RX3, TX3, 11, rfl, by decide, sk_fw3, Or.inl (sk_tin 103 (by decide +kernel) rfl)⟩
theorem lpX3_27 : sk_LP RX3 27 3 4 .int := ⟨RX3, TX3, 11, rfl, by decide, sk_fw3, Or.inl (sk_tin 103 (by decide +kernel) rfl), ⟨tyX3, tyX3_ok⟩, nmX3, rfl, by decide +kernel⟩
theorem lfX3_30 : sk_LF RX3 30 3 5 := ⟨RX3, TX3, 11, rfl, by decide, sk_fw3, Or.inl (sk_tin 105 (by decide +kernel) rfl)⟩
theorem lpX3_30 : sk_LP RX3 30 3 5 .int := ⟨RX3, TX3, 11, rfl, by decide, sk_fw3, Or.inl (sk_tin 105 (by decide +kernel) rfl), ⟨tyX3, tyX3_ok⟩, nmX3, rfl, by decide +kernel⟩
theorem lfX3_33 : sk_LF RX3 33 3 6 := ⟨RX3, TX3, 11, rfl, by decide, sk_fw3, Or.inl (sk_tin 107 (by decide +kernel) rfl)⟩
theorem lfX3_37 : sk_LF RX3 37 3 7 := ⟨RX3, TX3, 11, rfl, by decide, sk_fw3, Or.inl (sk_tin 109 (by decide +kernel) rfl)⟩
theorem lpX3_37 : sk_LP RX3 37 3 7 .int := ⟨RX3, TX3, 11, rfl, by decide, sk_fw3, Or.inl (sk_tin 109 (by decide +kernel) rfl), ⟨tyX3, tyX3_ok⟩, nmX3, rfl, by decide +kernel⟩
theorem lfX3_42 : sk_LF RX3 42 3 8 := ⟨RX3, TX3, 11, rfl, by decide, sk_fw3, Or.inl (sk_tin 111 (by decide +kernel) rfl)⟩
theorem lfX3_46 : sk_LF RX3 46 3 9 := ⟨RX3, TX3, 11, rfl, by decide, sk_fw3, Or.inl (sk_tin 113 (by decide +kernel) rfl)⟩
theorem lfX3_50 : sk_LF RX3 50 3 10 := ⟨RX3, TX3, 11, rfl, by decide, sk_fw3, Or.inl (sk_tin 115 (by decide +kernel) rfl)⟩
theorem lpX3_50 : sk_LP RX3 50 3 10 .int := ⟨RX3, TX3, 11, rfl, by decide, sk_fw3, Or.inl (sk_tin 115 (by decide +kernel) rfl), ⟨tyX3, tyX3_ok⟩, nmX3, rfl, by decide +kernel⟩
theorem lfX3_74 : sk_LF RX3 74 5 3 := ⟨RX5, TX5, 7, rfl, by decide, sk_fw5, Or.inr ⟨"SlateKin", sk_nin 45 (by decide +kernel) rfl⟩⟩
theorem lpX3_74 : sk_LP RX3 74 5 3 .int := ⟨RX5, TX5, 7, rfl, by decide, sk_fw5, Or.inr ⟨"SlateKin", sk_nin 45 (by decide +kernel) rfl⟩, ⟨tyX5, tyX5_ok⟩, nmX5, rfl, by decide +kernel⟩
theorem lfX3_95 : sk_LF RX3 95 5 4 := ⟨RX5, TX5, 7, rfl, by decide, sk_fw5, Or.inr ⟨"SlateKin", sk_nin 49 (by decide +kernel) rfl⟩⟩
theorem lpX3_95 : sk_LP RX3 95 5 4 .int := ⟨RX5, TX5, 7, rfl, by decide, sk_fw5, Or.inr ⟨"SlateKin", sk_nin 49 (by decide +kernel) rfl⟩, ⟨tyX5, tyX5_ok⟩, nmX5, rfl, by decide +kernel⟩
theorem lfX3_135 : sk_LF RX3 135 5 6 := ⟨RX5, TX5, 7, rfl, by decide, sk_fw5, Or.inr ⟨"SlateKin", sk_nin 55 (by decide +kernel) rfl⟩⟩
theorem lpX3_135 : sk_LP RX3 135 5 6 .int := ⟨RX5, TX5, 7, rfl, by decide, sk_fw5, Or.inr ⟨"SlateKin", sk_nin 55 (by decide +kernel) rfl⟩, ⟨tyX5, tyX5_ok⟩, nmX5, rfl, by decide +kernel⟩
theorem lfX3_153 : sk_LF RX3 153 5 5 := ⟨RX5, TX5, 7, rfl, by decide, sk_fw5, Or.inr ⟨"SlateKin", sk_nin 52 (by decide +kernel) rfl⟩⟩
theorem lpX3_153 : sk_LP RX3 153 5 5 .int := ⟨RX5, TX5, 7, rfl, by decide, sk_fw5, Or.inr ⟨"SlateKin", sk_nin 52 (by decide +kernel) rfl⟩, ⟨tyX5, tyX5_ok⟩, nmX5, rfl, by decide +kernel⟩
theorem lfX4_9 : sk_LF RX4 9 4 0 := ⟨RX4, TX4, 3, rfl, by decide, sk_fw4, Or.inl (sk_tin 202 (by decide +kernel) rfl)⟩
theorem lpX4_9 : sk_LP RX4 9 4 0 .int := ⟨RX4, TX4, 3, rfl, by decide, sk_fw4, Or.inl (sk_tin 202 (by decide +kernel) rfl), ⟨tyX4, tyX4_ok⟩, nmX4, rfl, by decide +kernel⟩
theorem lfX4_15 : sk_LF RX4 15 4 1 := ⟨RX4, TX4, 3, rfl, by decide, sk_fw4, Or.inl (sk_tin 204 (by decide +kernel) rfl)⟩
theorem lpX4_15 : sk_LP RX4 15 4 1 .int := ⟨RX4, TX4, 3, rfl, by decide, sk_fw4, Or.inl (sk_tin 204 (by decide +kernel) rfl), ⟨tyX4, tyX4_ok⟩, nmX4, rfl, by decide +kernel⟩
theorem lfX4_18 : sk_LF RX4 18 4 2 := ⟨RX4, TX4, 3, rfl, by decide, sk_fw4, Or.inl (sk_tin 206 (by decide +kernel) rfl)⟩
theorem lfX5_9 : sk_LF RX5 9 5 0 := ⟨RX5, TX5, 7, rfl, by decide, sk_fw5, Or.inl (sk_tin 36 (by decide +kernel) rfl)⟩
theorem lpX5_9 : sk_LP RX5 9 5 0 .int := ⟨RX5, TX5, 7, rfl, by decide, sk_fw5, Or.inl (sk_tin 36 (by decide +kernel) rfl), ⟨tyX5, tyX5_ok⟩, nmX5, rfl, by decide +kernel⟩
theorem lfX5_15 : sk_LF RX5 15 5 1 := ⟨RX5, TX5, 7, rfl, by decide, sk_fw5, Or.inl (sk_tin 39 (by decide +kernel) rfl)⟩
theorem lpX5_15 : sk_LP RX5 15 5 1 .int := ⟨RX5, TX5, 7, rfl, by decide, sk_fw5, Or.inl (sk_tin 39 (by decide +kernel) rfl), ⟨tyX5, tyX5_ok⟩, nmX5, rfl, by decide +kernel⟩
theorem lfX5_18 : sk_LF RX5 18 5 2 := ⟨RX5, TX5, 7, rfl, by decide, sk_fw5, Or.inl (sk_tin 42 (by decide +kernel) rfl)⟩
theorem lpX5_18 : sk_LP RX5 18 5 2 .int := ⟨RX5, TX5, 7, rfl, by decide, sk_fw5, Or.inl (sk_tin 42 (by decide +kernel) rfl), ⟨tyX5, tyX5_ok⟩, nmX5, rfl, by decide +kernel⟩
theorem lfX5_21 : sk_LF RX5 21 5 3 := ⟨RX5, TX5, 7, rfl, by decide, sk_fw5, Or.inl (sk_tin 44 (by decide +kernel) rfl)⟩
theorem lpX5_21 : sk_LP RX5 21 5 3 .int := ⟨RX5, TX5, 7, rfl, by decide, sk_fw5, Or.inl (sk_tin 44 (by decide +kernel) rfl), ⟨tyX5, tyX5_ok⟩, nmX5, rfl, by decide +kernel⟩
theorem lfX5_24 : sk_LF RX5 24 5 4 := ⟨RX5, TX5, 7, rfl, by decide, sk_fw5, Or.inl (sk_tin 47 (by decide +kernel) rfl)⟩
theorem lpX5_24 : sk_LP RX5 24 5 4 .int := ⟨RX5, TX5, 7, rfl, by decide, sk_fw5, Or.inl (sk_tin 47 (by decide +kernel) rfl), ⟨tyX5, tyX5_ok⟩, nmX5, rfl, by decide +kernel⟩
theorem lfX5_27 : sk_LF RX5 27 5 5 := ⟨RX5, TX5, 7, rfl, by decide, sk_fw5, Or.inl (sk_tin 50 (by decide +kernel) rfl)⟩
theorem lpX5_27 : sk_LP RX5 27 5 5 .int := ⟨RX5, TX5, 7, rfl, by decide, sk_fw5, Or.inl (sk_tin 50 (by decide +kernel) rfl), ⟨tyX5, tyX5_ok⟩, nmX5, rfl, by decide +kernel⟩
theorem lfX5_30 : sk_LF RX5 30 5 6 := ⟨RX5, TX5, 7, rfl, by decide, sk_fw5, Or.inl (sk_tin 53 (by decide +kernel) rfl)⟩
theorem lpX5_30 : sk_LP RX5 30 5 6 .int := ⟨RX5, TX5, 7, rfl, by decide, sk_fw5, Or.inl (sk_tin 53 (by decide +kernel) rfl), ⟨tyX5, tyX5_ok⟩, nmX5, rfl, by decide +kernel⟩
theorem flX5_33 : Cond.fieldLink RX5 33 "SlateKin$Tile" "ABOVE" "[I" ∈ sk_ALL := sk_tin 329 (by decide +kernel) rfl
theorem lfX7_7 : sk_LF RX7 7 7 0 := ⟨RX7, TX7, 20, rfl, by decide, sk_fw7, Or.inl (sk_tin 726 (by decide +kernel) rfl)⟩
theorem lfX7_13 : sk_LF RX7 13 7 1 := ⟨RX7, TX7, 20, rfl, by decide, sk_fw7, Or.inl (sk_tin 727 (by decide +kernel) rfl)⟩
theorem lfX7_16 : sk_LF RX7 16 7 3 := ⟨RX7, TX7, 20, rfl, by decide, sk_fw7, Or.inl (sk_tin 729 (by decide +kernel) rfl)⟩
theorem lfX7_19 : sk_LF RX7 19 7 8 := ⟨RX7, TX7, 20, rfl, by decide, sk_fw7, Or.inl (sk_tin 734 (by decide +kernel) rfl)⟩
theorem lfX7_22 : sk_LF RX7 22 7 9 := ⟨RX7, TX7, 20, rfl, by decide, sk_fw7, Or.inl (sk_tin 735 (by decide +kernel) rfl)⟩
theorem lfX7_25 : sk_LF RX7 25 7 10 := ⟨RX7, TX7, 20, rfl, by decide, sk_fw7, Or.inl (sk_tin 736 (by decide +kernel) rfl)⟩
theorem lfX7_28 : sk_LF RX7 28 7 11 := ⟨RX7, TX7, 20, rfl, by decide, sk_fw7, Or.inl (sk_tin 737 (by decide +kernel) rfl)⟩
theorem lfX7_31 : sk_LF RX7 31 7 13 := ⟨RX7, TX7, 20, rfl, by decide, sk_fw7, Or.inl (sk_tin 739 (by decide +kernel) rfl)⟩
theorem lfX7_34 : sk_LF RX7 34 7 16 := ⟨RX7, TX7, 20, rfl, by decide, sk_fw7, Or.inl (sk_tin 742 (by decide +kernel) rfl)⟩
theorem lfX7_37 : sk_LF RX7 37 7 17 := ⟨RX7, TX7, 20, rfl, by decide, sk_fw7, Or.inl (sk_tin 743 (by decide +kernel) rfl)⟩
theorem lfX7_40 : sk_LF RX7 40 7 18 := ⟨RX7, TX7, 20, rfl, by decide, sk_fw7, Or.inl (sk_tin 744 (by decide +kernel) rfl)⟩
theorem lfX7_43 : sk_LF RX7 43 7 19 := ⟨RX7, TX7, 20, rfl, by decide, sk_fw7, Or.inl (sk_tin 745 (by decide +kernel) rfl)⟩
theorem lfX7_57 : sk_LF RX7 57 7 4 := ⟨RX7, TX7, 20, rfl, by decide, sk_fw7, Or.inl (sk_tin 730 (by decide +kernel) rfl)⟩
theorem lpX7_57 : sk_LP RX7 57 7 4 .int := ⟨RX7, TX7, 20, rfl, by decide, sk_fw7, Or.inl (sk_tin 730 (by decide +kernel) rfl), ⟨tyX7, tyX7_ok⟩, nmX7, rfl, by decide +kernel⟩
theorem lfX7_61 : sk_LF RX7 61 7 7 := ⟨RX7, TX7, 20, rfl, by decide, sk_fw7, Or.inl (sk_tin 733 (by decide +kernel) rfl)⟩
theorem lpX7_61 : sk_LP RX7 61 7 7 .int := ⟨RX7, TX7, 20, rfl, by decide, sk_fw7, Or.inl (sk_tin 733 (by decide +kernel) rfl), ⟨tyX7, tyX7_ok⟩, nmX7, rfl, by decide +kernel⟩
theorem lfX7_64 : sk_LF RX7 64 7 6 := ⟨RX7, TX7, 20, rfl, by decide, sk_fw7, Or.inl (sk_tin 732 (by decide +kernel) rfl)⟩
theorem lpX7_64 : sk_LP RX7 64 7 6 .int := ⟨RX7, TX7, 20, rfl, by decide, sk_fw7, Or.inl (sk_tin 732 (by decide +kernel) rfl), ⟨tyX7, tyX7_ok⟩, nmX7, rfl, by decide +kernel⟩
theorem lfX7_91 : sk_LF RX7 91 7 5 := ⟨RX7, TX7, 20, rfl, by decide, sk_fw7, Or.inl (sk_tin 731 (by decide +kernel) rfl)⟩
theorem lpX7_91 : sk_LP RX7 91 7 5 .int := ⟨RX7, TX7, 20, rfl, by decide, sk_fw7, Or.inl (sk_tin 731 (by decide +kernel) rfl), ⟨tyX7, tyX7_ok⟩, nmX7, rfl, by decide +kernel⟩
theorem lfX7_217 : sk_LF RX7 217 7 12 := ⟨RX7, TX7, 20, rfl, by decide, sk_fw7, Or.inl (sk_tin 738 (by decide +kernel) rfl)⟩
theorem lpX7_217 : sk_LP RX7 217 7 12 .int := ⟨RX7, TX7, 20, rfl, by decide, sk_fw7, Or.inl (sk_tin 738 (by decide +kernel) rfl), ⟨tyX7, tyX7_ok⟩, nmX7, rfl, by decide +kernel⟩
theorem lfX7_220 : sk_LF RX7 220 7 14 := ⟨RX7, TX7, 20, rfl, by decide, sk_fw7, Or.inl (sk_tin 740 (by decide +kernel) rfl)⟩
theorem lpX7_220 : sk_LP RX7 220 7 14 .int := ⟨RX7, TX7, 20, rfl, by decide, sk_fw7, Or.inl (sk_tin 740 (by decide +kernel) rfl), ⟨tyX7, tyX7_ok⟩, nmX7, rfl, by decide +kernel⟩
theorem lfX7_241 : sk_LF RX7 241 7 15 := ⟨RX7, TX7, 20, rfl, by decide, sk_fw7, Or.inl (sk_tin 741 (by decide +kernel) rfl)⟩
theorem lpX7_241 : sk_LP RX7 241 7 15 .boolean := ⟨RX7, TX7, 20, rfl, by decide, sk_fw7, Or.inl (sk_tin 741 (by decide +kernel) rfl), ⟨tyX7, tyX7_ok⟩, nmX7, rfl, by decide +kernel⟩
theorem lfX7_255 : sk_LF RX7 255 7 2 := ⟨RX7, TX7, 20, rfl, by decide, sk_fw7, Or.inl (sk_tin 728 (by decide +kernel) rfl)⟩
theorem lpX7_255 : sk_LP RX7 255 7 2 .int := ⟨RX7, TX7, 20, rfl, by decide, sk_fw7, Or.inl (sk_tin 728 (by decide +kernel) rfl), ⟨tyX7, tyX7_ok⟩, nmX7, rfl, by decide +kernel⟩
theorem kcX6_289 : Cond.constant RX6 289 (-1000000000) ∈ sk_ALL := sk_tin 251 (by decide +kernel) rfl
theorem kcX3_147 : Cond.constant RX3 147 (99999) ∈ sk_ALL := sk_tin 495 (by decide +kernel) rfl
theorem kcX3_159 : Cond.constant RX3 159 (1103515245) ∈ sk_ALL := sk_tin 510 (by decide +kernel) rfl
theorem kcX7_46 : Cond.constant RX7 46 (-1000000000) ∈ sk_ALL := sk_tin 798 (by decide +kernel) rfl
theorem kcX7_164 : Cond.constant RX7 164 (99999) ∈ sk_ALL := sk_tin 995 (by decide +kernel) rfl
theorem kcX7_165 : Cond.constant RX7 165 (1103515245) ∈ sk_ALL := sk_tin 1004 (by decide +kernel) rfl
theorem kcJ6_264 : Cond.constant RJ6 264 (65536) ∈ sk_ALL := sk_tin 531 (by decide +kernel) rfl
theorem kcJ6_265 : Cond.constant RJ6 265 (1431655765) ∈ sk_ALL := sk_tin 560 (by decide +kernel) rfl
theorem kcJ6_266 : Cond.constant RJ6 266 (858993459) ∈ sk_ALL := sk_tin 561 (by decide +kernel) rfl
theorem kcJ6_267 : Cond.constant RJ6 267 (252645135) ∈ sk_ALL := sk_tin 562 (by decide +kernel) rfl
theorem klX6_201 : Cond.constantLong RX6 201 (281474976710655) ∈ sk_ALL := sk_tin 523 (by decide +kernel) rfl
theorem klX6_203 : Cond.constantLong RX6 203 (-1) ∈ sk_ALL := sk_tin 524 (by decide +kernel) rfl
theorem klX3_81 : Cond.constantLong RX3 81 (281474976710655) ∈ sk_ALL := sk_tin 360 (by decide +kernel) rfl
theorem klX4_22 : Cond.constantLong RX4 22 (255) ∈ sk_ALL := sk_tin 613 (by decide +kernel) rfl
theorem klX5_63 : Cond.constantLong RX5 63 (255) ∈ sk_ALL := sk_tin 347 (by decide +kernel) rfl
theorem klL_49 : Cond.constantLong RL 49 (4294967295) ∈ sk_ALL := sk_tin 1146 (by decide +kernel) rfl
theorem klX7_55 : Cond.constantLong RX7 55 (255) ∈ sk_ALL := sk_tin 799 (by decide +kernel) rfl
theorem klX7_138 : Cond.constantLong RX7 138 (281474976710655) ∈ sk_ALL := sk_tin 940 (by decide +kernel) rfl
theorem klJ13_314 : Cond.constantLong RJ13 314 (6148914691236517205) ∈ sk_ALL := sk_tin 371 (by decide +kernel) rfl
theorem klJ13_316 : Cond.constantLong RJ13 316 (3689348814741910323) ∈ sk_ALL := sk_tin 372 (by decide +kernel) rfl
theorem klJ13_318 : Cond.constantLong RJ13 318 (1085102592571150095) ∈ sk_ALL := sk_tin 373 (by decide +kernel) rfl
abbrev mX0_sing : sk_M := (yX0_sing, cX0_sing, 5, (some .int))
theorem mfX0_sing : sk_MF mX0_sing 4 := ⟨sk_tin 622 (by decide +kernel) rfl, sk_tin 6 (by decide +kernel) rfl, by decide +kernel, by decide +kernel, by decide +kernel, by decide +kernel, by decide⟩
theorem miX0_sing : Cond.instanceMethod yX0_sing ∈ sk_ALL := sk_tin 621 (by decide +kernel) rfl
theorem msX0_sing : Cond.selects RX0 yX0_sing yX0_sing ∈ sk_ALL := sk_sin 44 (by decide +kernel) rfl
abbrev mX0_own : sk_M := (yX0_own, cX0_own, 4, (some .int))
theorem mfX0_own : sk_MF mX0_own 3 := ⟨sk_tin 626 (by decide +kernel) rfl, sk_tin 6 (by decide +kernel) rfl, by decide +kernel, by decide +kernel, by decide +kernel, by decide +kernel, by decide⟩
theorem miX0_own : Cond.instanceMethod yX0_own ∈ sk_ALL := sk_tin 625 (by decide +kernel) rfl
theorem msX0_own : Cond.selects RX0 yX0_own yX0_own ∈ sk_ALL := sk_sin 45 (by decide +kernel) rfl
abbrev mX0_from : sk_M := (yX0_from, cX0_from, 7, (some .int))
theorem mfX0_from : sk_MF mX0_from 4 := ⟨sk_tin 630 (by decide +kernel) rfl, sk_tin 6 (by decide +kernel) rfl, by decide +kernel, by decide +kernel, by decide +kernel, by decide +kernel, by decide⟩
theorem miX0_from : Cond.instanceMethod yX0_from ∈ sk_ALL := sk_tin 629 (by decide +kernel) rfl
theorem msX0_from : Cond.selects RX0 yX0_from yX0_from ∈ sk_ALL := sk_sin 46 (by decide +kernel) rfl
abbrev mX0_begin : sk_M := (yX0_begin, cX0_begin, 5, (some .int))
theorem mfX0_begin : sk_MF mX0_begin 4 := ⟨sk_tin 637 (by decide +kernel) rfl, sk_tin 6 (by decide +kernel) rfl, by decide +kernel, by decide +kernel, by decide +kernel, by decide +kernel, by decide⟩
theorem miX0_begin : Cond.instanceMethod yX0_begin ∈ sk_ALL := sk_tin 636 (by decide +kernel) rfl
theorem msX0_begin : Cond.selects RX0 yX0_begin yX0_begin ∈ sk_ALL := sk_sin 47 (by decide +kernel) rfl
abbrev mX0_shared : sk_M := (yX0_shared, cX0_shared, 3, (some .int))
theorem mfX0_shared : sk_MF mX0_shared 1 := ⟨sk_tin 641 (by decide +kernel) rfl, sk_tin 6 (by decide +kernel) rfl, by decide +kernel, by decide +kernel, by decide +kernel, by decide +kernel, by decide⟩
theorem miX0_shared : Cond.instanceMethod yX0_shared ∈ sk_ALL := sk_tin 640 (by decide +kernel) rfl
theorem msX0_shared : Cond.selects RX0 yX0_shared yX0_shared ∈ sk_ALL := sk_sin 48 (by decide +kernel) rfl
abbrev mX0_partsAndRings : sk_M := (yX0_partsAndRings, cX0_partsAndRings, 5, (some .int))
theorem mfX0_partsAndRings : sk_MF mX0_partsAndRings 3 := ⟨sk_tin 645 (by decide +kernel) rfl, sk_tin 6 (by decide +kernel) rfl, by decide +kernel, by decide +kernel, by decide +kernel, by decide +kernel, by decide⟩
theorem miX0_partsAndRings : Cond.instanceMethod yX0_partsAndRings ∈ sk_ALL := sk_tin 644 (by decide +kernel) rfl
theorem msX0_partsAndRings : Cond.selects RX0 yX0_partsAndRings yX0_partsAndRings ∈ sk_ALL := sk_sin 49 (by decide +kernel) rfl
abbrev mX1_adopt : sk_M := (yX1_adopt, cX1_adopt, 3, none)
theorem mfX1_adopt : sk_MF mX1_adopt 2 := ⟨sk_tin 454 (by decide +kernel) rfl, sk_tin 4 (by decide +kernel) rfl, by decide +kernel, by decide +kernel, by decide +kernel, by decide +kernel, by decide⟩
theorem miX1_adopt : Cond.instanceMethod yX1_adopt ∈ sk_ALL := sk_tin 453 (by decide +kernel) rfl
theorem msX1_adopt : Cond.selects RX1 yX1_adopt yX1_adopt ∈ sk_ALL := sk_sin 28 (by decide +kernel) rfl
abbrev mX1_copy : sk_M := (yX1_copy, cX1_copy, 2, none)
theorem mfX1_copy : sk_MF mX1_copy 1 := ⟨sk_tin 698 (by decide +kernel) rfl, sk_tin 4 (by decide +kernel) rfl, by decide +kernel, by decide +kernel, by decide +kernel, by decide +kernel, by decide⟩
theorem miX1_copy : Cond.instanceMethod yX1_copy ∈ sk_ALL := sk_tin 697 (by decide +kernel) rfl
theorem msX1_copy : Cond.selects RX1 yX1_copy yX1_copy ∈ sk_ALL := sk_sin 55 (by decide +kernel) rfl
abbrev mX1_give : sk_M := (yX1_give, cX1_give, 5, (some .int))
theorem mfX1_give : sk_MF mX1_give 3 := ⟨sk_tin 298 (by decide +kernel) rfl, sk_tin 4 (by decide +kernel) rfl, by decide +kernel, by decide +kernel, by decide +kernel, by decide +kernel, by decide⟩
theorem miX1_give : Cond.instanceMethod yX1_give ∈ sk_ALL := sk_tin 297 (by decide +kernel) rfl
theorem msX1_give : Cond.selects RX1 yX1_give yX1_give ∈ sk_ALL := sk_sin 10 (by decide +kernel) rfl
abbrev mX1_workOut : sk_M := (yX1_workOut, cX1_workOut, 7, (some .int))
theorem mfX1_workOut : sk_MF mX1_workOut 3 := ⟨sk_tin 302 (by decide +kernel) rfl, sk_tin 4 (by decide +kernel) rfl, by decide +kernel, by decide +kernel, by decide +kernel, by decide +kernel, by decide⟩
theorem miX1_workOut : Cond.instanceMethod yX1_workOut ∈ sk_ALL := sk_tin 301 (by decide +kernel) rfl
theorem msX1_workOut : Cond.selects RX1 yX1_workOut yX1_workOut ∈ sk_ALL := sk_sin 11 (by decide +kernel) rfl
abbrev mX1_worth : sk_M := (yX1_worth, cX1_worth, 4, (some .int))
theorem mfX1_worth : sk_MF mX1_worth 4 := ⟨sk_tin 308 (by decide +kernel) rfl, sk_tin 4 (by decide +kernel) rfl, by decide +kernel, by decide +kernel, by decide +kernel, by decide +kernel, by decide⟩
theorem miX1_worth : Cond.static yX1_worth ∈ sk_ALL := sk_tin 307 (by decide +kernel) rfl
abbrev mX1_join : sk_M := (yX1_join, cX1_join, 3, (some .int))
theorem mfX1_join : sk_MF mX1_join 3 := ⟨sk_tin 305 (by decide +kernel) rfl, sk_tin 4 (by decide +kernel) rfl, by decide +kernel, by decide +kernel, by decide +kernel, by decide +kernel, by decide⟩
theorem miX1_join : Cond.static yX1_join ∈ sk_ALL := sk_tin 304 (by decide +kernel) rfl
abbrev mX2_read : sk_M := (yX2_read, cX2_read, 4, (some .int))
theorem mfX2_read : sk_MF mX2_read 3 := ⟨sk_tin 404 (by decide +kernel) rfl, sk_tin 5 (by decide +kernel) rfl, by decide +kernel, by decide +kernel, by decide +kernel, by decide +kernel, by decide⟩
theorem miX2_read : Cond.instanceMethod yX2_read ∈ sk_ALL := sk_tin 403 (by decide +kernel) rfl
theorem msX2_read : Cond.selects RX2 yX2_read yX2_read ∈ sk_ALL := sk_sin 17 (by decide +kernel) rfl
abbrev mX2_sign : sk_M := (yX2_sign, cX2_sign, 1, (some .int))
theorem mfX2_sign : sk_MF mX2_sign 0 := ⟨sk_tin 436 (by decide +kernel) rfl, sk_tin 5 (by decide +kernel) rfl, by decide +kernel, by decide +kernel, by decide +kernel, by decide +kernel, by decide⟩
theorem miX2_sign : Cond.instanceMethod yX2_sign ∈ sk_ALL := sk_tin 435 (by decide +kernel) rfl
theorem msX2_sign : Cond.selects RX2 yX2_sign yX2_sign ∈ sk_ALL := sk_sin 24 (by decide +kernel) rfl
abbrev mX2_emit : sk_M := (yX2_emit, cX2_emit, 2, none)
theorem mfX2_emit : sk_MF mX2_emit 1 := ⟨sk_tin 444 (by decide +kernel) rfl, sk_tin 5 (by decide +kernel) rfl, by decide +kernel, by decide +kernel, by decide +kernel, by decide +kernel, by decide⟩
theorem miX2_emit : Cond.instanceMethod yX2_emit ∈ sk_ALL := sk_tin 443 (by decide +kernel) rfl
theorem msX2_emit : Cond.selects RX2 yX2_emit yX2_emit ∈ sk_ALL := sk_sin 26 (by decide +kernel) rfl
abbrev mX2_any : sk_M := (yX2_any, cX2_any, 4, (some .boolean))
theorem mfX2_any : sk_MF mX2_any 1 := ⟨sk_tin 412 (by decide +kernel) rfl, sk_tin 5 (by decide +kernel) rfl, by decide +kernel, by decide +kernel, by decide +kernel, by decide +kernel, by decide⟩
theorem miX2_any : Cond.instanceMethod yX2_any ∈ sk_ALL := sk_tin 411 (by decide +kernel) rfl
theorem msX2_any : Cond.selects RX2 yX2_any yX2_any ∈ sk_ALL := sk_sin 18 (by decide +kernel) rfl
abbrev mX2_all : sk_M := (yX2_all, cX2_all, 4, (some .boolean))
theorem mfX2_all : sk_MF mX2_all 1 := ⟨sk_tin 416 (by decide +kernel) rfl, sk_tin 5 (by decide +kernel) rfl, by decide +kernel, by decide +kernel, by decide +kernel, by decide +kernel, by decide⟩
theorem miX2_all : Cond.instanceMethod yX2_all ∈ sk_ALL := sk_tin 415 (by decide +kernel) rfl
theorem msX2_all : Cond.selects RX2 yX2_all yX2_all ∈ sk_ALL := sk_sin 19 (by decide +kernel) rfl
abbrev mX2_comparison : sk_M := (yX2_comparison, cX2_comparison, 4, (some .boolean))
theorem mfX2_comparison : sk_MF mX2_comparison 1 := ⟨sk_tin 420 (by decide +kernel) rfl, sk_tin 5 (by decide +kernel) rfl, by decide +kernel, by decide +kernel, by decide +kernel, by decide +kernel, by decide⟩
theorem miX2_comparison : Cond.instanceMethod yX2_comparison ∈ sk_ALL := sk_tin 419 (by decide +kernel) rfl
theorem msX2_comparison : Cond.selects RX2 yX2_comparison yX2_comparison ∈ sk_ALL := sk_sin 20 (by decide +kernel) rfl
abbrev mX2_sum : sk_M := (yX2_sum, cX2_sum, 5, (some .boolean))
theorem mfX2_sum : sk_MF mX2_sum 1 := ⟨sk_tin 424 (by decide +kernel) rfl, sk_tin 5 (by decide +kernel) rfl, by decide +kernel, by decide +kernel, by decide +kernel, by decide +kernel, by decide⟩
theorem miX2_sum : Cond.instanceMethod yX2_sum ∈ sk_ALL := sk_tin 423 (by decide +kernel) rfl
theorem msX2_sum : Cond.selects RX2 yX2_sum yX2_sum ∈ sk_ALL := sk_sin 21 (by decide +kernel) rfl
abbrev mX2_product : sk_M := (yX2_product, cX2_product, 5, (some .boolean))
theorem mfX2_product : sk_MF mX2_product 1 := ⟨sk_tin 428 (by decide +kernel) rfl, sk_tin 5 (by decide +kernel) rfl, by decide +kernel, by decide +kernel, by decide +kernel, by decide +kernel, by decide⟩
theorem miX2_product : Cond.instanceMethod yX2_product ∈ sk_ALL := sk_tin 427 (by decide +kernel) rfl
theorem msX2_product : Cond.selects RX2 yX2_product yX2_product ∈ sk_ALL := sk_sin 22 (by decide +kernel) rfl
abbrev mX2_single : sk_M := (yX2_single, cX2_single, 4, (some .boolean))
theorem mfX2_single : sk_MF mX2_single 1 := ⟨sk_tin 432 (by decide +kernel) rfl, sk_tin 5 (by decide +kernel) rfl, by decide +kernel, by decide +kernel, by decide +kernel, by decide +kernel, by decide⟩
theorem miX2_single : Cond.instanceMethod yX2_single ∈ sk_ALL := sk_tin 431 (by decide +kernel) rfl
theorem msX2_single : Cond.selects RX2 yX2_single yX2_single ∈ sk_ALL := sk_sin 23 (by decide +kernel) rfl
abbrev mX2_opened : sk_M := (yX2_opened, cX2_opened, 4, (some .boolean))
theorem mfX2_opened : sk_MF mX2_opened 2 := ⟨sk_tin 448 (by decide +kernel) rfl, sk_tin 5 (by decide +kernel) rfl, by decide +kernel, by decide +kernel, by decide +kernel, by decide +kernel, by decide⟩
theorem miX2_opened : Cond.instanceMethod yX2_opened ∈ sk_ALL := sk_tin 447 (by decide +kernel) rfl
theorem msX2_opened : Cond.selects RX2 yX2_opened yX2_opened ∈ sk_ALL := sk_sin 27 (by decide +kernel) rfl
abbrev mX2_number : sk_M := (yX2_number, cX2_number, 3, none)
theorem mfX2_number : sk_MF mX2_number 0 := ⟨sk_tin 440 (by decide +kernel) rfl, sk_tin 5 (by decide +kernel) rfl, by decide +kernel, by decide +kernel, by decide +kernel, by decide +kernel, by decide⟩
theorem miX2_number : Cond.instanceMethod yX2_number ∈ sk_ALL := sk_tin 439 (by decide +kernel) rfl
theorem msX2_number : Cond.selects RX2 yX2_number yX2_number ∈ sk_ALL := sk_sin 25 (by decide +kernel) rfl
abbrev mX3_copy : sk_M := (yX3_copy, cX3_copy, 3, none)
theorem mfX3_copy : sk_MF mX3_copy 1 := ⟨sk_tin 690 (by decide +kernel) rfl, sk_tin 2 (by decide +kernel) rfl, by decide +kernel, by decide +kernel, by decide +kernel, by decide +kernel, by decide⟩
theorem miX3_copy : Cond.instanceMethod yX3_copy ∈ sk_ALL := sk_tin 689 (by decide +kernel) rfl
theorem msX3_copy : Cond.selects RX3 yX3_copy yX3_copy ∈ sk_ALL := sk_sin 53 (by decide +kernel) rfl
abbrev mX3_holdOf : sk_M := (yX3_holdOf, cX3_holdOf, 4, (some .int))
theorem mfX3_holdOf : sk_MF mX3_holdOf 2 := ⟨sk_tin 290 (by decide +kernel) rfl, sk_tin 2 (by decide +kernel) rfl, by decide +kernel, by decide +kernel, by decide +kernel, by decide +kernel, by decide⟩
theorem miX3_holdOf : Cond.instanceMethod yX3_holdOf ∈ sk_ALL := sk_tin 289 (by decide +kernel) rfl
theorem msX3_holdOf : Cond.selects RX3 yX3_holdOf yX3_holdOf ∈ sk_ALL := sk_sin 8 (by decide +kernel) rfl
abbrev mX3_rightUnder : sk_M := (yX3_rightUnder, cX3_rightUnder, 2, (some .long))
theorem mfX3_rightUnder : sk_MF mX3_rightUnder 1 := ⟨sk_tin 359 (by decide +kernel) rfl, sk_tin 2 (by decide +kernel) rfl, by decide +kernel, by decide +kernel, by decide +kernel, by decide +kernel, by decide⟩
theorem miX3_rightUnder : Cond.static yX3_rightUnder ∈ sk_ALL := sk_tin 358 (by decide +kernel) rfl
abbrev mX3_rightAbove : sk_M := (yX3_rightAbove, cX3_rightAbove, 2, (some .long))
theorem mfX3_rightAbove : sk_MF mX3_rightAbove 1 := ⟨sk_tin 356 (by decide +kernel) rfl, sk_tin 2 (by decide +kernel) rfl, by decide +kernel, by decide +kernel, by decide +kernel, by decide +kernel, by decide⟩
theorem miX3_rightAbove : Cond.static yX3_rightAbove ∈ sk_ALL := sk_tin 355 (by decide +kernel) rfl
abbrev mX3_covered : sk_M := (yX3_covered, cX3_covered, 2, (some .long))
theorem mfX3_covered : sk_MF mX3_covered 1 := ⟨sk_tin 367 (by decide +kernel) rfl, sk_tin 2 (by decide +kernel) rfl, by decide +kernel, by decide +kernel, by decide +kernel, by decide +kernel, by decide⟩
theorem miX3_covered : Cond.static yX3_covered ∈ sk_ALL := sk_tin 366 (by decide +kernel) rfl
abbrev mX3_mayLie : sk_M := (yX3_mayLie, cX3_mayLie, 6, (some .boolean))
theorem mfX3_mayLie : sk_MF mX3_mayLie 2 := ⟨sk_tin 338 (by decide +kernel) rfl, sk_tin 2 (by decide +kernel) rfl, by decide +kernel, by decide +kernel, by decide +kernel, by decide +kernel, by decide⟩
theorem miX3_mayLie : Cond.instanceMethod yX3_mayLie ∈ sk_ALL := sk_tin 337 (by decide +kernel) rfl
theorem msX3_mayLie : Cond.selects RX3 yX3_mayLie yX3_mayLie ∈ sk_ALL := sk_sin 13 (by decide +kernel) rfl
abbrev mX3_dryBut : sk_M := (yX3_dryBut, cX3_dryBut, 5, (some .long))
theorem mfX3_dryBut : sk_MF mX3_dryBut 1 := ⟨sk_tin 364 (by decide +kernel) rfl, sk_tin 2 (by decide +kernel) rfl, by decide +kernel, by decide +kernel, by decide +kernel, by decide +kernel, by decide⟩
theorem miX3_dryBut : Cond.instanceMethod yX3_dryBut ∈ sk_ALL := sk_tin 363 (by decide +kernel) rfl
theorem msX3_dryBut : Cond.selects RX3 yX3_dryBut yX3_dryBut ∈ sk_ALL := sk_sin 16 (by decide +kernel) rfl
abbrev mX3_dryWith : sk_M := (yX3_dryWith, cX3_dryWith, 3, (some .int))
theorem mfX3_dryWith : sk_MF mX3_dryWith 2 := ⟨sk_tin 574 (by decide +kernel) rfl, sk_tin 2 (by decide +kernel) rfl, by decide +kernel, by decide +kernel, by decide +kernel, by decide +kernel, by decide⟩
theorem miX3_dryWith : Cond.instanceMethod yX3_dryWith ∈ sk_ALL := sk_tin 573 (by decide +kernel) rfl
theorem msX3_dryWith : Cond.selects RX3 yX3_dryWith yX3_dryWith ∈ sk_ALL := sk_sin 39 (by decide +kernel) rfl
abbrev mX3_bestCell : sk_M := (yX3_bestCell, cX3_bestCell, 5, (some .int))
theorem mfX3_bestCell : sk_MF mX3_bestCell 1 := ⟨sk_tin 570 (by decide +kernel) rfl, sk_tin 2 (by decide +kernel) rfl, by decide +kernel, by decide +kernel, by decide +kernel, by decide +kernel, by decide⟩
theorem miX3_bestCell : Cond.instanceMethod yX3_bestCell ∈ sk_ALL := sk_tin 569 (by decide +kernel) rfl
theorem msX3_bestCell : Cond.selects RX3 yX3_bestCell yX3_bestCell ∈ sk_ALL := sk_sin 38 (by decide +kernel) rfl
abbrev mX3_lyingOver : sk_M := (yX3_lyingOver, cX3_lyingOver, 4, (some .int))
theorem mfX3_lyingOver : sk_MF mX3_lyingOver 1 := ⟨sk_tin 540 (by decide +kernel) rfl, sk_tin 2 (by decide +kernel) rfl, by decide +kernel, by decide +kernel, by decide +kernel, by decide +kernel, by decide⟩
theorem miX3_lyingOver : Cond.instanceMethod yX3_lyingOver ∈ sk_ALL := sk_tin 539 (by decide +kernel) rfl
theorem msX3_lyingOver : Cond.selects RX3 yX3_lyingOver yX3_lyingOver ∈ sk_ALL := sk_sin 35 (by decide +kernel) rfl
abbrev mX3_toComeTo : sk_M := (yX3_toComeTo, cX3_toComeTo, 7, (some .int))
theorem mfX3_toComeTo : sk_MF mX3_toComeTo 1 := ⟨sk_tin 544 (by decide +kernel) rfl, sk_tin 2 (by decide +kernel) rfl, by decide +kernel, by decide +kernel, by decide +kernel, by decide +kernel, by decide⟩
theorem miX3_toComeTo : Cond.instanceMethod yX3_toComeTo ∈ sk_ALL := sk_tin 543 (by decide +kernel) rfl
theorem msX3_toComeTo : Cond.selects RX3 yX3_toComeTo yX3_toComeTo ∈ sk_ALL := sk_sin 36 (by decide +kernel) rfl
abbrev mX3_ownOf : sk_M := (yX3_ownOf, cX3_ownOf, 6, (some .long))
theorem mfX3_ownOf : sk_MF mX3_ownOf 2 := ⟨sk_tin 481 (by decide +kernel) rfl, sk_tin 2 (by decide +kernel) rfl, by decide +kernel, by decide +kernel, by decide +kernel, by decide +kernel, by decide⟩
theorem miX3_ownOf : Cond.instanceMethod yX3_ownOf ∈ sk_ALL := sk_tin 480 (by decide +kernel) rfl
theorem msX3_ownOf : Cond.selects RX3 yX3_ownOf yX3_ownOf ∈ sk_ALL := sk_sin 30 (by decide +kernel) rfl
abbrev mX3_blown : sk_M := (yX3_blown, cX3_blown, 7, (some .int))
theorem mfX3_blown : sk_MF mX3_blown 1 := ⟨sk_tin 475 (by decide +kernel) rfl, sk_tin 2 (by decide +kernel) rfl, by decide +kernel, by decide +kernel, by decide +kernel, by decide +kernel, by decide⟩
theorem miX3_blown : Cond.instanceMethod yX3_blown ∈ sk_ALL := sk_tin 474 (by decide +kernel) rfl
theorem msX3_blown : Cond.selects RX3 yX3_blown yX3_blown ∈ sk_ALL := sk_sin 29 (by decide +kernel) rfl
abbrev mX3_takeOff : sk_M := (yX3_takeOff, cX3_takeOff, 3, none)
theorem mfX3_takeOff : sk_MF mX3_takeOff 1 := ⟨sk_tin 485 (by decide +kernel) rfl, sk_tin 2 (by decide +kernel) rfl, by decide +kernel, by decide +kernel, by decide +kernel, by decide +kernel, by decide⟩
theorem miX3_takeOff : Cond.instanceMethod yX3_takeOff ∈ sk_ALL := sk_tin 484 (by decide +kernel) rfl
theorem msX3_takeOff : Cond.selects RX3 yX3_takeOff yX3_takeOff ∈ sk_ALL := sk_sin 31 (by decide +kernel) rfl
abbrev mX3_mustBeFast : sk_M := (yX3_mustBeFast, cX3_mustBeFast, 6, (some .int))
theorem mfX3_mustBeFast : sk_MF mX3_mustBeFast 1 := ⟨sk_tin 556 (by decide +kernel) rfl, sk_tin 2 (by decide +kernel) rfl, by decide +kernel, by decide +kernel, by decide +kernel, by decide +kernel, by decide⟩
theorem miX3_mustBeFast : Cond.instanceMethod yX3_mustBeFast ∈ sk_ALL := sk_tin 555 (by decide +kernel) rfl
theorem msX3_mustBeFast : Cond.selects RX3 yX3_mustBeFast yX3_mustBeFast ∈ sk_ALL := sk_sin 37 (by decide +kernel) rfl
abbrev mX3_ringing : sk_M := (yX3_ringing, cX3_ringing, 4, (some .int))
theorem mfX3_ringing : sk_MF mX3_ringing 0 := ⟨sk_tin 584 (by decide +kernel) rfl, sk_tin 2 (by decide +kernel) rfl, by decide +kernel, by decide +kernel, by decide +kernel, by decide +kernel, by decide⟩
theorem miX3_ringing : Cond.instanceMethod yX3_ringing ∈ sk_ALL := sk_tin 583 (by decide +kernel) rfl
theorem msX3_ringing : Cond.selects RX3 yX3_ringing yX3_ringing ∈ sk_ALL := sk_sin 40 (by decide +kernel) rfl
abbrev mX3_follows : sk_M := (yX3_follows, cX3_follows, 3, (some .boolean))
theorem mfX3_follows : sk_MF mX3_follows 2 := ⟨sk_tin 588 (by decide +kernel) rfl, sk_tin 2 (by decide +kernel) rfl, by decide +kernel, by decide +kernel, by decide +kernel, by decide +kernel, by decide⟩
theorem miX3_follows : Cond.instanceMethod yX3_follows ∈ sk_ALL := sk_tin 587 (by decide +kernel) rfl
theorem msX3_follows : Cond.selects RX3 yX3_follows yX3_follows ∈ sk_ALL := sk_sin 41 (by decide +kernel) rfl
abbrev mX3_passYear : sk_M := (yX3_passYear, cX3_passYear, 5, none)
theorem mfX3_passYear : sk_MF mX3_passYear 0 := ⟨sk_tin 493 (by decide +kernel) rfl, sk_tin 2 (by decide +kernel) rfl, by decide +kernel, by decide +kernel, by decide +kernel, by decide +kernel, by decide⟩
theorem miX3_passYear : Cond.instanceMethod yX3_passYear ∈ sk_ALL := sk_tin 492 (by decide +kernel) rfl
theorem msX3_passYear : Cond.selects RX3 yX3_passYear yX3_passYear ∈ sk_ALL := sk_sin 32 (by decide +kernel) rfl
abbrev mX3_draw : sk_M := (yX3_draw, cX3_draw, 1, (some .int))
theorem mfX3_draw : sk_MF mX3_draw 0 := ⟨sk_tin 509 (by decide +kernel) rfl, sk_tin 2 (by decide +kernel) rfl, by decide +kernel, by decide +kernel, by decide +kernel, by decide +kernel, by decide⟩
theorem miX3_draw : Cond.instanceMethod yX3_draw ∈ sk_ALL := sk_tin 508 (by decide +kernel) rfl
theorem msX3_draw : Cond.selects RX3 yX3_draw yX3_draw ∈ sk_ALL := sk_sin 34 (by decide +kernel) rfl
abbrev mX3_yearByDraws : sk_M := (yX3_yearByDraws, cX3_yearByDraws, 4, (some .int))
theorem mfX3_yearByDraws : sk_MF mX3_yearByDraws 0 := ⟨sk_tin 505 (by decide +kernel) rfl, sk_tin 2 (by decide +kernel) rfl, by decide +kernel, by decide +kernel, by decide +kernel, by decide +kernel, by decide⟩
theorem miX3_yearByDraws : Cond.instanceMethod yX3_yearByDraws ∈ sk_ALL := sk_tin 504 (by decide +kernel) rfl
theorem msX3_yearByDraws : Cond.selects RX3 yX3_yearByDraws yX3_yearByDraws ∈ sk_ALL := sk_sin 33 (by decide +kernel) rfl
abbrev mX4_isMissing : sk_M := (yX4_isMissing, cX4_isMissing, 1, (some .boolean))
theorem mfX4_isMissing : sk_MF mX4_isMissing 0 := ⟨sk_tin 608 (by decide +kernel) rfl, sk_tin 7 (by decide +kernel) rfl, by decide +kernel, by decide +kernel, by decide +kernel, by decide +kernel, by decide⟩
theorem miX4_isMissing : Cond.instanceMethod yX4_isMissing ∈ sk_ALL := sk_tin 607 (by decide +kernel) rfl
theorem msX4_isMissing : Cond.selects RX4 yX4_isMissing yX4_isMissing ∈ sk_ALL := sk_sin 42 (by decide +kernel) rfl
abbrev mX4_begin : sk_M := (yX4_begin, cX4_begin, 4, none)
theorem mfX4_begin : sk_MF mX4_begin 2 := ⟨sk_tin 657 (by decide +kernel) rfl, sk_tin 7 (by decide +kernel) rfl, by decide +kernel, by decide +kernel, by decide +kernel, by decide +kernel, by decide⟩
theorem miX4_begin : Cond.instanceMethod yX4_begin ∈ sk_ALL := sk_tin 656 (by decide +kernel) rfl
theorem msX4_begin : Cond.selects RX4 yX4_begin yX4_begin ∈ sk_ALL := sk_sin 50 (by decide +kernel) rfl
abbrev mX4_write : sk_M := (yX4_write, cX4_write, 3, none)
theorem mfX4_write : sk_MF mX4_write 2 := ⟨sk_tin 665 (by decide +kernel) rfl, sk_tin 7 (by decide +kernel) rfl, by decide +kernel, by decide +kernel, by decide +kernel, by decide +kernel, by decide⟩
theorem miX4_write : Cond.instanceMethod yX4_write ∈ sk_ALL := sk_tin 664 (by decide +kernel) rfl
theorem msX4_write : Cond.selects RX4 yX4_write yX4_write ∈ sk_ALL := sk_sin 51 (by decide +kernel) rfl
abbrev mX4_has : sk_M := (yX4_has, cX4_has, 3, (some .boolean))
theorem mfX4_has : sk_MF mX4_has 2 := ⟨sk_tin 673 (by decide +kernel) rfl, sk_tin 7 (by decide +kernel) rfl, by decide +kernel, by decide +kernel, by decide +kernel, by decide +kernel, by decide⟩
theorem miX4_has : Cond.instanceMethod yX4_has ∈ sk_ALL := sk_tin 672 (by decide +kernel) rfl
theorem msX4_has : Cond.selects RX4 yX4_has yX4_has ∈ sk_ALL := sk_sin 52 (by decide +kernel) rfl
abbrev mX4_tellsRows : sk_M := (yX4_tellsRows, cX4_tellsRows, 4, (some .boolean))
theorem mfX4_tellsRows : sk_MF mX4_tellsRows 1 := ⟨sk_tin 612 (by decide +kernel) rfl, sk_tin 7 (by decide +kernel) rfl, by decide +kernel, by decide +kernel, by decide +kernel, by decide +kernel, by decide⟩
theorem miX4_tellsRows : Cond.instanceMethod yX4_tellsRows ∈ sk_ALL := sk_tin 611 (by decide +kernel) rfl
theorem msX4_tellsRows : Cond.selects RX4 yX4_tellsRows yX4_tellsRows ∈ sk_ALL := sk_sin 43 (by decide +kernel) rfl
abbrev mX5_kindAbove : sk_M := (yX5_kindAbove, cX5_kindAbove, 1, (some .int))
theorem mfX5_kindAbove : sk_MF mX5_kindAbove 1 := ⟨sk_tin 328 (by decide +kernel) rfl, sk_tin 3 (by decide +kernel) rfl, by decide +kernel, by decide +kernel, by decide +kernel, by decide +kernel, by decide⟩
theorem miX5_kindAbove : Cond.static yX5_kindAbove ∈ sk_ALL := sk_tin 327 (by decide +kernel) rfl
abbrev mX5_begin : sk_M := (yX5_begin, cX5_begin, 5, none)
theorem mfX5_begin : sk_MF mX5_begin 4 := ⟨sk_tin 255 (by decide +kernel) rfl, sk_tin 3 (by decide +kernel) rfl, by decide +kernel, by decide +kernel, by decide +kernel, by decide +kernel, by decide⟩
theorem miX5_begin : Cond.instanceMethod yX5_begin ∈ sk_ALL := sk_tin 254 (by decide +kernel) rfl
theorem msX5_begin : Cond.selects RX5 yX5_begin yX5_begin ∈ sk_ALL := sk_sin 1 (by decide +kernel) rfl
abbrev mX5_turn : sk_M := (yX5_turn, cX5_turn, 2, none)
theorem mfX5_turn : sk_MF mX5_turn 1 := ⟨sk_tin 259 (by decide +kernel) rfl, sk_tin 3 (by decide +kernel) rfl, by decide +kernel, by decide +kernel, by decide +kernel, by decide +kernel, by decide⟩
theorem miX5_turn : Cond.instanceMethod yX5_turn ∈ sk_ALL := sk_tin 258 (by decide +kernel) rfl
theorem msX5_turn : Cond.selects RX5 yX5_turn yX5_turn ∈ sk_ALL := sk_sin 2 (by decide +kernel) rfl
abbrev mX5_copy : sk_M := (yX5_copy, cX5_copy, 2, none)
theorem mfX5_copy : sk_MF mX5_copy 1 := ⟨sk_tin 694 (by decide +kernel) rfl, sk_tin 3 (by decide +kernel) rfl, by decide +kernel, by decide +kernel, by decide +kernel, by decide +kernel, by decide⟩
theorem miX5_copy : Cond.instanceMethod yX5_copy ∈ sk_ALL := sk_tin 693 (by decide +kernel) rfl
theorem msX5_copy : Cond.selects RX5 yX5_copy yX5_copy ∈ sk_ALL := sk_sin 54 (by decide +kernel) rfl
abbrev mX5_isUnder : sk_M := (yX5_isUnder, cX5_isUnder, 4, (some .boolean))
theorem mfX5_isUnder : sk_MF mX5_isUnder 1 := ⟨sk_tin 325 (by decide +kernel) rfl, sk_tin 3 (by decide +kernel) rfl, by decide +kernel, by decide +kernel, by decide +kernel, by decide +kernel, by decide⟩
theorem miX5_isUnder : Cond.instanceMethod yX5_isUnder ∈ sk_ALL := sk_tin 324 (by decide +kernel) rfl
theorem msX5_isUnder : Cond.selects RX5 yX5_isUnder yX5_isUnder ∈ sk_ALL := sk_sin 12 (by decide +kernel) rfl
abbrev mX5_isLaid : sk_M := (yX5_isLaid, cX5_isLaid, 1, (some .boolean))
theorem mfX5_isLaid : sk_MF mX5_isLaid 0 := ⟨sk_tin 275 (by decide +kernel) rfl, sk_tin 3 (by decide +kernel) rfl, by decide +kernel, by decide +kernel, by decide +kernel, by decide +kernel, by decide⟩
theorem miX5_isLaid : Cond.instanceMethod yX5_isLaid ∈ sk_ALL := sk_tin 274 (by decide +kernel) rfl
theorem msX5_isLaid : Cond.selects RX5 yX5_isLaid yX5_isLaid ∈ sk_ALL := sk_sin 5 (by decide +kernel) rfl
abbrev mX5_row : sk_M := (yX5_row, cX5_row, 1, (some .int))
theorem mfX5_row : sk_MF mX5_row 0 := ⟨sk_tin 271 (by decide +kernel) rfl, sk_tin 3 (by decide +kernel) rfl, by decide +kernel, by decide +kernel, by decide +kernel, by decide +kernel, by decide⟩
theorem miX5_row : Cond.instanceMethod yX5_row ∈ sk_ALL := sk_tin 270 (by decide +kernel) rfl
theorem msX5_row : Cond.selects RX5 yX5_row yX5_row ∈ sk_ALL := sk_sin 4 (by decide +kernel) rfl
abbrev mX5_place : sk_M := (yX5_place, cX5_place, 1, (some .int))
theorem mfX5_place : sk_MF mX5_place 0 := ⟨sk_tin 279 (by decide +kernel) rfl, sk_tin 3 (by decide +kernel) rfl, by decide +kernel, by decide +kernel, by decide +kernel, by decide +kernel, by decide⟩
theorem miX5_place : Cond.instanceMethod yX5_place ∈ sk_ALL := sk_tin 278 (by decide +kernel) rfl
theorem msX5_place : Cond.selects RX5 yX5_place yX5_place ∈ sk_ALL := sk_sin 6 (by decide +kernel) rfl
abbrev mX5_broad : sk_M := (yX5_broad, cX5_broad, 1, (some .int))
theorem mfX5_broad : sk_MF mX5_broad 0 := ⟨sk_tin 283 (by decide +kernel) rfl, sk_tin 3 (by decide +kernel) rfl, by decide +kernel, by decide +kernel, by decide +kernel, by decide +kernel, by decide⟩
theorem miX5_broad : Cond.instanceMethod yX5_broad ∈ sk_ALL := sk_tin 282 (by decide +kernel) rfl
theorem msX5_broad : Cond.selects RX5 yX5_broad yX5_broad ∈ sk_ALL := sk_sin 7 (by decide +kernel) rfl
abbrev mX5_holds : sk_M := (yX5_holds, cX5_holds, 4, (some .int))
theorem mfX5_holds : sk_MF mX5_holds 2 := ⟨sk_tin 294 (by decide +kernel) rfl, sk_tin 3 (by decide +kernel) rfl, by decide +kernel, by decide +kernel, by decide +kernel, by decide +kernel, by decide⟩
theorem miX5_holds : Cond.instanceMethod yX5_holds ∈ sk_ALL := sk_tin 293 (by decide +kernel) rfl
theorem msX5_holds : Cond.selects RX5 yX5_holds yX5_holds ∈ sk_ALL := sk_sin 9 (by decide +kernel) rfl
abbrev mX5_ownAt : sk_M := (yX5_ownAt, cX5_ownAt, 5, (some .long))
theorem mfX5_ownAt : sk_MF mX5_ownAt 1 := ⟨sk_tin 342 (by decide +kernel) rfl, sk_tin 3 (by decide +kernel) rfl, by decide +kernel, by decide +kernel, by decide +kernel, by decide +kernel, by decide⟩
theorem miX5_ownAt : Cond.instanceMethod yX5_ownAt ∈ sk_ALL := sk_tin 341 (by decide +kernel) rfl
theorem msX5_ownAt : Cond.selects RX5 yX5_ownAt yX5_ownAt ∈ sk_ALL := sk_sin 14 (by decide +kernel) rfl
abbrev mX5_own : sk_M := (yX5_own, cX5_own, 1, (some .long))
theorem mfX5_own : sk_MF mX5_own 0 := ⟨sk_tin 351 (by decide +kernel) rfl, sk_tin 3 (by decide +kernel) rfl, by decide +kernel, by decide +kernel, by decide +kernel, by decide +kernel, by decide⟩
theorem miX5_own : Cond.instanceMethod yX5_own ∈ sk_ALL := sk_tin 350 (by decide +kernel) rfl
theorem msX5_own : Cond.selects RX5 yX5_own yX5_own ∈ sk_ALL := sk_sin 15 (by decide +kernel) rfl
abbrev mX6_slate : sk_M := (yX6_slate, cX6_slate, 5, (some .int))
theorem mfX6_slate : sk_MF mX6_slate 4 := ⟨sk_tin 240 (by decide +kernel) rfl, sk_tin 1 (by decide +kernel) rfl, by decide +kernel, by decide +kernel, by decide +kernel, by decide +kernel, by decide⟩
theorem miX6_slate : Cond.instanceMethod yX6_slate ∈ sk_ALL := sk_tin 238 (by decide +kernel) rfl
theorem msX6_slate : Cond.selects RX6 yX6_slate yX6_slate ∈ sk_ALL := sk_tin 239 (by decide +kernel) rfl
abbrev mX6_slateIs : sk_M := (yX6_slateIs, cX6_slateIs, 4, (some .int))
theorem mfX6_slateIs : sk_MF mX6_slateIs 2 := ⟨sk_tin 263 (by decide +kernel) rfl, sk_tin 1 (by decide +kernel) rfl, by decide +kernel, by decide +kernel, by decide +kernel, by decide +kernel, by decide⟩
theorem miX6_slateIs : Cond.instanceMethod yX6_slateIs ∈ sk_ALL := sk_tin 261 (by decide +kernel) rfl
theorem msX6_slateIs : Cond.selects RX6 yX6_slateIs yX6_slateIs ∈ sk_ALL := sk_tin 262 (by decide +kernel) rfl
abbrev mX6_become : sk_M := (yX6_become, cX6_become, 4, (some .int))
theorem mfX6_become : sk_MF mX6_become 2 := ⟨sk_tin 316 (by decide +kernel) rfl, sk_tin 1 (by decide +kernel) rfl, by decide +kernel, by decide +kernel, by decide +kernel, by decide +kernel, by decide⟩
theorem miX6_become : Cond.instanceMethod yX6_become ∈ sk_ALL := sk_tin 314 (by decide +kernel) rfl
theorem msX6_become : Cond.selects RX6 yX6_become yX6_become ∈ sk_ALL := sk_tin 315 (by decide +kernel) rfl
abbrev mX6_as : sk_M := (yX6_as, cX6_as, 3, (some .int))
theorem mfX6_as : sk_MF mX6_as 2 := ⟨sk_tin 321 (by decide +kernel) rfl, sk_tin 1 (by decide +kernel) rfl, by decide +kernel, by decide +kernel, by decide +kernel, by decide +kernel, by decide⟩
theorem miX6_as : Cond.instanceMethod yX6_as ∈ sk_ALL := sk_tin 319 (by decide +kernel) rfl
theorem msX6_as : Cond.selects RX6 yX6_as yX6_as ∈ sk_ALL := sk_tin 320 (by decide +kernel) rfl
abbrev mX6_lay : sk_M := (yX6_lay, cX6_lay, 5, (some .int))
theorem mfX6_lay : sk_MF mX6_lay 3 := ⟨sk_tin 334 (by decide +kernel) rfl, sk_tin 1 (by decide +kernel) rfl, by decide +kernel, by decide +kernel, by decide +kernel, by decide +kernel, by decide⟩
theorem miX6_lay : Cond.instanceMethod yX6_lay ∈ sk_ALL := sk_tin 332 (by decide +kernel) rfl
theorem msX6_lay : Cond.selects RX6 yX6_lay yX6_lay ∈ sk_ALL := sk_tin 333 (by decide +kernel) rfl
abbrev mX6_lift : sk_M := (yX6_lift, cX6_lift, 2, (some .int))
theorem mfX6_lift : sk_MF mX6_lift 1 := ⟨sk_tin 377 (by decide +kernel) rfl, sk_tin 1 (by decide +kernel) rfl, by decide +kernel, by decide +kernel, by decide +kernel, by decide +kernel, by decide⟩
theorem miX6_lift : Cond.instanceMethod yX6_lift ∈ sk_ALL := sk_tin 375 (by decide +kernel) rfl
theorem msX6_lift : Cond.selects RX6 yX6_lift yX6_lift ∈ sk_ALL := sk_tin 376 (by decide +kernel) rfl
abbrev mX6_nail : sk_M := (yX6_nail, cX6_nail, 4, (some .int))
theorem mfX6_nail : sk_MF mX6_nail 2 := ⟨sk_tin 382 (by decide +kernel) rfl, sk_tin 1 (by decide +kernel) rfl, by decide +kernel, by decide +kernel, by decide +kernel, by decide +kernel, by decide⟩
theorem miX6_nail : Cond.instanceMethod yX6_nail ∈ sk_ALL := sk_tin 380 (by decide +kernel) rfl
theorem msX6_nail : Cond.selects RX6 yX6_nail yX6_nail ∈ sk_ALL := sk_tin 381 (by decide +kernel) rfl
abbrev mX6_sells : sk_M := (yX6_sells, cX6_sells, 3, (some .int))
theorem mfX6_sells : sk_MF mX6_sells 1 := ⟨sk_tin 386 (by decide +kernel) rfl, sk_tin 1 (by decide +kernel) rfl, by decide +kernel, by decide +kernel, by decide +kernel, by decide +kernel, by decide⟩
theorem miX6_sells : Cond.instanceMethod yX6_sells ∈ sk_ALL := sk_tin 384 (by decide +kernel) rfl
theorem msX6_sells : Cond.selects RX6 yX6_sells yX6_sells ∈ sk_ALL := sk_tin 385 (by decide +kernel) rfl
abbrev mX6_feed : sk_M := (yX6_feed, cX6_feed, 5, (some .int))
theorem mfX6_feed : sk_MF mX6_feed 2 := ⟨sk_tin 393 (by decide +kernel) rfl, sk_tin 1 (by decide +kernel) rfl, by decide +kernel, by decide +kernel, by decide +kernel, by decide +kernel, by decide⟩
theorem miX6_feed : Cond.instanceMethod yX6_feed ∈ sk_ALL := sk_tin 391 (by decide +kernel) rfl
theorem msX6_feed : Cond.selects RX6 yX6_feed yX6_feed ∈ sk_ALL := sk_tin 392 (by decide +kernel) rfl
abbrev mX6_text : sk_M := (yX6_text, cX6_text, 3, (some .int))
theorem mfX6_text : sk_MF mX6_text 1 := ⟨sk_tin 397 (by decide +kernel) rfl, sk_tin 1 (by decide +kernel) rfl, by decide +kernel, by decide +kernel, by decide +kernel, by decide +kernel, by decide⟩
theorem miX6_text : Cond.instanceMethod yX6_text ∈ sk_ALL := sk_tin 395 (by decide +kernel) rfl
theorem msX6_text : Cond.selects RX6 yX6_text yX6_text ∈ sk_ALL := sk_tin 396 (by decide +kernel) rfl
abbrev mX6_untell : sk_M := (yX6_untell, cX6_untell, 3, (some .int))
theorem mfX6_untell : sk_MF mX6_untell 1 := ⟨sk_tin 459 (by decide +kernel) rfl, sk_tin 1 (by decide +kernel) rfl, by decide +kernel, by decide +kernel, by decide +kernel, by decide +kernel, by decide⟩
theorem miX6_untell : Cond.instanceMethod yX6_untell ∈ sk_ALL := sk_tin 457 (by decide +kernel) rfl
theorem msX6_untell : Cond.selects RX6 yX6_untell yX6_untell ∈ sk_ALL := sk_tin 458 (by decide +kernel) rfl
abbrev mX6_law : sk_M := (yX6_law, cX6_law, 5, (some .int))
theorem mfX6_law : sk_MF mX6_law 4 := ⟨sk_tin 463 (by decide +kernel) rfl, sk_tin 1 (by decide +kernel) rfl, by decide +kernel, by decide +kernel, by decide +kernel, by decide +kernel, by decide⟩
theorem miX6_law : Cond.instanceMethod yX6_law ∈ sk_ALL := sk_tin 461 (by decide +kernel) rfl
theorem msX6_law : Cond.selects RX6 yX6_law yX6_law ∈ sk_ALL := sk_tin 462 (by decide +kernel) rfl
abbrev mX6_gale : sk_M := (yX6_gale, cX6_gale, 3, (some .int))
theorem mfX6_gale : sk_MF mX6_gale 1 := ⟨sk_tin 468 (by decide +kernel) rfl, sk_tin 1 (by decide +kernel) rfl, by decide +kernel, by decide +kernel, by decide +kernel, by decide +kernel, by decide⟩
theorem miX6_gale : Cond.instanceMethod yX6_gale ∈ sk_ALL := sk_tin 466 (by decide +kernel) rfl
theorem msX6_gale : Cond.selects RX6 yX6_gale yX6_gale ∈ sk_ALL := sk_tin 467 (by decide +kernel) rfl
abbrev mX6_years : sk_M := (yX6_years, cX6_years, 3, (some .int))
theorem mfX6_years : sk_MF mX6_years 1 := ⟨sk_tin 489 (by decide +kernel) rfl, sk_tin 1 (by decide +kernel) rfl, by decide +kernel, by decide +kernel, by decide +kernel, by decide +kernel, by decide⟩
theorem miX6_years : Cond.instanceMethod yX6_years ∈ sk_ALL := sk_tin 487 (by decide +kernel) rfl
theorem msX6_years : Cond.selects RX6 yX6_years yX6_years ∈ sk_ALL := sk_tin 488 (by decide +kernel) rfl
abbrev mX6_loose : sk_M := (yX6_loose, cX6_loose, 4, (some .int))
theorem mfX6_loose : sk_MF mX6_loose 1 := ⟨sk_tin 501 (by decide +kernel) rfl, sk_tin 1 (by decide +kernel) rfl, by decide +kernel, by decide +kernel, by decide +kernel, by decide +kernel, by decide⟩
theorem miX6_loose : Cond.instanceMethod yX6_loose ∈ sk_ALL := sk_tin 499 (by decide +kernel) rfl
theorem msX6_loose : Cond.selects RX6 yX6_loose yX6_loose ∈ sk_ALL := sk_tin 500 (by decide +kernel) rfl
abbrev mX6_seed : sk_M := (yX6_seed, cX6_seed, 3, (some .int))
theorem mfX6_seed : sk_MF mX6_seed 1 := ⟨sk_tin 518 (by decide +kernel) rfl, sk_tin 1 (by decide +kernel) rfl, by decide +kernel, by decide +kernel, by decide +kernel, by decide +kernel, by decide⟩
theorem miX6_seed : Cond.instanceMethod yX6_seed ∈ sk_ALL := sk_tin 516 (by decide +kernel) rfl
theorem msX6_seed : Cond.selects RX6 yX6_seed yX6_seed ∈ sk_ALL := sk_tin 517 (by decide +kernel) rfl
abbrev mX6_dry : sk_M := (yX6_dry, cX6_dry, 4, (some .long))
theorem mfX6_dry : sk_MF mX6_dry 1 := ⟨sk_tin 522 (by decide +kernel) rfl, sk_tin 1 (by decide +kernel) rfl, by decide +kernel, by decide +kernel, by decide +kernel, by decide +kernel, by decide⟩
theorem miX6_dry : Cond.instanceMethod yX6_dry ∈ sk_ALL := sk_tin 520 (by decide +kernel) rfl
theorem msX6_dry : Cond.selects RX6 yX6_dry yX6_dry ∈ sk_ALL := sk_tin 521 (by decide +kernel) rfl
abbrev mX6_over : sk_M := (yX6_over, cX6_over, 4, (some .int))
theorem mfX6_over : sk_MF mX6_over 2 := ⟨sk_tin 535 (by decide +kernel) rfl, sk_tin 1 (by decide +kernel) rfl, by decide +kernel, by decide +kernel, by decide +kernel, by decide +kernel, by decide⟩
theorem miX6_over : Cond.instanceMethod yX6_over ∈ sk_ALL := sk_tin 533 (by decide +kernel) rfl
theorem msX6_over : Cond.selects RX6 yX6_over yX6_over ∈ sk_ALL := sk_tin 534 (by decide +kernel) rfl
abbrev mX6_lifts : sk_M := (yX6_lifts, cX6_lifts, 4, (some .int))
theorem mfX6_lifts : sk_MF mX6_lifts 2 := ⟨sk_tin 548 (by decide +kernel) rfl, sk_tin 1 (by decide +kernel) rfl, by decide +kernel, by decide +kernel, by decide +kernel, by decide +kernel, by decide⟩
theorem miX6_lifts : Cond.instanceMethod yX6_lifts ∈ sk_ALL := sk_tin 546 (by decide +kernel) rfl
theorem msX6_lifts : Cond.selects RX6 yX6_lifts yX6_lifts ∈ sk_ALL := sk_tin 547 (by decide +kernel) rfl
abbrev mX6_fast : sk_M := (yX6_fast, cX6_fast, 4, (some .int))
theorem mfX6_fast : sk_MF mX6_fast 2 := ⟨sk_tin 552 (by decide +kernel) rfl, sk_tin 1 (by decide +kernel) rfl, by decide +kernel, by decide +kernel, by decide +kernel, by decide +kernel, by decide⟩
theorem miX6_fast : Cond.instanceMethod yX6_fast ∈ sk_ALL := sk_tin 550 (by decide +kernel) rfl
theorem msX6_fast : Cond.selects RX6 yX6_fast yX6_fast ∈ sk_ALL := sk_tin 551 (by decide +kernel) rfl
abbrev mX6_best : sk_M := (yX6_best, cX6_best, 4, (some .int))
theorem mfX6_best : sk_MF mX6_best 2 := ⟨sk_tin 566 (by decide +kernel) rfl, sk_tin 1 (by decide +kernel) rfl, by decide +kernel, by decide +kernel, by decide +kernel, by decide +kernel, by decide⟩
theorem miX6_best : Cond.instanceMethod yX6_best ∈ sk_ALL := sk_tin 564 (by decide +kernel) rfl
theorem msX6_best : Cond.selects RX6 yX6_best yX6_best ∈ sk_ALL := sk_tin 565 (by decide +kernel) rfl
abbrev mX6_rings : sk_M := (yX6_rings, cX6_rings, 1, (some .int))
theorem mfX6_rings : sk_MF mX6_rings 0 := ⟨sk_tin 580 (by decide +kernel) rfl, sk_tin 1 (by decide +kernel) rfl, by decide +kernel, by decide +kernel, by decide +kernel, by decide +kernel, by decide⟩
theorem miX6_rings : Cond.instanceMethod yX6_rings ∈ sk_ALL := sk_tin 578 (by decide +kernel) rfl
theorem msX6_rings : Cond.selects RX6 yX6_rings yX6_rings ∈ sk_ALL := sk_tin 579 (by decide +kernel) rfl
abbrev mX6_odds : sk_M := (yX6_odds, cX6_odds, 5, (some .int))
theorem mfX6_odds : sk_MF mX6_odds 2 := ⟨sk_tin 594 (by decide +kernel) rfl, sk_tin 1 (by decide +kernel) rfl, by decide +kernel, by decide +kernel, by decide +kernel, by decide +kernel, by decide⟩
theorem miX6_odds : Cond.instanceMethod yX6_odds ∈ sk_ALL := sk_tin 592 (by decide +kernel) rfl
theorem msX6_odds : Cond.selects RX6 yX6_odds yX6_odds ∈ sk_ALL := sk_tin 593 (by decide +kernel) rfl
abbrev mX6_fits : sk_M := (yX6_fits, cX6_fits, 6, (some .int))
theorem mfX6_fits : sk_MF mX6_fits 2 := ⟨sk_tin 601 (by decide +kernel) rfl, sk_tin 1 (by decide +kernel) rfl, by decide +kernel, by decide +kernel, by decide +kernel, by decide +kernel, by decide⟩
theorem miX6_fits : Cond.instanceMethod yX6_fits ∈ sk_ALL := sk_tin 599 (by decide +kernel) rfl
theorem msX6_fits : Cond.selects RX6 yX6_fits yX6_fits ∈ sk_ALL := sk_tin 600 (by decide +kernel) rfl
abbrev mX6_voice : sk_M := (yX6_voice, cX6_voice, 5, (some .int))
theorem mfX6_voice : sk_MF mX6_voice 3 := ⟨sk_tin 618 (by decide +kernel) rfl, sk_tin 1 (by decide +kernel) rfl, by decide +kernel, by decide +kernel, by decide +kernel, by decide +kernel, by decide⟩
theorem miX6_voice : Cond.instanceMethod yX6_voice ∈ sk_ALL := sk_tin 616 (by decide +kernel) rfl
theorem msX6_voice : Cond.selects RX6 yX6_voice yX6_voice ∈ sk_ALL := sk_tin 617 (by decide +kernel) rfl
abbrev mX6_body : sk_M := (yX6_body, cX6_body, 2, (some .int))
theorem mfX6_body : sk_MF mX6_body 1 := ⟨sk_tin 649 (by decide +kernel) rfl, sk_tin 1 (by decide +kernel) rfl, by decide +kernel, by decide +kernel, by decide +kernel, by decide +kernel, by decide⟩
theorem miX6_body : Cond.instanceMethod yX6_body ∈ sk_ALL := sk_tin 647 (by decide +kernel) rfl
theorem msX6_body : Cond.selects RX6 yX6_body yX6_body ∈ sk_ALL := sk_tin 648 (by decide +kernel) rfl
abbrev mX6_sheet : sk_M := (yX6_sheet, cX6_sheet, 4, (some .int))
theorem mfX6_sheet : sk_MF mX6_sheet 3 := ⟨sk_tin 653 (by decide +kernel) rfl, sk_tin 1 (by decide +kernel) rfl, by decide +kernel, by decide +kernel, by decide +kernel, by decide +kernel, by decide⟩
theorem miX6_sheet : Cond.instanceMethod yX6_sheet ∈ sk_ALL := sk_tin 651 (by decide +kernel) rfl
theorem msX6_sheet : Cond.selects RX6 yX6_sheet yX6_sheet ∈ sk_ALL := sk_tin 652 (by decide +kernel) rfl
abbrev mX6_put : sk_M := (yX6_put, cX6_put, 4, (some .int))
theorem mfX6_put : sk_MF mX6_put 3 := ⟨sk_tin 661 (by decide +kernel) rfl, sk_tin 1 (by decide +kernel) rfl, by decide +kernel, by decide +kernel, by decide +kernel, by decide +kernel, by decide⟩
theorem miX6_put : Cond.instanceMethod yX6_put ∈ sk_ALL := sk_tin 659 (by decide +kernel) rfl
theorem msX6_put : Cond.selects RX6 yX6_put yX6_put ∈ sk_ALL := sk_tin 660 (by decide +kernel) rfl
abbrev mX6_move : sk_M := (yX6_move, cX6_move, 8, (some .int))
theorem mfX6_move : sk_MF mX6_move 5 := ⟨sk_tin 669 (by decide +kernel) rfl, sk_tin 1 (by decide +kernel) rfl, by decide +kernel, by decide +kernel, by decide +kernel, by decide +kernel, by decide⟩
theorem miX6_move : Cond.instanceMethod yX6_move ∈ sk_ALL := sk_tin 667 (by decide +kernel) rfl
theorem msX6_move : Cond.selects RX6 yX6_move yX6_move ∈ sk_ALL := sk_tin 668 (by decide +kernel) rfl
abbrev mX6_nailed : sk_M := (yX6_nailed, cX6_nailed, 5, (some .int))
theorem mfX6_nailed : sk_MF mX6_nailed 1 := ⟨sk_tin 678 (by decide +kernel) rfl, sk_tin 1 (by decide +kernel) rfl, by decide +kernel, by decide +kernel, by decide +kernel, by decide +kernel, by decide⟩
theorem miX6_nailed : Cond.instanceMethod yX6_nailed ∈ sk_ALL := sk_tin 676 (by decide +kernel) rfl
theorem msX6_nailed : Cond.selects RX6 yX6_nailed yX6_nailed ∈ sk_ALL := sk_tin 677 (by decide +kernel) rfl
abbrev mX6_judge : sk_M := (yX6_judge, cX6_judge, 5, (some .int))
theorem mfX6_judge : sk_MF mX6_judge 1 := ⟨sk_tin 682 (by decide +kernel) rfl, sk_tin 1 (by decide +kernel) rfl, by decide +kernel, by decide +kernel, by decide +kernel, by decide +kernel, by decide⟩
theorem miX6_judge : Cond.instanceMethod yX6_judge ∈ sk_ALL := sk_tin 680 (by decide +kernel) rfl
theorem msX6_judge : Cond.selects RX6 yX6_judge yX6_judge ∈ sk_ALL := sk_tin 681 (by decide +kernel) rfl
abbrev mX6_image : sk_M := (yX6_image, cX6_image, 1, (some .int))
theorem mfX6_image : sk_MF mX6_image 0 := ⟨sk_tin 686 (by decide +kernel) rfl, sk_tin 1 (by decide +kernel) rfl, by decide +kernel, by decide +kernel, by decide +kernel, by decide +kernel, by decide⟩
theorem miX6_image : Cond.instanceMethod yX6_image ∈ sk_ALL := sk_tin 684 (by decide +kernel) rfl
theorem msX6_image : Cond.selects RX6 yX6_image yX6_image ∈ sk_ALL := sk_tin 685 (by decide +kernel) rfl
abbrev mX6_restore : sk_M := (yX6_restore, cX6_restore, 1, (some .int))
theorem mfX6_restore : sk_MF mX6_restore 0 := ⟨sk_tin 703 (by decide +kernel) rfl, sk_tin 1 (by decide +kernel) rfl, by decide +kernel, by decide +kernel, by decide +kernel, by decide +kernel, by decide⟩
theorem miX6_restore : Cond.instanceMethod yX6_restore ∈ sk_ALL := sk_tin 701 (by decide +kernel) rfl
theorem msX6_restore : Cond.selects RX6 yX6_restore yX6_restore ∈ sk_ALL := sk_tin 702 (by decide +kernel) rfl
abbrev mX6_tell : sk_M := (yX6_tell, cX6_tell, 2, (some .int))
theorem mfX6_tell : sk_MF mX6_tell 1 := ⟨sk_tin 707 (by decide +kernel) rfl, sk_tin 1 (by decide +kernel) rfl, by decide +kernel, by decide +kernel, by decide +kernel, by decide +kernel, by decide⟩
theorem miX6_tell : Cond.instanceMethod yX6_tell ∈ sk_ALL := sk_tin 705 (by decide +kernel) rfl
theorem msX6_tell : Cond.selects RX6 yX6_tell yX6_tell ∈ sk_ALL := sk_tin 706 (by decide +kernel) rfl
abbrev mX6_check : sk_M := (yX6_check, cX6_check, 3, (some .int))
theorem mfX6_check : sk_MF mX6_check 0 := ⟨sk_tin 711 (by decide +kernel) rfl, sk_tin 1 (by decide +kernel) rfl, by decide +kernel, by decide +kernel, by decide +kernel, by decide +kernel, by decide⟩
theorem miX6_check : Cond.instanceMethod yX6_check ∈ sk_ALL := sk_tin 709 (by decide +kernel) rfl
theorem msX6_check : Cond.selects RX6 yX6_check yX6_check ∈ sk_ALL := sk_tin 710 (by decide +kernel) rfl
abbrev mX6_count : sk_M := (yX6_count, cX6_count, 2, (some .int))
theorem mfX6_count : sk_MF mX6_count 1 := ⟨sk_tin 715 (by decide +kernel) rfl, sk_tin 1 (by decide +kernel) rfl, by decide +kernel, by decide +kernel, by decide +kernel, by decide +kernel, by decide⟩
theorem miX6_count : Cond.instanceMethod yX6_count ∈ sk_ALL := sk_tin 713 (by decide +kernel) rfl
theorem msX6_count : Cond.selects RX6 yX6_count yX6_count ∈ sk_ALL := sk_tin 714 (by decide +kernel) rfl
abbrev mX6_told : sk_M := (yX6_told, cX6_told, 2, (some .int))
theorem mfX6_told : sk_MF mX6_told 1 := ⟨sk_tin 719 (by decide +kernel) rfl, sk_tin 1 (by decide +kernel) rfl, by decide +kernel, by decide +kernel, by decide +kernel, by decide +kernel, by decide⟩
theorem miX6_told : Cond.instanceMethod yX6_told ∈ sk_ALL := sk_tin 717 (by decide +kernel) rfl
theorem msX6_told : Cond.selects RX6 yX6_told yX6_told ∈ sk_ALL := sk_tin 718 (by decide +kernel) rfl
abbrev mX6_error : sk_M := (yX6_error, cX6_error, 2, (some .int))
theorem mfX6_error : sk_MF mX6_error 1 := ⟨sk_tin 250 (by decide +kernel) rfl, sk_tin 1 (by decide +kernel) rfl, by decide +kernel, by decide +kernel, by decide +kernel, by decide +kernel, by decide⟩
theorem miX6_error : Cond.instanceMethod yX6_error ∈ sk_ALL := sk_tin 249 (by decide +kernel) rfl
theorem msX6_error : Cond.selects RX6 yX6_error yX6_error ∈ sk_ALL := sk_sin 0 (by decide +kernel) rfl
abbrev mX6_isSlate : sk_M := (yX6_isSlate, cX6_isSlate, 2, (some .boolean))
theorem mfX6_isSlate : sk_MF mX6_isSlate 1 := ⟨sk_tin 267 (by decide +kernel) rfl, sk_tin 1 (by decide +kernel) rfl, by decide +kernel, by decide +kernel, by decide +kernel, by decide +kernel, by decide⟩
theorem miX6_isSlate : Cond.instanceMethod yX6_isSlate ∈ sk_ALL := sk_tin 266 (by decide +kernel) rfl
theorem msX6_isSlate : Cond.selects RX6 yX6_isSlate yX6_isSlate ∈ sk_ALL := sk_sin 3 (by decide +kernel) rfl
abbrev mX6_isKindAndM : sk_M := (yX6_isKindAndM, cX6_isKindAndM, 1, (some .boolean))
theorem mfX6_isKindAndM : sk_MF mX6_isKindAndM 1 := ⟨sk_tin 243 (by decide +kernel) rfl, sk_tin 1 (by decide +kernel) rfl, by decide +kernel, by decide +kernel, by decide +kernel, by decide +kernel, by decide⟩
theorem miX6_isKindAndM : Cond.static yX6_isKindAndM ∈ sk_ALL := sk_tin 242 (by decide +kernel) rfl
abbrev mX6_isDigit : sk_M := (yX6_isDigit, cX6_isDigit, 1, (some .boolean))
theorem mfX6_isDigit : sk_MF mX6_isDigit 1 := ⟨sk_tin 246 (by decide +kernel) rfl, sk_tin 1 (by decide +kernel) rfl, by decide +kernel, by decide +kernel, by decide +kernel, by decide +kernel, by decide⟩
theorem miX6_isDigit : Cond.static yX6_isDigit ∈ sk_ALL := sk_tin 245 (by decide +kernel) rfl
abbrev mX6_isBit : sk_M := (yX6_isBit, cX6_isBit, 1, (some .boolean))
theorem mfX6_isBit : sk_MF mX6_isBit 1 := ⟨sk_tin 389 (by decide +kernel) rfl, sk_tin 1 (by decide +kernel) rfl, by decide +kernel, by decide +kernel, by decide +kernel, by decide +kernel, by decide⟩
theorem miX6_isBit : Cond.static yX6_isBit ∈ sk_ALL := sk_tin 388 (by decide +kernel) rfl
abbrev mX6_isUse : sk_M := (yX6_isUse, cX6_isUse, 1, (some .boolean))
theorem mfX6_isUse : sk_MF mX6_isUse 1 := ⟨sk_tin 400 (by decide +kernel) rfl, sk_tin 1 (by decide +kernel) rfl, by decide +kernel, by decide +kernel, by decide +kernel, by decide +kernel, by decide⟩
theorem miX6_isUse : Cond.static yX6_isUse ∈ sk_ALL := sk_tin 399 (by decide +kernel) rfl
abbrev mX6_isGale : sk_M := (yX6_isGale, cX6_isGale, 1, (some .boolean))
theorem mfX6_isGale : sk_MF mX6_isGale 1 := ⟨sk_tin 471 (by decide +kernel) rfl, sk_tin 1 (by decide +kernel) rfl, by decide +kernel, by decide +kernel, by decide +kernel, by decide +kernel, by decide⟩
theorem miX6_isGale : Cond.static yX6_isGale ∈ sk_ALL := sk_tin 470 (by decide +kernel) rfl
abbrev mX6_isCell : sk_M := (yX6_isCell, cX6_isCell, 1, (some .boolean))
theorem mfX6_isCell : sk_MF mX6_isCell 1 := ⟨sk_tin 345 (by decide +kernel) rfl, sk_tin 1 (by decide +kernel) rfl, by decide +kernel, by decide +kernel, by decide +kernel, by decide +kernel, by decide⟩
theorem miX6_isCell : Cond.static yX6_isCell ∈ sk_ALL := sk_tin 344 (by decide +kernel) rfl
abbrev mX6_isSheet : sk_M := (yX6_isSheet, cX6_isSheet, 1, (some .boolean))
theorem mfX6_isSheet : sk_MF mX6_isSheet 1 := ⟨sk_tin 604 (by decide +kernel) rfl, sk_tin 1 (by decide +kernel) rfl, by decide +kernel, by decide +kernel, by decide +kernel, by decide +kernel, by decide⟩
theorem miX6_isSheet : Cond.static yX6_isSheet ∈ sk_ALL := sk_tin 603 (by decide +kernel) rfl
abbrev mX6_commonDivisor : sk_M := (yX6_commonDivisor, cX6_commonDivisor, 6, (some .int))
theorem mfX6_commonDivisor : sk_MF mX6_commonDivisor 2 := ⟨sk_tin 597 (by decide +kernel) rfl, sk_tin 1 (by decide +kernel) rfl, by decide +kernel, by decide +kernel, by decide +kernel, by decide +kernel, by decide⟩
theorem miX6_commonDivisor : Cond.static yX6_commonDivisor ∈ sk_ALL := sk_tin 596 (by decide +kernel) rfl
abbrev mX7_error : sk_M := (yX7_error, cX7_error, 2, (some .int))
theorem mfX7_error : sk_MF mX7_error 1 := ⟨sk_tin 797 (by decide +kernel) rfl, sk_tin 8 (by decide +kernel) rfl, by decide +kernel, by decide +kernel, by decide +kernel, by decide +kernel, by decide⟩
theorem miX7_error : Cond.instanceMethod yX7_error ∈ sk_ALL := sk_tin 796 (by decide +kernel) rfl
theorem msX7_error : Cond.selects RX7 yX7_error yX7_error ∈ sk_ALL := sk_sin 56 (by decide +kernel) rfl
abbrev mX7_in : sk_M := (yX7_in, cX7_in, 3, (some .boolean))
theorem mfX7_in : sk_MF mX7_in 3 := ⟨sk_tin 793 (by decide +kernel) rfl, sk_tin 8 (by decide +kernel) rfl, by decide +kernel, by decide +kernel, by decide +kernel, by decide +kernel, by decide⟩
theorem miX7_in : Cond.static yX7_in ∈ sk_ALL := sk_tin 792 (by decide +kernel) rfl
abbrev mX7_held : sk_M := (yX7_held, cX7_held, 3, (some .int))
theorem mfX7_held : sk_MF mX7_held 3 := ⟨sk_tin 900 (by decide +kernel) rfl, sk_tin 8 (by decide +kernel) rfl, by decide +kernel, by decide +kernel, by decide +kernel, by decide +kernel, by decide⟩
theorem miX7_held : Cond.static yX7_held ∈ sk_ALL := sk_tin 899 (by decide +kernel) rfl
abbrev mX7_copyAll : sk_M := (yX7_copyAll, cX7_copyAll, 3, none)
theorem mfX7_copyAll : sk_MF mX7_copyAll 2 := ⟨sk_tin 1125 (by decide +kernel) rfl, sk_tin 8 (by decide +kernel) rfl, by decide +kernel, by decide +kernel, by decide +kernel, by decide +kernel, by decide⟩
theorem miX7_copyAll : Cond.static yX7_copyAll ∈ sk_ALL := sk_tin 1124 (by decide +kernel) rfl
abbrev mX7_isSlate : sk_M := (yX7_isSlate, cX7_isSlate, 2, (some .boolean))
theorem mfX7_isSlate : sk_MF mX7_isSlate 1 := ⟨sk_tin 862 (by decide +kernel) rfl, sk_tin 8 (by decide +kernel) rfl, by decide +kernel, by decide +kernel, by decide +kernel, by decide +kernel, by decide⟩
theorem miX7_isSlate : Cond.instanceMethod yX7_isSlate ∈ sk_ALL := sk_tin 861 (by decide +kernel) rfl
theorem msX7_isSlate : Cond.selects RX7 yX7_isSlate yX7_isSlate ∈ sk_ALL := sk_sin 68 (by decide +kernel) rfl
abbrev mX7_its : sk_M := (yX7_its, cX7_its, 3, (some .int))
theorem mfX7_its : sk_MF mX7_its 2 := ⟨sk_tin 874 (by decide +kernel) rfl, sk_tin 8 (by decide +kernel) rfl, by decide +kernel, by decide +kernel, by decide +kernel, by decide +kernel, by decide⟩
theorem miX7_its : Cond.instanceMethod yX7_its ∈ sk_ALL := sk_tin 873 (by decide +kernel) rfl
theorem msX7_its : Cond.selects RX7 yX7_its yX7_its ∈ sk_ALL := sk_sin 70 (by decide +kernel) rfl
abbrev mX7_lays1 : sk_M := (yX7_lays1, cX7_lays1, 4, none)
theorem mfX7_lays1 : sk_MF mX7_lays1 3 := ⟨sk_tin 866 (by decide +kernel) rfl, sk_tin 8 (by decide +kernel) rfl, by decide +kernel, by decide +kernel, by decide +kernel, by decide +kernel, by decide⟩
theorem miX7_lays1 : Cond.instanceMethod yX7_lays1 ∈ sk_ALL := sk_tin 865 (by decide +kernel) rfl
theorem msX7_lays1 : Cond.selects RX7 yX7_lays1 yX7_lays1 ∈ sk_ALL := sk_sin 69 (by decide +kernel) rfl
abbrev mX7_change1 : sk_M := (yX7_change1, cX7_change1, 4, (some .int))
theorem mfX7_change1 : sk_MF mX7_change1 2 := ⟨sk_tin 908 (by decide +kernel) rfl, sk_tin 8 (by decide +kernel) rfl, by decide +kernel, by decide +kernel, by decide +kernel, by decide +kernel, by decide⟩
theorem miX7_change1 : Cond.instanceMethod yX7_change1 ∈ sk_ALL := sk_tin 907 (by decide +kernel) rfl
theorem msX7_change1 : Cond.selects RX7 yX7_change1 yX7_change1 ∈ sk_ALL := sk_sin 76 (by decide +kernel) rfl
abbrev mX7_feed : sk_M := (yX7_feed, cX7_feed, 5, (some .int))
theorem mfX7_feed : sk_MF mX7_feed 2 := ⟨sk_tin 790 (by decide +kernel) rfl, sk_tin 8 (by decide +kernel) rfl, by decide +kernel, by decide +kernel, by decide +kernel, by decide +kernel, by decide⟩
theorem miX7_feed : Cond.instanceMethod yX7_feed ∈ sk_ALL := sk_tin 788 (by decide +kernel) rfl
theorem msX7_feed : Cond.selects RX7 yX7_feed yX7_feed ∈ sk_ALL := sk_tin 789 (by decide +kernel) rfl
abbrev mX7_look : sk_M := (yX7_look, cX7_look, 1, (some .int))
theorem mfX7_look : sk_MF mX7_look 0 := ⟨sk_tin 831 (by decide +kernel) rfl, sk_tin 8 (by decide +kernel) rfl, by decide +kernel, by decide +kernel, by decide +kernel, by decide +kernel, by decide⟩
theorem miX7_look : Cond.instanceMethod yX7_look ∈ sk_ALL := sk_tin 830 (by decide +kernel) rfl
theorem msX7_look : Cond.selects RX7 yX7_look yX7_look ∈ sk_ALL := sk_sin 63 (by decide +kernel) rfl
abbrev mX7_isName : sk_M := (yX7_isName, cX7_isName, 2, (some .boolean))
theorem mfX7_isName : sk_MF mX7_isName 1 := ⟨sk_tin 835 (by decide +kernel) rfl, sk_tin 8 (by decide +kernel) rfl, by decide +kernel, by decide +kernel, by decide +kernel, by decide +kernel, by decide⟩
theorem miX7_isName : Cond.instanceMethod yX7_isName ∈ sk_ALL := sk_tin 834 (by decide +kernel) rfl
theorem msX7_isName : Cond.selects RX7 yX7_isName yX7_isName ∈ sk_ALL := sk_sin 64 (by decide +kernel) rfl
abbrev mX7_step1 : sk_M := (yX7_step1, cX7_step1, 3, none)
theorem mfX7_step1 : sk_MF mX7_step1 2 := ⟨sk_tin 839 (by decide +kernel) rfl, sk_tin 8 (by decide +kernel) rfl, by decide +kernel, by decide +kernel, by decide +kernel, by decide +kernel, by decide⟩
theorem miX7_step1 : Cond.instanceMethod yX7_step1 ∈ sk_ALL := sk_tin 838 (by decide +kernel) rfl
theorem msX7_step1 : Cond.selects RX7 yX7_step1 yX7_step1 ∈ sk_ALL := sk_sin 65 (by decide +kernel) rfl
abbrev mX7_whole : sk_M := (yX7_whole, cX7_whole, 1, (some .boolean))
theorem mfX7_whole : sk_MF mX7_whole 0 := ⟨sk_tin 807 (by decide +kernel) rfl, sk_tin 8 (by decide +kernel) rfl, by decide +kernel, by decide +kernel, by decide +kernel, by decide +kernel, by decide⟩
theorem miX7_whole : Cond.instanceMethod yX7_whole ∈ sk_ALL := sk_tin 806 (by decide +kernel) rfl
theorem msX7_whole : Cond.selects RX7 yX7_whole yX7_whole ∈ sk_ALL := sk_sin 57 (by decide +kernel) rfl
abbrev mX7_both : sk_M := (yX7_both, cX7_both, 1, (some .boolean))
theorem mfX7_both : sk_MF mX7_both 0 := ⟨sk_tin 811 (by decide +kernel) rfl, sk_tin 8 (by decide +kernel) rfl, by decide +kernel, by decide +kernel, by decide +kernel, by decide +kernel, by decide⟩
theorem miX7_both : Cond.instanceMethod yX7_both ∈ sk_ALL := sk_tin 810 (by decide +kernel) rfl
theorem msX7_both : Cond.selects RX7 yX7_both yX7_both ∈ sk_ALL := sk_sin 58 (by decide +kernel) rfl
abbrev mX7_compared : sk_M := (yX7_compared, cX7_compared, 2, (some .boolean))
theorem mfX7_compared : sk_MF mX7_compared 0 := ⟨sk_tin 815 (by decide +kernel) rfl, sk_tin 8 (by decide +kernel) rfl, by decide +kernel, by decide +kernel, by decide +kernel, by decide +kernel, by decide⟩
theorem miX7_compared : Cond.instanceMethod yX7_compared ∈ sk_ALL := sk_tin 814 (by decide +kernel) rfl
theorem msX7_compared : Cond.selects RX7 yX7_compared yX7_compared ∈ sk_ALL := sk_sin 59 (by decide +kernel) rfl
abbrev mX7_sum : sk_M := (yX7_sum, cX7_sum, 2, (some .boolean))
theorem mfX7_sum : sk_MF mX7_sum 0 := ⟨sk_tin 819 (by decide +kernel) rfl, sk_tin 8 (by decide +kernel) rfl, by decide +kernel, by decide +kernel, by decide +kernel, by decide +kernel, by decide⟩
theorem miX7_sum : Cond.instanceMethod yX7_sum ∈ sk_ALL := sk_tin 818 (by decide +kernel) rfl
theorem msX7_sum : Cond.selects RX7 yX7_sum yX7_sum ∈ sk_ALL := sk_sin 60 (by decide +kernel) rfl
abbrev mX7_product : sk_M := (yX7_product, cX7_product, 2, (some .boolean))
theorem mfX7_product : sk_MF mX7_product 0 := ⟨sk_tin 823 (by decide +kernel) rfl, sk_tin 8 (by decide +kernel) rfl, by decide +kernel, by decide +kernel, by decide +kernel, by decide +kernel, by decide⟩
theorem miX7_product : Cond.instanceMethod yX7_product ∈ sk_ALL := sk_tin 822 (by decide +kernel) rfl
theorem msX7_product : Cond.selects RX7 yX7_product yX7_product ∈ sk_ALL := sk_sin 61 (by decide +kernel) rfl
abbrev mX7_opens : sk_M := (yX7_opens, cX7_opens, 1, (some .boolean))
theorem mfX7_opens : sk_MF mX7_opens 0 := ⟨sk_tin 843 (by decide +kernel) rfl, sk_tin 8 (by decide +kernel) rfl, by decide +kernel, by decide +kernel, by decide +kernel, by decide +kernel, by decide⟩
theorem miX7_opens : Cond.instanceMethod yX7_opens ∈ sk_ALL := sk_tin 842 (by decide +kernel) rfl
theorem msX7_opens : Cond.selects RX7 yX7_opens yX7_opens ∈ sk_ALL := sk_sin 66 (by decide +kernel) rfl
abbrev mX7_one : sk_M := (yX7_one, cX7_one, 4, (some .boolean))
theorem mfX7_one : sk_MF mX7_one 0 := ⟨sk_tin 827 (by decide +kernel) rfl, sk_tin 8 (by decide +kernel) rfl, by decide +kernel, by decide +kernel, by decide +kernel, by decide +kernel, by decide⟩
theorem miX7_one : Cond.instanceMethod yX7_one ∈ sk_ALL := sk_tin 826 (by decide +kernel) rfl
theorem msX7_one : Cond.selects RX7 yX7_one yX7_one ∈ sk_ALL := sk_sin 62 (by decide +kernel) rfl
abbrev mX7_hasText : sk_M := (yX7_hasText, cX7_hasText, 2, (some .boolean))
theorem mfX7_hasText : sk_MF mX7_hasText 1 := ⟨sk_tin 851 (by decide +kernel) rfl, sk_tin 8 (by decide +kernel) rfl, by decide +kernel, by decide +kernel, by decide +kernel, by decide +kernel, by decide⟩
theorem miX7_hasText : Cond.instanceMethod yX7_hasText ∈ sk_ALL := sk_tin 850 (by decide +kernel) rfl
theorem msX7_hasText : Cond.selects RX7 yX7_hasText yX7_hasText ∈ sk_ALL := sk_sin 67 (by decide +kernel) rfl
abbrev mX7_text : sk_M := (yX7_text, cX7_text, 5, (some .int))
theorem mfX7_text : sk_MF mX7_text 1 := ⟨sk_tin 803 (by decide +kernel) rfl, sk_tin 8 (by decide +kernel) rfl, by decide +kernel, by decide +kernel, by decide +kernel, by decide +kernel, by decide⟩
theorem miX7_text : Cond.instanceMethod yX7_text ∈ sk_ALL := sk_tin 801 (by decide +kernel) rfl
theorem msX7_text : Cond.selects RX7 yX7_text yX7_text ∈ sk_ALL := sk_tin 802 (by decide +kernel) rfl
abbrev mX7_untell : sk_M := (yX7_untell, cX7_untell, 3, (some .int))
theorem mfX7_untell : sk_MF mX7_untell 1 := ⟨sk_tin 847 (by decide +kernel) rfl, sk_tin 8 (by decide +kernel) rfl, by decide +kernel, by decide +kernel, by decide +kernel, by decide +kernel, by decide⟩
theorem miX7_untell : Cond.instanceMethod yX7_untell ∈ sk_ALL := sk_tin 845 (by decide +kernel) rfl
theorem msX7_untell : Cond.selects RX7 yX7_untell yX7_untell ∈ sk_ALL := sk_tin 846 (by decide +kernel) rfl
abbrev mX7_joined : sk_M := (yX7_joined, cX7_joined, 3, (some .int))
theorem mfX7_joined : sk_MF mX7_joined 3 := ⟨sk_tin 897 (by decide +kernel) rfl, sk_tin 8 (by decide +kernel) rfl, by decide +kernel, by decide +kernel, by decide +kernel, by decide +kernel, by decide⟩
theorem miX7_joined : Cond.static yX7_joined ∈ sk_ALL := sk_tin 896 (by decide +kernel) rfl
abbrev mX7_worked : sk_M := (yX7_worked, cX7_worked, 7, (some .int))
theorem mfX7_worked : sk_MF mX7_worked 1 := ⟨sk_tin 894 (by decide +kernel) rfl, sk_tin 8 (by decide +kernel) rfl, by decide +kernel, by decide +kernel, by decide +kernel, by decide +kernel, by decide⟩
theorem miX7_worked : Cond.instanceMethod yX7_worked ∈ sk_ALL := sk_tin 893 (by decide +kernel) rfl
theorem msX7_worked : Cond.selects RX7 yX7_worked yX7_worked ∈ sk_ALL := sk_sin 75 (by decide +kernel) rfl
abbrev mX7_broad : sk_M := (yX7_broad, cX7_broad, 3, (some .int))
theorem mfX7_broad : sk_MF mX7_broad 1 := ⟨sk_tin 878 (by decide +kernel) rfl, sk_tin 8 (by decide +kernel) rfl, by decide +kernel, by decide +kernel, by decide +kernel, by decide +kernel, by decide⟩
theorem miX7_broad : Cond.instanceMethod yX7_broad ∈ sk_ALL := sk_tin 877 (by decide +kernel) rfl
theorem msX7_broad : Cond.selects RX7 yX7_broad yX7_broad ∈ sk_ALL := sk_sin 71 (by decide +kernel) rfl
abbrev mX7_holdsOf : sk_M := (yX7_holdsOf, cX7_holdsOf, 5, (some .int))
theorem mfX7_holdsOf : sk_MF mX7_holdsOf 1 := ⟨sk_tin 886 (by decide +kernel) rfl, sk_tin 8 (by decide +kernel) rfl, by decide +kernel, by decide +kernel, by decide +kernel, by decide +kernel, by decide⟩
theorem miX7_holdsOf : Cond.instanceMethod yX7_holdsOf ∈ sk_ALL := sk_tin 885 (by decide +kernel) rfl
theorem msX7_holdsOf : Cond.selects RX7 yX7_holdsOf yX7_holdsOf ∈ sk_ALL := sk_sin 73 (by decide +kernel) rfl
abbrev mX7_holdTold : sk_M := (yX7_holdTold, cX7_holdTold, 4, (some .int))
theorem mfX7_holdTold : sk_MF mX7_holdTold 3 := ⟨sk_tin 890 (by decide +kernel) rfl, sk_tin 8 (by decide +kernel) rfl, by decide +kernel, by decide +kernel, by decide +kernel, by decide +kernel, by decide⟩
theorem miX7_holdTold : Cond.instanceMethod yX7_holdTold ∈ sk_ALL := sk_tin 889 (by decide +kernel) rfl
theorem msX7_holdTold : Cond.selects RX7 yX7_holdTold yX7_holdTold ∈ sk_ALL := sk_sin 74 (by decide +kernel) rfl
abbrev mX7_dropTold : sk_M := (yX7_dropTold, cX7_dropTold, 4, (some .int))
theorem mfX7_dropTold : sk_MF mX7_dropTold 3 := ⟨sk_tin 963 (by decide +kernel) rfl, sk_tin 8 (by decide +kernel) rfl, by decide +kernel, by decide +kernel, by decide +kernel, by decide +kernel, by decide⟩
theorem miX7_dropTold : Cond.instanceMethod yX7_dropTold ∈ sk_ALL := sk_tin 962 (by decide +kernel) rfl
theorem msX7_dropTold : Cond.selects RX7 yX7_dropTold yX7_dropTold ∈ sk_ALL := sk_sin 82 (by decide +kernel) rfl
abbrev mX7_holdOf : sk_M := (yX7_holdOf, cX7_holdOf, 3, (some .int))
theorem mfX7_holdOf : sk_MF mX7_holdOf 2 := ⟨sk_tin 882 (by decide +kernel) rfl, sk_tin 8 (by decide +kernel) rfl, by decide +kernel, by decide +kernel, by decide +kernel, by decide +kernel, by decide⟩
theorem miX7_holdOf : Cond.instanceMethod yX7_holdOf ∈ sk_ALL := sk_tin 881 (by decide +kernel) rfl
theorem msX7_holdOf : Cond.selects RX7 yX7_holdOf yX7_holdOf ∈ sk_ALL := sk_sin 72 (by decide +kernel) rfl
abbrev mX7_ownAt : sk_M := (yX7_ownAt, cX7_ownAt, 7, (some .long))
theorem mfX7_ownAt : sk_MF mX7_ownAt 2 := ⟨sk_tin 927 (by decide +kernel) rfl, sk_tin 8 (by decide +kernel) rfl, by decide +kernel, by decide +kernel, by decide +kernel, by decide +kernel, by decide⟩
theorem miX7_ownAt : Cond.instanceMethod yX7_ownAt ∈ sk_ALL := sk_tin 926 (by decide +kernel) rfl
theorem msX7_ownAt : Cond.selects RX7 yX7_ownAt yX7_ownAt ∈ sk_ALL := sk_sin 78 (by decide +kernel) rfl
abbrev mX7_own : sk_M := (yX7_own, cX7_own, 2, (some .long))
theorem mfX7_own : sk_MF mX7_own 1 := ⟨sk_tin 931 (by decide +kernel) rfl, sk_tin 8 (by decide +kernel) rfl, by decide +kernel, by decide +kernel, by decide +kernel, by decide +kernel, by decide⟩
theorem miX7_own : Cond.instanceMethod yX7_own ∈ sk_ALL := sk_tin 930 (by decide +kernel) rfl
theorem msX7_own : Cond.selects RX7 yX7_own yX7_own ∈ sk_ALL := sk_sin 79 (by decide +kernel) rfl
abbrev mX7_covers : sk_M := (yX7_covers, cX7_covers, 4, (some .long))
theorem mfX7_covers : sk_MF mX7_covers 1 := ⟨sk_tin 939 (by decide +kernel) rfl, sk_tin 8 (by decide +kernel) rfl, by decide +kernel, by decide +kernel, by decide +kernel, by decide +kernel, by decide⟩
theorem miX7_covers : Cond.instanceMethod yX7_covers ∈ sk_ALL := sk_tin 938 (by decide +kernel) rfl
theorem msX7_covers : Cond.selects RX7 yX7_covers yX7_covers ∈ sk_ALL := sk_sin 81 (by decide +kernel) rfl
abbrev mX7_drySet : sk_M := (yX7_drySet, cX7_drySet, 4, (some .long))
theorem mfX7_drySet : sk_MF mX7_drySet 0 := ⟨sk_tin 935 (by decide +kernel) rfl, sk_tin 8 (by decide +kernel) rfl, by decide +kernel, by decide +kernel, by decide +kernel, by decide +kernel, by decide⟩
theorem miX7_drySet : Cond.instanceMethod yX7_drySet ∈ sk_ALL := sk_tin 934 (by decide +kernel) rfl
theorem msX7_drySet : Cond.selects RX7 yX7_drySet yX7_drySet ∈ sk_ALL := sk_sin 80 (by decide +kernel) rfl
abbrev mX7_bitsOf : sk_M := (yX7_bitsOf, cX7_bitsOf, 5, (some .int))
theorem mfX7_bitsOf : sk_MF mX7_bitsOf 1 := ⟨sk_tin 943 (by decide +kernel) rfl, sk_tin 8 (by decide +kernel) rfl, by decide +kernel, by decide +kernel, by decide +kernel, by decide +kernel, by decide⟩
theorem miX7_bitsOf : Cond.static yX7_bitsOf ∈ sk_ALL := sk_tin 942 (by decide +kernel) rfl
abbrev mX7_mayLie : sk_M := (yX7_mayLie, cX7_mayLie, 9, (some .boolean))
theorem mfX7_mayLie : sk_MF mX7_mayLie 2 := ⟨sk_tin 923 (by decide +kernel) rfl, sk_tin 8 (by decide +kernel) rfl, by decide +kernel, by decide +kernel, by decide +kernel, by decide +kernel, by decide⟩
theorem miX7_mayLie : Cond.instanceMethod yX7_mayLie ∈ sk_ALL := sk_tin 922 (by decide +kernel) rfl
theorem msX7_mayLie : Cond.selects RX7 yX7_mayLie yX7_mayLie ∈ sk_ALL := sk_sin 77 (by decide +kernel) rfl
abbrev mX7_findHolds : sk_M := (yX7_findHolds, cX7_findHolds, 3, none)
theorem mfX7_findHolds : sk_MF mX7_findHolds 1 := ⟨sk_tin 978 (by decide +kernel) rfl, sk_tin 8 (by decide +kernel) rfl, by decide +kernel, by decide +kernel, by decide +kernel, by decide +kernel, by decide⟩
theorem miX7_findHolds : Cond.instanceMethod yX7_findHolds ∈ sk_ALL := sk_tin 977 (by decide +kernel) rfl
theorem msX7_findHolds : Cond.selects RX7 yX7_findHolds yX7_findHolds ∈ sk_ALL := sk_sin 84 (by decide +kernel) rfl
abbrev mX7_liftedBy : sk_M := (yX7_liftedBy, cX7_liftedBy, 10, (some .int))
theorem mfX7_liftedBy : sk_MF mX7_liftedBy 2 := ⟨sk_tin 982 (by decide +kernel) rfl, sk_tin 8 (by decide +kernel) rfl, by decide +kernel, by decide +kernel, by decide +kernel, by decide +kernel, by decide⟩
theorem miX7_liftedBy : Cond.instanceMethod yX7_liftedBy ∈ sk_ALL := sk_tin 981 (by decide +kernel) rfl
theorem msX7_liftedBy : Cond.selects RX7 yX7_liftedBy yX7_liftedBy ∈ sk_ALL := sk_sin 85 (by decide +kernel) rfl
abbrev mX7_galeNow : sk_M := (yX7_galeNow, cX7_galeNow, 4, (some .int))
theorem mfX7_galeNow : sk_MF mX7_galeNow 1 := ⟨sk_tin 974 (by decide +kernel) rfl, sk_tin 8 (by decide +kernel) rfl, by decide +kernel, by decide +kernel, by decide +kernel, by decide +kernel, by decide⟩
theorem miX7_galeNow : Cond.instanceMethod yX7_galeNow ∈ sk_ALL := sk_tin 973 (by decide +kernel) rfl
theorem msX7_galeNow : Cond.selects RX7 yX7_galeNow yX7_galeNow ∈ sk_ALL := sk_sin 83 (by decide +kernel) rfl
abbrev mX7_dryBehind : sk_M := (yX7_dryBehind, cX7_dryBehind, 6, (some .long))
theorem mfX7_dryBehind : sk_MF mX7_dryBehind 1 := ⟨sk_tin 1028 (by decide +kernel) rfl, sk_tin 8 (by decide +kernel) rfl, by decide +kernel, by decide +kernel, by decide +kernel, by decide +kernel, by decide⟩
theorem miX7_dryBehind : Cond.instanceMethod yX7_dryBehind ∈ sk_ALL := sk_tin 1027 (by decide +kernel) rfl
theorem msX7_dryBehind : Cond.selects RX7 yX7_dryBehind yX7_dryBehind ∈ sk_ALL := sk_sin 90 (by decide +kernel) rfl
abbrev mX7_aYear : sk_M := (yX7_aYear, cX7_aYear, 5, none)
theorem mfX7_aYear : sk_MF mX7_aYear 0 := ⟨sk_tin 994 (by decide +kernel) rfl, sk_tin 8 (by decide +kernel) rfl, by decide +kernel, by decide +kernel, by decide +kernel, by decide +kernel, by decide⟩
theorem miX7_aYear : Cond.instanceMethod yX7_aYear ∈ sk_ALL := sk_tin 993 (by decide +kernel) rfl
theorem msX7_aYear : Cond.selects RX7 yX7_aYear yX7_aYear ∈ sk_ALL := sk_sin 87 (by decide +kernel) rfl
abbrev mX7_draw : sk_M := (yX7_draw, cX7_draw, 1, (some .int))
theorem mfX7_draw : sk_MF mX7_draw 0 := ⟨sk_tin 1003 (by decide +kernel) rfl, sk_tin 8 (by decide +kernel) rfl, by decide +kernel, by decide +kernel, by decide +kernel, by decide +kernel, by decide⟩
theorem miX7_draw : Cond.instanceMethod yX7_draw ∈ sk_ALL := sk_tin 1002 (by decide +kernel) rfl
theorem msX7_draw : Cond.selects RX7 yX7_draw yX7_draw ∈ sk_ALL := sk_sin 88 (by decide +kernel) rfl
abbrev mX7_isKind : sk_M := (yX7_isKind, cX7_isKind, 1, (some .boolean))
theorem mfX7_isKind : sk_MF mX7_isKind 1 := ⟨sk_tin 858 (by decide +kernel) rfl, sk_tin 8 (by decide +kernel) rfl, by decide +kernel, by decide +kernel, by decide +kernel, by decide +kernel, by decide⟩
theorem miX7_isKind : Cond.static yX7_isKind ∈ sk_ALL := sk_tin 857 (by decide +kernel) rfl
abbrev mX7_slate : sk_M := (yX7_slate, cX7_slate, 6, (some .int))
theorem mfX7_slate : sk_MF mX7_slate 4 := ⟨sk_tin 855 (by decide +kernel) rfl, sk_tin 8 (by decide +kernel) rfl, by decide +kernel, by decide +kernel, by decide +kernel, by decide +kernel, by decide⟩
theorem miX7_slate : Cond.instanceMethod yX7_slate ∈ sk_ALL := sk_tin 853 (by decide +kernel) rfl
theorem msX7_slate : Cond.selects RX7 yX7_slate yX7_slate ∈ sk_ALL := sk_tin 854 (by decide +kernel) rfl
abbrev mX7_slateIs : sk_M := (yX7_slateIs, cX7_slateIs, 4, (some .int))
theorem mfX7_slateIs : sk_MF mX7_slateIs 2 := ⟨sk_tin 870 (by decide +kernel) rfl, sk_tin 8 (by decide +kernel) rfl, by decide +kernel, by decide +kernel, by decide +kernel, by decide +kernel, by decide⟩
theorem miX7_slateIs : Cond.instanceMethod yX7_slateIs ∈ sk_ALL := sk_tin 868 (by decide +kernel) rfl
theorem msX7_slateIs : Cond.selects RX7 yX7_slateIs yX7_slateIs ∈ sk_ALL := sk_tin 869 (by decide +kernel) rfl
abbrev mX7_become : sk_M := (yX7_become, cX7_become, 3, (some .int))
theorem mfX7_become : sk_MF mX7_become 2 := ⟨sk_tin 904 (by decide +kernel) rfl, sk_tin 8 (by decide +kernel) rfl, by decide +kernel, by decide +kernel, by decide +kernel, by decide +kernel, by decide⟩
theorem miX7_become : Cond.instanceMethod yX7_become ∈ sk_ALL := sk_tin 902 (by decide +kernel) rfl
theorem msX7_become : Cond.selects RX7 yX7_become yX7_become ∈ sk_ALL := sk_tin 903 (by decide +kernel) rfl
abbrev mX7_as : sk_M := (yX7_as, cX7_as, 4, (some .int))
theorem mfX7_as : sk_MF mX7_as 2 := ⟨sk_tin 912 (by decide +kernel) rfl, sk_tin 8 (by decide +kernel) rfl, by decide +kernel, by decide +kernel, by decide +kernel, by decide +kernel, by decide⟩
theorem miX7_as : Cond.instanceMethod yX7_as ∈ sk_ALL := sk_tin 910 (by decide +kernel) rfl
theorem msX7_as : Cond.selects RX7 yX7_as yX7_as ∈ sk_ALL := sk_tin 911 (by decide +kernel) rfl
abbrev mX7_lay : sk_M := (yX7_lay, cX7_lay, 5, (some .int))
theorem mfX7_lay : sk_MF mX7_lay 3 := ⟨sk_tin 919 (by decide +kernel) rfl, sk_tin 8 (by decide +kernel) rfl, by decide +kernel, by decide +kernel, by decide +kernel, by decide +kernel, by decide⟩
theorem miX7_lay : Cond.instanceMethod yX7_lay ∈ sk_ALL := sk_tin 917 (by decide +kernel) rfl
theorem msX7_lay : Cond.selects RX7 yX7_lay yX7_lay ∈ sk_ALL := sk_tin 918 (by decide +kernel) rfl
abbrev mX7_lift : sk_M := (yX7_lift, cX7_lift, 2, (some .int))
theorem mfX7_lift : sk_MF mX7_lift 1 := ⟨sk_tin 947 (by decide +kernel) rfl, sk_tin 8 (by decide +kernel) rfl, by decide +kernel, by decide +kernel, by decide +kernel, by decide +kernel, by decide⟩
theorem miX7_lift : Cond.instanceMethod yX7_lift ∈ sk_ALL := sk_tin 945 (by decide +kernel) rfl
theorem msX7_lift : Cond.selects RX7 yX7_lift yX7_lift ∈ sk_ALL := sk_tin 946 (by decide +kernel) rfl
abbrev mX7_nail : sk_M := (yX7_nail, cX7_nail, 3, (some .int))
theorem mfX7_nail : sk_MF mX7_nail 2 := ⟨sk_tin 951 (by decide +kernel) rfl, sk_tin 8 (by decide +kernel) rfl, by decide +kernel, by decide +kernel, by decide +kernel, by decide +kernel, by decide⟩
theorem miX7_nail : Cond.instanceMethod yX7_nail ∈ sk_ALL := sk_tin 949 (by decide +kernel) rfl
theorem msX7_nail : Cond.selects RX7 yX7_nail yX7_nail ∈ sk_ALL := sk_tin 950 (by decide +kernel) rfl
abbrev mX7_sells : sk_M := (yX7_sells, cX7_sells, 2, (some .int))
theorem mfX7_sells : sk_MF mX7_sells 1 := ⟨sk_tin 955 (by decide +kernel) rfl, sk_tin 8 (by decide +kernel) rfl, by decide +kernel, by decide +kernel, by decide +kernel, by decide +kernel, by decide⟩
theorem miX7_sells : Cond.instanceMethod yX7_sells ∈ sk_ALL := sk_tin 953 (by decide +kernel) rfl
theorem msX7_sells : Cond.selects RX7 yX7_sells yX7_sells ∈ sk_ALL := sk_tin 954 (by decide +kernel) rfl
abbrev mX7_law : sk_M := (yX7_law, cX7_law, 5, (some .int))
theorem mfX7_law : sk_MF mX7_law 4 := ⟨sk_tin 959 (by decide +kernel) rfl, sk_tin 8 (by decide +kernel) rfl, by decide +kernel, by decide +kernel, by decide +kernel, by decide +kernel, by decide⟩
theorem miX7_law : Cond.instanceMethod yX7_law ∈ sk_ALL := sk_tin 957 (by decide +kernel) rfl
theorem msX7_law : Cond.selects RX7 yX7_law yX7_law ∈ sk_ALL := sk_tin 958 (by decide +kernel) rfl
abbrev mX7_isGale : sk_M := (yX7_isGale, cX7_isGale, 1, (some .boolean))
theorem mfX7_isGale : sk_MF mX7_isGale 1 := ⟨sk_tin 970 (by decide +kernel) rfl, sk_tin 8 (by decide +kernel) rfl, by decide +kernel, by decide +kernel, by decide +kernel, by decide +kernel, by decide⟩
theorem miX7_isGale : Cond.static yX7_isGale ∈ sk_ALL := sk_tin 969 (by decide +kernel) rfl
abbrev mX7_gale : sk_M := (yX7_gale, cX7_gale, 2, (some .int))
theorem mfX7_gale : sk_MF mX7_gale 1 := ⟨sk_tin 967 (by decide +kernel) rfl, sk_tin 8 (by decide +kernel) rfl, by decide +kernel, by decide +kernel, by decide +kernel, by decide +kernel, by decide⟩
theorem miX7_gale : Cond.instanceMethod yX7_gale ∈ sk_ALL := sk_tin 965 (by decide +kernel) rfl
theorem msX7_gale : Cond.selects RX7 yX7_gale yX7_gale ∈ sk_ALL := sk_tin 966 (by decide +kernel) rfl
abbrev mX7_whyNot : sk_M := (yX7_whyNot, cX7_whyNot, 3, (some .int))
theorem mfX7_whyNot : sk_MF mX7_whyNot 2 := ⟨sk_tin 990 (by decide +kernel) rfl, sk_tin 8 (by decide +kernel) rfl, by decide +kernel, by decide +kernel, by decide +kernel, by decide +kernel, by decide⟩
theorem miX7_whyNot : Cond.instanceMethod yX7_whyNot ∈ sk_ALL := sk_tin 989 (by decide +kernel) rfl
theorem msX7_whyNot : Cond.selects RX7 yX7_whyNot yX7_whyNot ∈ sk_ALL := sk_sin 86 (by decide +kernel) rfl
abbrev mX7_years : sk_M := (yX7_years, cX7_years, 4, (some .int))
theorem mfX7_years : sk_MF mX7_years 1 := ⟨sk_tin 986 (by decide +kernel) rfl, sk_tin 8 (by decide +kernel) rfl, by decide +kernel, by decide +kernel, by decide +kernel, by decide +kernel, by decide⟩
theorem miX7_years : Cond.instanceMethod yX7_years ∈ sk_ALL := sk_tin 984 (by decide +kernel) rfl
theorem msX7_years : Cond.selects RX7 yX7_years yX7_years ∈ sk_ALL := sk_tin 985 (by decide +kernel) rfl
abbrev mX7_loose : sk_M := (yX7_loose, cX7_loose, 7, (some .int))
theorem mfX7_loose : sk_MF mX7_loose 1 := ⟨sk_tin 999 (by decide +kernel) rfl, sk_tin 8 (by decide +kernel) rfl, by decide +kernel, by decide +kernel, by decide +kernel, by decide +kernel, by decide⟩
theorem miX7_loose : Cond.instanceMethod yX7_loose ∈ sk_ALL := sk_tin 997 (by decide +kernel) rfl
theorem msX7_loose : Cond.selects RX7 yX7_loose yX7_loose ∈ sk_ALL := sk_tin 998 (by decide +kernel) rfl
abbrev mX7_seed : sk_M := (yX7_seed, cX7_seed, 2, (some .int))
theorem mfX7_seed : sk_MF mX7_seed 1 := ⟨sk_tin 1008 (by decide +kernel) rfl, sk_tin 8 (by decide +kernel) rfl, by decide +kernel, by decide +kernel, by decide +kernel, by decide +kernel, by decide⟩
theorem miX7_seed : Cond.instanceMethod yX7_seed ∈ sk_ALL := sk_tin 1006 (by decide +kernel) rfl
theorem msX7_seed : Cond.selects RX7 yX7_seed yX7_seed ∈ sk_ALL := sk_tin 1007 (by decide +kernel) rfl
abbrev mX7_dry : sk_M := (yX7_dry, cX7_dry, 5, (some .long))
theorem mfX7_dry : sk_MF mX7_dry 1 := ⟨sk_tin 1012 (by decide +kernel) rfl, sk_tin 8 (by decide +kernel) rfl, by decide +kernel, by decide +kernel, by decide +kernel, by decide +kernel, by decide⟩
theorem miX7_dry : Cond.instanceMethod yX7_dry ∈ sk_ALL := sk_tin 1010 (by decide +kernel) rfl
theorem msX7_dry : Cond.selects RX7 yX7_dry yX7_dry ∈ sk_ALL := sk_tin 1011 (by decide +kernel) rfl
abbrev mX7_coveredBy : sk_M := (yX7_coveredBy, cX7_coveredBy, 7, (some .int))
theorem mfX7_coveredBy : sk_MF mX7_coveredBy 2 := ⟨sk_tin 1020 (by decide +kernel) rfl, sk_tin 8 (by decide +kernel) rfl, by decide +kernel, by decide +kernel, by decide +kernel, by decide +kernel, by decide⟩
theorem miX7_coveredBy : Cond.instanceMethod yX7_coveredBy ∈ sk_ALL := sk_tin 1019 (by decide +kernel) rfl
theorem msX7_coveredBy : Cond.selects RX7 yX7_coveredBy yX7_coveredBy ∈ sk_ALL := sk_sin 89 (by decide +kernel) rfl
abbrev mX7_over : sk_M := (yX7_over, cX7_over, 7, (some .int))
theorem mfX7_over : sk_MF mX7_over 2 := ⟨sk_tin 1016 (by decide +kernel) rfl, sk_tin 8 (by decide +kernel) rfl, by decide +kernel, by decide +kernel, by decide +kernel, by decide +kernel, by decide⟩
theorem miX7_over : Cond.instanceMethod yX7_over ∈ sk_ALL := sk_tin 1014 (by decide +kernel) rfl
theorem msX7_over : Cond.selects RX7 yX7_over yX7_over ∈ sk_ALL := sk_tin 1015 (by decide +kernel) rfl
abbrev mX7_lifts : sk_M := (yX7_lifts, cX7_lifts, 3, (some .int))
theorem mfX7_lifts : sk_MF mX7_lifts 2 := ⟨sk_tin 1024 (by decide +kernel) rfl, sk_tin 8 (by decide +kernel) rfl, by decide +kernel, by decide +kernel, by decide +kernel, by decide +kernel, by decide⟩
theorem miX7_lifts : Cond.instanceMethod yX7_lifts ∈ sk_ALL := sk_tin 1022 (by decide +kernel) rfl
theorem msX7_lifts : Cond.selects RX7 yX7_lifts yX7_lifts ∈ sk_ALL := sk_tin 1023 (by decide +kernel) rfl
abbrev mX7_fast : sk_M := (yX7_fast, cX7_fast, 6, (some .int))
theorem mfX7_fast : sk_MF mX7_fast 2 := ⟨sk_tin 1032 (by decide +kernel) rfl, sk_tin 8 (by decide +kernel) rfl, by decide +kernel, by decide +kernel, by decide +kernel, by decide +kernel, by decide⟩
theorem miX7_fast : Cond.instanceMethod yX7_fast ∈ sk_ALL := sk_tin 1030 (by decide +kernel) rfl
theorem msX7_fast : Cond.selects RX7 yX7_fast yX7_fast ∈ sk_ALL := sk_tin 1031 (by decide +kernel) rfl
abbrev mX7_best : sk_M := (yX7_best, cX7_best, 8, (some .int))
theorem mfX7_best : sk_MF mX7_best 2 := ⟨sk_tin 1036 (by decide +kernel) rfl, sk_tin 8 (by decide +kernel) rfl, by decide +kernel, by decide +kernel, by decide +kernel, by decide +kernel, by decide⟩
theorem miX7_best : Cond.instanceMethod yX7_best ∈ sk_ALL := sk_tin 1034 (by decide +kernel) rfl
theorem msX7_best : Cond.selects RX7 yX7_best yX7_best ∈ sk_ALL := sk_tin 1035 (by decide +kernel) rfl
abbrev mX7_isBeside : sk_M := (yX7_isBeside, cX7_isBeside, 5, (some .boolean))
theorem mfX7_isBeside : sk_MF mX7_isBeside 2 := ⟨sk_tin 1044 (by decide +kernel) rfl, sk_tin 8 (by decide +kernel) rfl, by decide +kernel, by decide +kernel, by decide +kernel, by decide +kernel, by decide⟩
theorem miX7_isBeside : Cond.instanceMethod yX7_isBeside ∈ sk_ALL := sk_tin 1043 (by decide +kernel) rfl
theorem msX7_isBeside : Cond.selects RX7 yX7_isBeside yX7_isBeside ∈ sk_ALL := sk_sin 91 (by decide +kernel) rfl
abbrev mX7_rings : sk_M := (yX7_rings, cX7_rings, 5, (some .int))
theorem mfX7_rings : sk_MF mX7_rings 0 := ⟨sk_tin 1040 (by decide +kernel) rfl, sk_tin 8 (by decide +kernel) rfl, by decide +kernel, by decide +kernel, by decide +kernel, by decide +kernel, by decide⟩
theorem miX7_rings : Cond.instanceMethod yX7_rings ∈ sk_ALL := sk_tin 1038 (by decide +kernel) rfl
theorem msX7_rings : Cond.selects RX7 yX7_rings yX7_rings ∈ sk_ALL := sk_tin 1039 (by decide +kernel) rfl
abbrev mX7_divisor : sk_M := (yX7_divisor, cX7_divisor, 5, (some .int))
theorem mfX7_divisor : sk_MF mX7_divisor 2 := ⟨sk_tin 1051 (by decide +kernel) rfl, sk_tin 8 (by decide +kernel) rfl, by decide +kernel, by decide +kernel, by decide +kernel, by decide +kernel, by decide⟩
theorem miX7_divisor : Cond.static yX7_divisor ∈ sk_ALL := sk_tin 1050 (by decide +kernel) rfl
abbrev mX7_odds : sk_M := (yX7_odds, cX7_odds, 5, (some .int))
theorem mfX7_odds : sk_MF mX7_odds 2 := ⟨sk_tin 1048 (by decide +kernel) rfl, sk_tin 8 (by decide +kernel) rfl, by decide +kernel, by decide +kernel, by decide +kernel, by decide +kernel, by decide⟩
theorem miX7_odds : Cond.instanceMethod yX7_odds ∈ sk_ALL := sk_tin 1046 (by decide +kernel) rfl
theorem msX7_odds : Cond.selects RX7 yX7_odds yX7_odds ∈ sk_ALL := sk_tin 1047 (by decide +kernel) rfl
abbrev mX7_fits : sk_M := (yX7_fits, cX7_fits, 11, (some .int))
theorem mfX7_fits : sk_MF mX7_fits 2 := ⟨sk_tin 1055 (by decide +kernel) rfl, sk_tin 8 (by decide +kernel) rfl, by decide +kernel, by decide +kernel, by decide +kernel, by decide +kernel, by decide⟩
theorem miX7_fits : Cond.instanceMethod yX7_fits ∈ sk_ALL := sk_tin 1053 (by decide +kernel) rfl
theorem msX7_fits : Cond.selects RX7 yX7_fits yX7_fits ∈ sk_ALL := sk_tin 1054 (by decide +kernel) rfl
abbrev mX7_starts : sk_M := (yX7_starts, cX7_starts, 2, none)
theorem mfX7_starts : sk_MF mX7_starts 1 := ⟨sk_tin 1078 (by decide +kernel) rfl, sk_tin 8 (by decide +kernel) rfl, by decide +kernel, by decide +kernel, by decide +kernel, by decide +kernel, by decide⟩
theorem miX7_starts : Cond.instanceMethod yX7_starts ∈ sk_ALL := sk_tin 1077 (by decide +kernel) rfl
theorem msX7_starts : Cond.selects RX7 yX7_starts yX7_starts ∈ sk_ALL := sk_sin 95 (by decide +kernel) rfl
abbrev mX7_above : sk_M := (yX7_above, cX7_above, 1, (some .int))
theorem mfX7_above : sk_MF mX7_above 1 := ⟨sk_tin 915 (by decide +kernel) rfl, sk_tin 8 (by decide +kernel) rfl, by decide +kernel, by decide +kernel, by decide +kernel, by decide +kernel, by decide⟩
theorem miX7_above : Cond.static yX7_above ∈ sk_ALL := sk_tin 914 (by decide +kernel) rfl
abbrev mX7_kindNow : sk_M := (yX7_kindNow, cX7_kindNow, 1, (some .int))
theorem mfX7_kindNow : sk_MF mX7_kindNow 0 := ⟨sk_tin 1070 (by decide +kernel) rfl, sk_tin 8 (by decide +kernel) rfl, by decide +kernel, by decide +kernel, by decide +kernel, by decide +kernel, by decide⟩
theorem miX7_kindNow : Cond.instanceMethod yX7_kindNow ∈ sk_ALL := sk_tin 1069 (by decide +kernel) rfl
theorem msX7_kindNow : Cond.selects RX7 yX7_kindNow yX7_kindNow ∈ sk_ALL := sk_sin 93 (by decide +kernel) rfl
abbrev mX7_mNow : sk_M := (yX7_mNow, cX7_mNow, 1, (some .int))
theorem mfX7_mNow : sk_MF mX7_mNow 0 := ⟨sk_tin 1086 (by decide +kernel) rfl, sk_tin 8 (by decide +kernel) rfl, by decide +kernel, by decide +kernel, by decide +kernel, by decide +kernel, by decide⟩
theorem miX7_mNow : Cond.instanceMethod yX7_mNow ∈ sk_ALL := sk_tin 1085 (by decide +kernel) rfl
theorem msX7_mNow : Cond.selects RX7 yX7_mNow yX7_mNow ∈ sk_ALL := sk_sin 97 (by decide +kernel) rfl
abbrev mX7_dripsAs : sk_M := (yX7_dripsAs, cX7_dripsAs, 3, (some .int))
theorem mfX7_dripsAs : sk_MF mX7_dripsAs 2 := ⟨sk_tin 1074 (by decide +kernel) rfl, sk_tin 8 (by decide +kernel) rfl, by decide +kernel, by decide +kernel, by decide +kernel, by decide +kernel, by decide⟩
theorem miX7_dripsAs : Cond.instanceMethod yX7_dripsAs ∈ sk_ALL := sk_tin 1073 (by decide +kernel) rfl
theorem msX7_dripsAs : Cond.selects RX7 yX7_dripsAs yX7_dripsAs ∈ sk_ALL := sk_sin 94 (by decide +kernel) rfl
abbrev mX7_ringsAs : sk_M := (yX7_ringsAs, cX7_ringsAs, 3, (some .int))
theorem mfX7_ringsAs : sk_MF mX7_ringsAs 2 := ⟨sk_tin 1082 (by decide +kernel) rfl, sk_tin 8 (by decide +kernel) rfl, by decide +kernel, by decide +kernel, by decide +kernel, by decide +kernel, by decide⟩
theorem miX7_ringsAs : Cond.instanceMethod yX7_ringsAs ∈ sk_ALL := sk_tin 1081 (by decide +kernel) rfl
theorem msX7_ringsAs : Cond.selects RX7 yX7_ringsAs yX7_ringsAs ∈ sk_ALL := sk_sin 96 (by decide +kernel) rfl
abbrev mX7_creaksAs : sk_M := (yX7_creaksAs, cX7_creaksAs, 3, (some .int))
theorem mfX7_creaksAs : sk_MF mX7_creaksAs 2 := ⟨sk_tin 1090 (by decide +kernel) rfl, sk_tin 8 (by decide +kernel) rfl, by decide +kernel, by decide +kernel, by decide +kernel, by decide +kernel, by decide⟩
theorem miX7_creaksAs : Cond.instanceMethod yX7_creaksAs ∈ sk_ALL := sk_tin 1089 (by decide +kernel) rfl
theorem msX7_creaksAs : Cond.selects RX7 yX7_creaksAs yX7_creaksAs ∈ sk_ALL := sk_sin 98 (by decide +kernel) rfl
abbrev mX7_partsAs : sk_M := (yX7_partsAs, cX7_partsAs, 5, (some .int))
theorem mfX7_partsAs : sk_MF mX7_partsAs 2 := ⟨sk_tin 1094 (by decide +kernel) rfl, sk_tin 8 (by decide +kernel) rfl, by decide +kernel, by decide +kernel, by decide +kernel, by decide +kernel, by decide⟩
theorem miX7_partsAs : Cond.instanceMethod yX7_partsAs ∈ sk_ALL := sk_tin 1093 (by decide +kernel) rfl
theorem msX7_partsAs : Cond.selects RX7 yX7_partsAs yX7_partsAs ∈ sk_ALL := sk_sin 99 (by decide +kernel) rfl
abbrev mX7_voice : sk_M := (yX7_voice, cX7_voice, 6, (some .int))
theorem mfX7_voice : sk_MF mX7_voice 3 := ⟨sk_tin 1066 (by decide +kernel) rfl, sk_tin 8 (by decide +kernel) rfl, by decide +kernel, by decide +kernel, by decide +kernel, by decide +kernel, by decide⟩
theorem miX7_voice : Cond.instanceMethod yX7_voice ∈ sk_ALL := sk_tin 1064 (by decide +kernel) rfl
theorem msX7_voice : Cond.selects RX7 yX7_voice yX7_voice ∈ sk_ALL := sk_tin 1065 (by decide +kernel) rfl
abbrev mX7_body : sk_M := (yX7_body, cX7_body, 2, (some .int))
theorem mfX7_body : sk_MF mX7_body 1 := ⟨sk_tin 1098 (by decide +kernel) rfl, sk_tin 8 (by decide +kernel) rfl, by decide +kernel, by decide +kernel, by decide +kernel, by decide +kernel, by decide⟩
theorem miX7_body : Cond.instanceMethod yX7_body ∈ sk_ALL := sk_tin 1096 (by decide +kernel) rfl
theorem msX7_body : Cond.selects RX7 yX7_body yX7_body ∈ sk_ALL := sk_tin 1097 (by decide +kernel) rfl
abbrev mX7_isSheet : sk_M := (yX7_isSheet, cX7_isSheet, 1, (some .boolean))
theorem mfX7_isSheet : sk_MF mX7_isSheet 1 := ⟨sk_tin 1062 (by decide +kernel) rfl, sk_tin 8 (by decide +kernel) rfl, by decide +kernel, by decide +kernel, by decide +kernel, by decide +kernel, by decide⟩
theorem miX7_isSheet : Cond.static yX7_isSheet ∈ sk_ALL := sk_tin 1061 (by decide +kernel) rfl
abbrev mX7_sheet : sk_M := (yX7_sheet, cX7_sheet, 5, (some .int))
theorem mfX7_sheet : sk_MF mX7_sheet 3 := ⟨sk_tin 1102 (by decide +kernel) rfl, sk_tin 8 (by decide +kernel) rfl, by decide +kernel, by decide +kernel, by decide +kernel, by decide +kernel, by decide⟩
theorem miX7_sheet : Cond.instanceMethod yX7_sheet ∈ sk_ALL := sk_tin 1100 (by decide +kernel) rfl
theorem msX7_sheet : Cond.selects RX7 yX7_sheet yX7_sheet ∈ sk_ALL := sk_tin 1101 (by decide +kernel) rfl
abbrev mX7_put : sk_M := (yX7_put, cX7_put, 5, (some .int))
theorem mfX7_put : sk_MF mX7_put 3 := ⟨sk_tin 1106 (by decide +kernel) rfl, sk_tin 8 (by decide +kernel) rfl, by decide +kernel, by decide +kernel, by decide +kernel, by decide +kernel, by decide⟩
theorem miX7_put : Cond.instanceMethod yX7_put ∈ sk_ALL := sk_tin 1104 (by decide +kernel) rfl
theorem msX7_put : Cond.selects RX7 yX7_put yX7_put ∈ sk_ALL := sk_tin 1105 (by decide +kernel) rfl
abbrev mX7_move : sk_M := (yX7_move, cX7_move, 7, (some .int))
theorem mfX7_move : sk_MF mX7_move 5 := ⟨sk_tin 1110 (by decide +kernel) rfl, sk_tin 8 (by decide +kernel) rfl, by decide +kernel, by decide +kernel, by decide +kernel, by decide +kernel, by decide⟩
theorem miX7_move : Cond.instanceMethod yX7_move ∈ sk_ALL := sk_tin 1108 (by decide +kernel) rfl
theorem msX7_move : Cond.selects RX7 yX7_move yX7_move ∈ sk_ALL := sk_tin 1109 (by decide +kernel) rfl
abbrev mX7_lacks : sk_M := (yX7_lacks, cX7_lacks, 2, (some .int))
theorem mfX7_lacks : sk_MF mX7_lacks 1 := ⟨sk_tin 1059 (by decide +kernel) rfl, sk_tin 8 (by decide +kernel) rfl, by decide +kernel, by decide +kernel, by decide +kernel, by decide +kernel, by decide⟩
theorem miX7_lacks : Cond.instanceMethod yX7_lacks ∈ sk_ALL := sk_tin 1058 (by decide +kernel) rfl
theorem msX7_lacks : Cond.selects RX7 yX7_lacks yX7_lacks ∈ sk_ALL := sk_sin 92 (by decide +kernel) rfl
abbrev mX7_nailed : sk_M := (yX7_nailed, cX7_nailed, 4, (some .int))
theorem mfX7_nailed : sk_MF mX7_nailed 1 := ⟨sk_tin 1114 (by decide +kernel) rfl, sk_tin 8 (by decide +kernel) rfl, by decide +kernel, by decide +kernel, by decide +kernel, by decide +kernel, by decide⟩
theorem miX7_nailed : Cond.instanceMethod yX7_nailed ∈ sk_ALL := sk_tin 1112 (by decide +kernel) rfl
theorem msX7_nailed : Cond.selects RX7 yX7_nailed yX7_nailed ∈ sk_ALL := sk_tin 1113 (by decide +kernel) rfl
abbrev mX7_judge : sk_M := (yX7_judge, cX7_judge, 4, (some .int))
theorem mfX7_judge : sk_MF mX7_judge 1 := ⟨sk_tin 1118 (by decide +kernel) rfl, sk_tin 8 (by decide +kernel) rfl, by decide +kernel, by decide +kernel, by decide +kernel, by decide +kernel, by decide⟩
theorem miX7_judge : Cond.instanceMethod yX7_judge ∈ sk_ALL := sk_tin 1116 (by decide +kernel) rfl
theorem msX7_judge : Cond.selects RX7 yX7_judge yX7_judge ∈ sk_ALL := sk_tin 1117 (by decide +kernel) rfl
abbrev mX7_image : sk_M := (yX7_image, cX7_image, 1, (some .int))
theorem mfX7_image : sk_MF mX7_image 0 := ⟨sk_tin 1122 (by decide +kernel) rfl, sk_tin 8 (by decide +kernel) rfl, by decide +kernel, by decide +kernel, by decide +kernel, by decide +kernel, by decide⟩
theorem miX7_image : Cond.instanceMethod yX7_image ∈ sk_ALL := sk_tin 1120 (by decide +kernel) rfl
theorem msX7_image : Cond.selects RX7 yX7_image yX7_image ∈ sk_ALL := sk_tin 1121 (by decide +kernel) rfl
abbrev mX7_restore : sk_M := (yX7_restore, cX7_restore, 1, (some .int))
theorem mfX7_restore : sk_MF mX7_restore 0 := ⟨sk_tin 1129 (by decide +kernel) rfl, sk_tin 8 (by decide +kernel) rfl, by decide +kernel, by decide +kernel, by decide +kernel, by decide +kernel, by decide⟩
theorem miX7_restore : Cond.instanceMethod yX7_restore ∈ sk_ALL := sk_tin 1127 (by decide +kernel) rfl
theorem msX7_restore : Cond.selects RX7 yX7_restore yX7_restore ∈ sk_ALL := sk_tin 1128 (by decide +kernel) rfl
abbrev mX7_tell : sk_M := (yX7_tell, cX7_tell, 2, (some .int))
theorem mfX7_tell : sk_MF mX7_tell 1 := ⟨sk_tin 1133 (by decide +kernel) rfl, sk_tin 8 (by decide +kernel) rfl, by decide +kernel, by decide +kernel, by decide +kernel, by decide +kernel, by decide⟩
theorem miX7_tell : Cond.instanceMethod yX7_tell ∈ sk_ALL := sk_tin 1131 (by decide +kernel) rfl
theorem msX7_tell : Cond.selects RX7 yX7_tell yX7_tell ∈ sk_ALL := sk_tin 1132 (by decide +kernel) rfl
abbrev mX7_check : sk_M := (yX7_check, cX7_check, 3, (some .int))
theorem mfX7_check : sk_MF mX7_check 0 := ⟨sk_tin 1137 (by decide +kernel) rfl, sk_tin 8 (by decide +kernel) rfl, by decide +kernel, by decide +kernel, by decide +kernel, by decide +kernel, by decide⟩
theorem miX7_check : Cond.instanceMethod yX7_check ∈ sk_ALL := sk_tin 1135 (by decide +kernel) rfl
theorem msX7_check : Cond.selects RX7 yX7_check yX7_check ∈ sk_ALL := sk_tin 1136 (by decide +kernel) rfl
abbrev mX7_count : sk_M := (yX7_count, cX7_count, 2, (some .int))
theorem mfX7_count : sk_MF mX7_count 1 := ⟨sk_tin 1141 (by decide +kernel) rfl, sk_tin 8 (by decide +kernel) rfl, by decide +kernel, by decide +kernel, by decide +kernel, by decide +kernel, by decide⟩
theorem miX7_count : Cond.instanceMethod yX7_count ∈ sk_ALL := sk_tin 1139 (by decide +kernel) rfl
theorem msX7_count : Cond.selects RX7 yX7_count yX7_count ∈ sk_ALL := sk_tin 1140 (by decide +kernel) rfl
abbrev mX7_told : sk_M := (yX7_told, cX7_told, 2, (some .int))
theorem mfX7_told : sk_MF mX7_told 1 := ⟨sk_tin 1145 (by decide +kernel) rfl, sk_tin 8 (by decide +kernel) rfl, by decide +kernel, by decide +kernel, by decide +kernel, by decide +kernel, by decide⟩
theorem miX7_told : Cond.instanceMethod yX7_told ∈ sk_ALL := sk_tin 1143 (by decide +kernel) rfl
theorem msX7_told : Cond.selects RX7 yX7_told yX7_told ∈ sk_ALL := sk_tin 1144 (by decide +kernel) rfl
abbrev mJ6_numberOfTrailingZeros_0f7a4 : sk_M := (yJ6_numberOfTrailingZeros_0f7a4, cJ6_numberOfTrailingZeros_0f7a4, 2, (some .int))
theorem mfJ6_numberOfTrailingZeros_0f7a4 : sk_MF mJ6_numberOfTrailingZeros_0f7a4 1 := ⟨sk_tin 530 (by decide +kernel) rfl, sk_tin 12 (by decide +kernel) rfl, by decide +kernel, by decide +kernel, by decide +kernel, by decide +kernel, by decide⟩
theorem miJ6_numberOfTrailingZeros_0f7a4 : Cond.static yJ6_numberOfTrailingZeros_0f7a4 ∈ sk_ALL := sk_tin 529 (by decide +kernel) rfl
abbrev mJ6_bitCount_0f7a4 : sk_M := (yJ6_bitCount_0f7a4, cJ6_bitCount_0f7a4, 1, (some .int))
theorem mfJ6_bitCount_0f7a4 : sk_MF mJ6_bitCount_0f7a4 1 := ⟨sk_tin 559 (by decide +kernel) rfl, sk_tin 12 (by decide +kernel) rfl, by decide +kernel, by decide +kernel, by decide +kernel, by decide +kernel, by decide⟩
theorem miJ6_bitCount_0f7a4 : Cond.static yJ6_bitCount_0f7a4 ∈ sk_ALL := sk_tin 558 (by decide +kernel) rfl
abbrev mJ13_numberOfTrailingZeros_95d88 : sk_M := (yJ13_numberOfTrailingZeros_95d88, cJ13_numberOfTrailingZeros_95d88, 3, (some .int))
theorem mfJ13_numberOfTrailingZeros_95d88 : sk_MF mJ13_numberOfTrailingZeros_95d88 1 := ⟨sk_tin 527 (by decide +kernel) rfl, sk_tin 10 (by decide +kernel) rfl, by decide +kernel, by decide +kernel, by decide +kernel, by decide +kernel, by decide⟩
theorem miJ13_numberOfTrailingZeros_95d88 : Cond.static yJ13_numberOfTrailingZeros_95d88 ∈ sk_ALL := sk_tin 526 (by decide +kernel) rfl
abbrev mJ13_bitCount_95d88 : sk_M := (yJ13_bitCount_95d88, cJ13_bitCount_95d88, 2, (some .int))
theorem mfJ13_bitCount_95d88 : sk_MF mJ13_bitCount_95d88 1 := ⟨sk_tin 370 (by decide +kernel) rfl, sk_tin 10 (by decide +kernel) rfl, by decide +kernel, by decide +kernel, by decide +kernel, by decide +kernel, by decide⟩
theorem miJ13_bitCount_95d88 : Cond.static yJ13_bitCount_95d88 ∈ sk_ALL := sk_tin 369 (by decide +kernel) rfl
theorem lw_max : Cond.static Lib.Math.max.name ∈ sk_ALL ∧ Cond.initialized "java/lang/Math" ∈ sk_ALL ∧ Cond.code Lib.Math.max.name Lib.Math.max.code 2 (some .int) ∈ sk_ALL := ⟨sk_tin 285 (by decide +kernel) rfl, sk_tin 9 (by decide +kernel) rfl, sk_tin 286 (by decide +kernel) rfl⟩
theorem lw_min : Cond.static Lib.Math.min.name ∈ sk_ALL ∧ Cond.initialized "java/lang/Math" ∈ sk_ALL ∧ Cond.code Lib.Math.min.name Lib.Math.min.code 2 (some .int) ∈ sk_ALL := ⟨sk_tin 310 (by decide +kernel) rfl, sk_tin 9 (by decide +kernel) rfl, sk_tin 311 (by decide +kernel) rfl⟩
theorem lkX6_48 : sk_LV RX6 48 yX6_isKindAndM := Or.inl (sk_tin 241 (by decide +kernel) rfl)
theorem lkX6_52 : sk_LV RX6 52 yX6_isDigit := Or.inl (sk_tin 244 (by decide +kernel) rfl)
theorem lkX6_58 : sk_LV RX6 58 yX6_error := Or.inl (sk_tin 247 (by decide +kernel) rfl)
theorem lkX6_66 : sk_LV RX6 66 yX5_begin := Or.inr ⟨"SlateKin", sk_nin 252 (by decide +kernel) rfl⟩
theorem lkX6_72 : sk_LV RX6 72 yX6_isSlate := Or.inl (sk_tin 264 (by decide +kernel) rfl)
theorem lkX6_90 : sk_LV RX6 90 yX5_row := Or.inr ⟨"SlateKin", sk_nin 268 (by decide +kernel) rfl⟩
theorem lkX6_94 : sk_LV RX6 94 yX5_place := Or.inr ⟨"SlateKin", sk_nin 276 (by decide +kernel) rfl⟩
theorem lkX6_100 : sk_LV RX6 100 yX5_broad := Or.inr ⟨"SlateKin", sk_nin 280 (by decide +kernel) rfl⟩
theorem lkX6_103 : sk_LV RX6 103 yX3_holdOf := Or.inr ⟨"SlateKin", sk_nin 287 (by decide +kernel) rfl⟩
theorem lkX6_107 : sk_LV RX6 107 yX5_turn := Or.inr ⟨"SlateKin", sk_nin 317 (by decide +kernel) rfl⟩
theorem lkX6_111 : sk_LV RX6 111 yX5_isUnder := Or.inr ⟨"SlateKin", sk_nin 322 (by decide +kernel) rfl⟩
theorem lkX6_114 : sk_LV RX6 114 yX3_mayLie := Or.inr ⟨"SlateKin", sk_nin 335 (by decide +kernel) rfl⟩
theorem lkX6_121 : sk_LV RX6 121 yX3_dryBut := Or.inr ⟨"SlateKin", sk_nin 361 (by decide +kernel) rfl⟩
theorem lkX6_125 : sk_LV RX6 125 yJ13_bitCount_95d88 := Or.inl (sk_tin 368 (by decide +kernel) rfl)
theorem lkX6_131 : sk_LV RX6 131 yX5_isLaid := Or.inr ⟨"SlateKin", sk_nin 378 (by decide +kernel) rfl⟩
theorem lkX6_135 : sk_LV RX6 135 yX6_isBit := Or.inl (sk_tin 387 (by decide +kernel) rfl)
theorem lkX6_148 : sk_LV RX6 148 yX6_isUse := Or.inl (sk_tin 398 (by decide +kernel) rfl)
theorem lkX6_151 : sk_LV RX6 151 yX2_read := Or.inr ⟨"SlateKin", sk_nin 401 (by decide +kernel) rfl⟩
theorem lkX6_163 : sk_LV RX6 163 yX1_adopt := Or.inr ⟨"SlateKin", sk_nin 451 (by decide +kernel) rfl⟩
theorem lkX6_173 : sk_LV RX6 173 yX1_give := Or.inr ⟨"SlateKin", sk_nin 464 (by decide +kernel) rfl⟩
theorem lkX6_177 : sk_LV RX6 177 yX6_isGale := Or.inl (sk_tin 469 (by decide +kernel) rfl)
theorem lkX6_180 : sk_LV RX6 180 yX3_blown := Or.inr ⟨"SlateKin", sk_nin 472 (by decide +kernel) rfl⟩
theorem lkX6_183 : sk_LV RX6 183 yX3_takeOff := Or.inr ⟨"SlateKin", sk_nin 482 (by decide +kernel) rfl⟩
theorem lkX6_189 : sk_LV RX6 189 yX3_passYear := Or.inr ⟨"SlateKin", sk_nin 490 (by decide +kernel) rfl⟩
theorem lkX6_195 : sk_LV RX6 195 yX3_yearByDraws := Or.inr ⟨"SlateKin", sk_nin 502 (by decide +kernel) rfl⟩
theorem lkX6_205 : sk_LV RX6 205 yJ13_numberOfTrailingZeros_95d88 := Or.inl (sk_tin 525 (by decide +kernel) rfl)
theorem lkX6_208 : sk_LV RX6 208 yX6_isCell := Or.inl (sk_tin 536 (by decide +kernel) rfl)
theorem lkX6_211 : sk_LV RX6 211 yX3_lyingOver := Or.inr ⟨"SlateKin", sk_nin 537 (by decide +kernel) rfl⟩
theorem lkX6_214 : sk_LV RX6 214 yX3_toComeTo := Or.inr ⟨"SlateKin", sk_nin 541 (by decide +kernel) rfl⟩
theorem lkX6_217 : sk_LV RX6 217 yX3_mustBeFast := Or.inr ⟨"SlateKin", sk_nin 553 (by decide +kernel) rfl⟩
theorem lkX6_220 : sk_LV RX6 220 yJ6_bitCount_0f7a4 := Or.inl (sk_tin 557 (by decide +kernel) rfl)
theorem lkX6_224 : sk_LV RX6 224 yX3_bestCell := Or.inr ⟨"SlateKin", sk_nin 567 (by decide +kernel) rfl⟩
theorem lkX6_227 : sk_LV RX6 227 yX3_dryWith := Or.inr ⟨"SlateKin", sk_nin 576 (by decide +kernel) rfl⟩
theorem lkX6_230 : sk_LV RX6 230 yX3_ringing := Or.inr ⟨"SlateKin", sk_nin 581 (by decide +kernel) rfl⟩
theorem lkX6_233 : sk_LV RX6 233 yX6_commonDivisor := Or.inl (sk_tin 595 (by decide +kernel) rfl)
theorem lkX6_236 : sk_LV RX6 236 yX6_isSheet := Or.inl (sk_tin 602 (by decide +kernel) rfl)
theorem lkX6_239 : sk_LV RX6 239 yX4_isMissing := Or.inr ⟨"SlateKin", sk_nin 605 (by decide +kernel) rfl⟩
theorem lkX6_242 : sk_LV RX6 242 yX4_tellsRows := Or.inr ⟨"SlateKin", sk_nin 609 (by decide +kernel) rfl⟩
theorem lkX6_246 : sk_LV RX6 246 yX0_sing := Or.inr ⟨"SlateKin", sk_nin 619 (by decide +kernel) rfl⟩
theorem lkX6_257 : sk_LV RX6 257 yX4_begin := Or.inr ⟨"SlateKin", sk_nin 654 (by decide +kernel) rfl⟩
theorem lkX6_261 : sk_LV RX6 261 yX4_write := Or.inr ⟨"SlateKin", sk_nin 662 (by decide +kernel) rfl⟩
theorem lkX6_267 : sk_LV RX6 267 yX4_has := Or.inr ⟨"SlateKin", sk_nin 670 (by decide +kernel) rfl⟩
theorem lkX6_273 : Cond.methodLink RX6 273 arraycopyName ∈ sk_ALL := sk_tin 674 (by decide +kernel) rfl
theorem lkX6_279 : sk_LV RX6 279 yX3_copy := Or.inr ⟨"SlateKin", sk_nin 687 (by decide +kernel) rfl⟩
theorem lkX0_36 : sk_LV RX0 36 yX0_own := Or.inl (sk_tin 623 (by decide +kernel) rfl)
theorem lkX0_40 : sk_LV RX0 40 yX0_from := Or.inl (sk_tin 627 (by decide +kernel) rfl)
theorem lkX0_47 : sk_LV RX0 47 yX5_kindAbove := Or.inr ⟨"SlateKin", sk_nin 633 (by decide +kernel) rfl⟩
theorem lkX0_51 : sk_LV RX0 51 yX0_begin := Or.inl (sk_tin 634 (by decide +kernel) rfl)
theorem lkX0_54 : sk_LV RX0 54 yX0_shared := Or.inl (sk_tin 638 (by decide +kernel) rfl)
theorem lkX0_57 : sk_LV RX0 57 yX0_partsAndRings := Or.inl (sk_tin 642 (by decide +kernel) rfl)
theorem lkX1_29 : Cond.methodLink RX1 29 arraycopyName ∈ sk_ALL := sk_tin 455 (by decide +kernel) rfl
theorem lkX1_35 : sk_LV RX1 35 yX1_workOut := Or.inl (sk_tin 299 (by decide +kernel) rfl)
theorem lkX1_39 : Cond.methodLink RX1 39 Lib.Math.min.name ∈ sk_ALL := sk_tin 309 (by decide +kernel) rfl
theorem lkX1_45 : Cond.methodLink RX1 45 Lib.Math.max.name ∈ sk_ALL := sk_tin 312 (by decide +kernel) rfl
theorem lkX1_48 : sk_LV RX1 48 yX1_join := Or.inl (sk_tin 303 (by decide +kernel) rfl)
theorem lkX1_51 : sk_LV RX1 51 yX1_worth := Or.inl (sk_tin 306 (by decide +kernel) rfl)
theorem lkX2_32 : Cond.methodLink RX2 32 arraycopyName ∈ sk_ALL := sk_tin 405 (by decide +kernel) rfl
theorem lkX2_38 : Cond.methodLink RX2 38 Lib.Math.min.name ∈ sk_ALL := sk_tin 408 (by decide +kernel) rfl
theorem lkX2_44 : sk_LV RX2 44 yX2_any := Or.inl (sk_tin 409 (by decide +kernel) rfl)
theorem lkX2_48 : sk_LV RX2 48 yX2_all := Or.inl (sk_tin 413 (by decide +kernel) rfl)
theorem lkX2_51 : sk_LV RX2 51 yX2_sign := Or.inl (sk_tin 433 (by decide +kernel) rfl)
theorem lkX2_57 : sk_LV RX2 57 yX2_emit := Or.inl (sk_tin 441 (by decide +kernel) rfl)
theorem lkX2_61 : sk_LV RX2 61 yX2_comparison := Or.inl (sk_tin 417 (by decide +kernel) rfl)
theorem lkX2_64 : sk_LV RX2 64 yX2_sum := Or.inl (sk_tin 421 (by decide +kernel) rfl)
theorem lkX2_67 : sk_LV RX2 67 yX2_product := Or.inl (sk_tin 425 (by decide +kernel) rfl)
theorem lkX2_70 : sk_LV RX2 70 yX2_single := Or.inl (sk_tin 429 (by decide +kernel) rfl)
theorem lkX2_73 : sk_LV RX2 73 yX2_number := Or.inl (sk_tin 437 (by decide +kernel) rfl)
theorem lkX2_76 : sk_LV RX2 76 yX2_opened := Or.inl (sk_tin 445 (by decide +kernel) rfl)
theorem lkX3_57 : sk_LV RX3 57 yX5_copy := Or.inr ⟨"SlateKin", sk_nin 691 (by decide +kernel) rfl⟩
theorem lkX3_61 : sk_LV RX3 61 yX1_copy := Or.inr ⟨"SlateKin", sk_nin 695 (by decide +kernel) rfl⟩
theorem lkX3_64 : Cond.methodLink RX3 64 arraycopyName ∈ sk_ALL := sk_tin 699 (by decide +kernel) rfl
theorem lkX3_70 : sk_LV RX3 70 yX5_holds := Or.inr ⟨"SlateKin", sk_nin 291 (by decide +kernel) rfl⟩
theorem lkX3_77 : sk_LV RX3 77 yX1_give := Or.inr ⟨"SlateKin", sk_nin 295 (by decide +kernel) rfl⟩
theorem lkX3_83 : sk_LV RX3 83 yX3_rightUnder := Or.inl (sk_tin 357 (by decide +kernel) rfl)
theorem lkX3_87 : sk_LV RX3 87 yX5_ownAt := Or.inr ⟨"SlateKin", sk_nin 339 (by decide +kernel) rfl⟩
theorem lkX3_91 : sk_LV RX3 91 yX5_own := Or.inr ⟨"SlateKin", sk_nin 348 (by decide +kernel) rfl⟩
theorem lkX3_98 : sk_LV RX3 98 yX5_isLaid := Or.inr ⟨"SlateKin", sk_nin 353 (by decide +kernel) rfl⟩
theorem lkX3_102 : sk_LV RX3 102 yX3_rightAbove := Or.inl (sk_tin 354 (by decide +kernel) rfl)
theorem lkX3_105 : sk_LV RX3 105 yX3_covered := Or.inl (sk_tin 365 (by decide +kernel) rfl)
theorem lkX3_108 : sk_LV RX3 108 yX3_dryBut := Or.inl (sk_tin 494 (by decide +kernel) rfl)
theorem lkX3_111 : sk_LV RX3 111 yJ13_bitCount_95d88 := Or.inl (sk_tin 575 (by decide +kernel) rfl)
theorem lkX3_117 : sk_LV RX3 117 yX3_mayLie := Or.inl (sk_tin 513 (by decide +kernel) rfl)
theorem lkX3_121 : sk_LV RX3 121 yX3_dryWith := Or.inl (sk_tin 571 (by decide +kernel) rfl)
theorem lkX3_124 : sk_LV RX3 124 yX3_ownOf := Or.inl (sk_tin 478 (by decide +kernel) rfl)
theorem lkX3_128 : sk_LV RX3 128 yX5_row := Or.inr ⟨"SlateKin", sk_nin 476 (by decide +kernel) rfl⟩
theorem lkX3_132 : sk_LV RX3 132 yX3_holdOf := Or.inl (sk_tin 477 (by decide +kernel) rfl)
theorem lkX3_138 : sk_LV RX3 138 yX3_follows := Or.inl (sk_tin 585 (by decide +kernel) rfl)
theorem lkX3_141 : sk_LV RX3 141 yX5_place := Or.inr ⟨"SlateKin", sk_nin 589 (by decide +kernel) rfl⟩
theorem lkX3_144 : sk_LV RX3 144 yX5_broad := Or.inr ⟨"SlateKin", sk_nin 590 (by decide +kernel) rfl⟩
theorem lkX3_148 : Cond.methodLink RX3 148 Lib.Math.min.name ∈ sk_ALL := sk_tin 496 (by decide +kernel) rfl
theorem lkX3_156 : Cond.methodLink RX3 156 Lib.Math.max.name ∈ sk_ALL := sk_tin 497 (by decide +kernel) rfl
theorem lkX3_160 : sk_LV RX3 160 yX3_draw := Or.inl (sk_tin 506 (by decide +kernel) rfl)
theorem lkX3_163 : sk_LV RX3 163 yX3_blown := Or.inl (sk_tin 511 (by decide +kernel) rfl)
theorem lkX3_167 : sk_LV RX3 167 yX3_takeOff := Or.inl (sk_tin 512 (by decide +kernel) rfl)
theorem lkX3_170 : sk_LV RX3 170 yX3_passYear := Or.inl (sk_tin 514 (by decide +kernel) rfl)
theorem lkX4_24 : sk_LV RX4 24 yJ13_bitCount_95d88 := Or.inl (sk_tin 614 (by decide +kernel) rfl)
theorem lkX5_37 : sk_LV RX5 37 yX5_turn := Or.inl (sk_tin 256 (by decide +kernel) rfl)
theorem lkX5_41 : sk_LV RX5 41 yX5_kindAbove := Or.inl (sk_tin 326 (by decide +kernel) rfl)
theorem lkX5_45 : sk_LV RX5 45 yX5_isLaid := Or.inl (sk_tin 272 (by decide +kernel) rfl)
theorem lkX5_49 : Cond.methodLink RX5 49 Lib.Math.max.name ∈ sk_ALL := sk_tin 284 (by decide +kernel) rfl
theorem lkX5_55 : sk_LV RX5 55 yX6_isCell := Or.inr ⟨"SlateKin", sk_nin 343 (by decide +kernel) rfl⟩
theorem lkX5_59 : sk_LV RX5 59 yX5_broad := Or.inl (sk_tin 346 (by decide +kernel) rfl)
theorem lkX5_65 : sk_LV RX5 65 yX5_ownAt := Or.inl (sk_tin 352 (by decide +kernel) rfl)
theorem lkL_13 : sk_LV RL 13 yX6_slate := Or.inl (sk_tin 237 (by decide +kernel) rfl)
theorem lkL_17 : sk_LV RL 17 yX7_slate := Or.inl (sk_tin 852 (by decide +kernel) rfl)
theorem lkL_18 : sk_LV RL 18 yX6_slateIs := Or.inl (sk_tin 260 (by decide +kernel) rfl)
theorem lkL_22 : sk_LV RL 22 yX7_slateIs := Or.inl (sk_tin 867 (by decide +kernel) rfl)
theorem lkL_23 : sk_LV RL 23 yX6_become := Or.inl (sk_tin 313 (by decide +kernel) rfl)
theorem lkL_26 : sk_LV RL 26 yX7_become := Or.inl (sk_tin 901 (by decide +kernel) rfl)
theorem lkL_27 : sk_LV RL 27 yX6_as := Or.inl (sk_tin 318 (by decide +kernel) rfl)
theorem lkL_30 : sk_LV RL 30 yX7_as := Or.inl (sk_tin 909 (by decide +kernel) rfl)
theorem lkL_31 : sk_LV RL 31 yX6_lay := Or.inl (sk_tin 331 (by decide +kernel) rfl)
theorem lkL_35 : sk_LV RL 35 yX7_lay := Or.inl (sk_tin 916 (by decide +kernel) rfl)
theorem lkL_36 : sk_LV RL 36 yX6_lift := Or.inl (sk_tin 374 (by decide +kernel) rfl)
theorem lkL_40 : sk_LV RL 40 yX7_lift := Or.inl (sk_tin 944 (by decide +kernel) rfl)
theorem lkL_41 : sk_LV RL 41 yX6_nail := Or.inl (sk_tin 379 (by decide +kernel) rfl)
theorem lkL_44 : sk_LV RL 44 yX7_nail := Or.inl (sk_tin 948 (by decide +kernel) rfl)
theorem lkL_45 : sk_LV RL 45 yX6_sells := Or.inl (sk_tin 383 (by decide +kernel) rfl)
theorem lkL_48 : sk_LV RL 48 yX7_sells := Or.inl (sk_tin 952 (by decide +kernel) rfl)
theorem lkL_51 : sk_LV RL 51 yX6_feed := Or.inl (sk_tin 390 (by decide +kernel) rfl)
theorem lkL_55 : sk_LV RL 55 yX7_feed := Or.inl (sk_tin 787 (by decide +kernel) rfl)
theorem lkL_56 : sk_LV RL 56 yX6_text := Or.inl (sk_tin 394 (by decide +kernel) rfl)
theorem lkL_59 : sk_LV RL 59 yX7_text := Or.inl (sk_tin 800 (by decide +kernel) rfl)
theorem lkL_60 : sk_LV RL 60 yX6_untell := Or.inl (sk_tin 456 (by decide +kernel) rfl)
theorem lkL_63 : sk_LV RL 63 yX7_untell := Or.inl (sk_tin 844 (by decide +kernel) rfl)
theorem lkL_64 : sk_LV RL 64 yX6_law := Or.inl (sk_tin 460 (by decide +kernel) rfl)
theorem lkL_67 : sk_LV RL 67 yX7_law := Or.inl (sk_tin 956 (by decide +kernel) rfl)
theorem lkL_68 : sk_LV RL 68 yX6_gale := Or.inl (sk_tin 465 (by decide +kernel) rfl)
theorem lkL_71 : sk_LV RL 71 yX7_gale := Or.inl (sk_tin 964 (by decide +kernel) rfl)
theorem lkL_72 : sk_LV RL 72 yX6_years := Or.inl (sk_tin 486 (by decide +kernel) rfl)
theorem lkL_75 : sk_LV RL 75 yX7_years := Or.inl (sk_tin 983 (by decide +kernel) rfl)
theorem lkL_76 : sk_LV RL 76 yX6_loose := Or.inl (sk_tin 498 (by decide +kernel) rfl)
theorem lkL_79 : sk_LV RL 79 yX7_loose := Or.inl (sk_tin 996 (by decide +kernel) rfl)
theorem lkL_80 : sk_LV RL 80 yX6_seed := Or.inl (sk_tin 515 (by decide +kernel) rfl)
theorem lkL_83 : sk_LV RL 83 yX7_seed := Or.inl (sk_tin 1005 (by decide +kernel) rfl)
theorem lkL_84 : sk_LV RL 84 yX6_dry := Or.inl (sk_tin 519 (by decide +kernel) rfl)
theorem lkL_88 : sk_LV RL 88 yX7_dry := Or.inl (sk_tin 1009 (by decide +kernel) rfl)
theorem lkL_89 : sk_LV RL 89 yX6_over := Or.inl (sk_tin 532 (by decide +kernel) rfl)
theorem lkL_92 : sk_LV RL 92 yX7_over := Or.inl (sk_tin 1013 (by decide +kernel) rfl)
theorem lkL_93 : sk_LV RL 93 yX6_lifts := Or.inl (sk_tin 545 (by decide +kernel) rfl)
theorem lkL_96 : sk_LV RL 96 yX7_lifts := Or.inl (sk_tin 1021 (by decide +kernel) rfl)
theorem lkL_97 : sk_LV RL 97 yX6_fast := Or.inl (sk_tin 549 (by decide +kernel) rfl)
theorem lkL_100 : sk_LV RL 100 yX7_fast := Or.inl (sk_tin 1029 (by decide +kernel) rfl)
theorem lkL_101 : sk_LV RL 101 yX6_best := Or.inl (sk_tin 563 (by decide +kernel) rfl)
theorem lkL_104 : sk_LV RL 104 yX7_best := Or.inl (sk_tin 1033 (by decide +kernel) rfl)
theorem lkL_105 : sk_LV RL 105 yX6_rings := Or.inl (sk_tin 577 (by decide +kernel) rfl)
theorem lkL_109 : sk_LV RL 109 yX7_rings := Or.inl (sk_tin 1037 (by decide +kernel) rfl)
theorem lkL_110 : sk_LV RL 110 yX6_odds := Or.inl (sk_tin 591 (by decide +kernel) rfl)
theorem lkL_113 : sk_LV RL 113 yX7_odds := Or.inl (sk_tin 1045 (by decide +kernel) rfl)
theorem lkL_114 : sk_LV RL 114 yX6_fits := Or.inl (sk_tin 598 (by decide +kernel) rfl)
theorem lkL_117 : sk_LV RL 117 yX7_fits := Or.inl (sk_tin 1052 (by decide +kernel) rfl)
theorem lkL_118 : sk_LV RL 118 yX6_voice := Or.inl (sk_tin 615 (by decide +kernel) rfl)
theorem lkL_121 : sk_LV RL 121 yX7_voice := Or.inl (sk_tin 1063 (by decide +kernel) rfl)
theorem lkL_122 : sk_LV RL 122 yX6_body := Or.inl (sk_tin 646 (by decide +kernel) rfl)
theorem lkL_125 : sk_LV RL 125 yX7_body := Or.inl (sk_tin 1095 (by decide +kernel) rfl)
theorem lkL_126 : sk_LV RL 126 yX6_sheet := Or.inl (sk_tin 650 (by decide +kernel) rfl)
theorem lkL_129 : sk_LV RL 129 yX7_sheet := Or.inl (sk_tin 1099 (by decide +kernel) rfl)
theorem lkL_130 : sk_LV RL 130 yX6_put := Or.inl (sk_tin 658 (by decide +kernel) rfl)
theorem lkL_133 : sk_LV RL 133 yX7_put := Or.inl (sk_tin 1103 (by decide +kernel) rfl)
theorem lkL_134 : sk_LV RL 134 yX6_move := Or.inl (sk_tin 666 (by decide +kernel) rfl)
theorem lkL_138 : sk_LV RL 138 yX7_move := Or.inl (sk_tin 1107 (by decide +kernel) rfl)
theorem lkL_139 : sk_LV RL 139 yX6_nailed := Or.inl (sk_tin 675 (by decide +kernel) rfl)
theorem lkL_142 : sk_LV RL 142 yX7_nailed := Or.inl (sk_tin 1111 (by decide +kernel) rfl)
theorem lkL_143 : sk_LV RL 143 yX6_judge := Or.inl (sk_tin 679 (by decide +kernel) rfl)
theorem lkL_146 : sk_LV RL 146 yX7_judge := Or.inl (sk_tin 1115 (by decide +kernel) rfl)
theorem lkL_147 : sk_LV RL 147 yX6_image := Or.inl (sk_tin 683 (by decide +kernel) rfl)
theorem lkL_150 : sk_LV RL 150 yX7_image := Or.inl (sk_tin 1119 (by decide +kernel) rfl)
theorem lkL_151 : sk_LV RL 151 yX6_restore := Or.inl (sk_tin 700 (by decide +kernel) rfl)
theorem lkL_154 : sk_LV RL 154 yX7_restore := Or.inl (sk_tin 1126 (by decide +kernel) rfl)
theorem lkL_155 : sk_LV RL 155 yX6_tell := Or.inl (sk_tin 704 (by decide +kernel) rfl)
theorem lkL_158 : sk_LV RL 158 yX7_tell := Or.inl (sk_tin 1130 (by decide +kernel) rfl)
theorem lkL_159 : sk_LV RL 159 yX6_check := Or.inl (sk_tin 708 (by decide +kernel) rfl)
theorem lkL_162 : sk_LV RL 162 yX7_check := Or.inl (sk_tin 1134 (by decide +kernel) rfl)
theorem lkL_163 : sk_LV RL 163 yX6_count := Or.inl (sk_tin 712 (by decide +kernel) rfl)
theorem lkL_166 : sk_LV RL 166 yX7_count := Or.inl (sk_tin 1138 (by decide +kernel) rfl)
theorem lkL_167 : sk_LV RL 167 yX6_told := Or.inl (sk_tin 716 (by decide +kernel) rfl)
theorem lkL_170 : sk_LV RL 170 yX7_told := Or.inl (sk_tin 1142 (by decide +kernel) rfl)
theorem lkX7_47 : sk_LV RX7 47 yX7_in := Or.inl (sk_tin 791 (by decide +kernel) rfl)
theorem lkX7_51 : sk_LV RX7 51 yX7_error := Or.inl (sk_tin 794 (by decide +kernel) rfl)
theorem lkX7_67 : sk_LV RX7 67 yX7_both := Or.inl (sk_tin 808 (by decide +kernel) rfl)
theorem lkX7_71 : sk_LV RX7 71 yX7_look := Or.inl (sk_tin 828 (by decide +kernel) rfl)
theorem lkX7_75 : sk_LV RX7 75 yX7_step1 := Or.inl (sk_tin 836 (by decide +kernel) rfl)
theorem lkX7_79 : sk_LV RX7 79 yX7_compared := Or.inl (sk_tin 812 (by decide +kernel) rfl)
theorem lkX7_82 : sk_LV RX7 82 yX7_sum := Or.inl (sk_tin 816 (by decide +kernel) rfl)
theorem lkX7_85 : sk_LV RX7 85 yX7_product := Or.inl (sk_tin 820 (by decide +kernel) rfl)
theorem lkX7_88 : sk_LV RX7 88 yX7_one := Or.inl (sk_tin 824 (by decide +kernel) rfl)
theorem lkX7_94 : sk_LV RX7 94 yX7_isName := Or.inl (sk_tin 832 (by decide +kernel) rfl)
theorem lkX7_98 : sk_LV RX7 98 yX7_opens := Or.inl (sk_tin 840 (by decide +kernel) rfl)
theorem lkX7_101 : sk_LV RX7 101 yX7_whole := Or.inl (sk_tin 804 (by decide +kernel) rfl)
theorem lkX7_104 : sk_LV RX7 104 yX7_hasText := Or.inl (sk_tin 848 (by decide +kernel) rfl)
theorem lkX7_107 : sk_LV RX7 107 yX7_joined := Or.inl (sk_tin 895 (by decide +kernel) rfl)
theorem lkX7_111 : sk_LV RX7 111 yX7_its := Or.inl (sk_tin 871 (by decide +kernel) rfl)
theorem lkX7_115 : sk_LV RX7 115 yX7_worked := Or.inl (sk_tin 891 (by decide +kernel) rfl)
theorem lkX7_118 : sk_LV RX7 118 yX7_held := Or.inl (sk_tin 898 (by decide +kernel) rfl)
theorem lkX7_121 : sk_LV RX7 121 yX7_holdsOf := Or.inl (sk_tin 883 (by decide +kernel) rfl)
theorem lkX7_124 : sk_LV RX7 124 yX7_holdTold := Or.inl (sk_tin 887 (by decide +kernel) rfl)
theorem lkX7_127 : sk_LV RX7 127 yX7_broad := Or.inl (sk_tin 875 (by decide +kernel) rfl)
theorem lkX7_130 : sk_LV RX7 130 yX7_ownAt := Or.inl (sk_tin 924 (by decide +kernel) rfl)
theorem lkX7_134 : sk_LV RX7 134 yX7_own := Or.inl (sk_tin 928 (by decide +kernel) rfl)
theorem lkX7_140 : sk_LV RX7 140 yX7_covers := Or.inl (sk_tin 936 (by decide +kernel) rfl)
theorem lkX7_143 : sk_LV RX7 143 yX7_holdOf := Or.inl (sk_tin 879 (by decide +kernel) rfl)
theorem lkX7_146 : sk_LV RX7 146 yX7_findHolds := Or.inl (sk_tin 975 (by decide +kernel) rfl)
theorem lkX7_150 : sk_LV RX7 150 yX7_liftedBy := Or.inl (sk_tin 979 (by decide +kernel) rfl)
theorem lkX7_153 : sk_LV RX7 153 yX7_lays1 := Or.inl (sk_tin 863 (by decide +kernel) rfl)
theorem lkX7_157 : sk_LV RX7 157 yX7_drySet := Or.inl (sk_tin 932 (by decide +kernel) rfl)
theorem lkX7_161 : sk_LV RX7 161 yX7_dropTold := Or.inl (sk_tin 960 (by decide +kernel) rfl)
theorem lkX7_166 : sk_LV RX7 166 yX7_isKind := Or.inl (sk_tin 856 (by decide +kernel) rfl)
theorem lkX7_169 : sk_LV RX7 169 yX7_isSlate := Or.inl (sk_tin 859 (by decide +kernel) rfl)
theorem lkX7_172 : sk_LV RX7 172 yX7_change1 := Or.inl (sk_tin 905 (by decide +kernel) rfl)
theorem lkX7_175 : sk_LV RX7 175 yX7_above := Or.inl (sk_tin 913 (by decide +kernel) rfl)
theorem lkX7_178 : sk_LV RX7 178 yX7_mayLie := Or.inl (sk_tin 920 (by decide +kernel) rfl)
theorem lkX7_182 : sk_LV RX7 182 yX7_bitsOf := Or.inl (sk_tin 941 (by decide +kernel) rfl)
theorem lkX7_186 : sk_LV RX7 186 yX7_isGale := Or.inl (sk_tin 968 (by decide +kernel) rfl)
theorem lkX7_189 : sk_LV RX7 189 yX7_galeNow := Or.inl (sk_tin 971 (by decide +kernel) rfl)
theorem lkX7_192 : sk_LV RX7 192 yX7_whyNot := Or.inl (sk_tin 987 (by decide +kernel) rfl)
theorem lkX7_195 : sk_LV RX7 195 yX7_aYear := Or.inl (sk_tin 991 (by decide +kernel) rfl)
theorem lkX7_198 : sk_LV RX7 198 yX7_draw := Or.inl (sk_tin 1000 (by decide +kernel) rfl)
theorem lkX7_201 : sk_LV RX7 201 yX7_coveredBy := Or.inl (sk_tin 1017 (by decide +kernel) rfl)
theorem lkX7_205 : sk_LV RX7 205 yX7_dryBehind := Or.inl (sk_tin 1025 (by decide +kernel) rfl)
theorem lkX7_208 : sk_LV RX7 208 yX7_isBeside := Or.inl (sk_tin 1041 (by decide +kernel) rfl)
theorem lkX7_211 : sk_LV RX7 211 yX7_divisor := Or.inl (sk_tin 1049 (by decide +kernel) rfl)
theorem lkX7_214 : sk_LV RX7 214 yX7_lacks := Or.inl (sk_tin 1056 (by decide +kernel) rfl)
theorem lkX7_223 : sk_LV RX7 223 yX7_starts := Or.inl (sk_tin 1075 (by decide +kernel) rfl)
theorem lkX7_226 : sk_LV RX7 226 yX7_dripsAs := Or.inl (sk_tin 1071 (by decide +kernel) rfl)
theorem lkX7_229 : sk_LV RX7 229 yX7_kindNow := Or.inl (sk_tin 1067 (by decide +kernel) rfl)
theorem lkX7_232 : sk_LV RX7 232 yX7_ringsAs := Or.inl (sk_tin 1079 (by decide +kernel) rfl)
theorem lkX7_235 : sk_LV RX7 235 yX7_mNow := Or.inl (sk_tin 1083 (by decide +kernel) rfl)
theorem lkX7_238 : sk_LV RX7 238 yX7_creaksAs := Or.inl (sk_tin 1087 (by decide +kernel) rfl)
theorem lkX7_245 : sk_LV RX7 245 yX7_partsAs := Or.inl (sk_tin 1091 (by decide +kernel) rfl)
theorem lkX7_248 : sk_LV RX7 248 yX7_isSheet := Or.inl (sk_tin 1060 (by decide +kernel) rfl)
theorem lkX7_251 : sk_LV RX7 251 yX7_copyAll := Or.inl (sk_tin 1123 (by decide +kernel) rfl)
theorem lkJ13_311 : sk_LV RJ13 311 yJ6_numberOfTrailingZeros_0f7a4 := Or.inl (sk_tin 528 (by decide +kernel) rfl)
theorem lk_ac : Cond.native arraycopyName ∈ sk_ALL ∧ Cond.static arraycopyName ∈ sk_ALL ∧ Cond.initialized "java/lang/System" ∈ sk_ALL := ⟨sk_tin 407 (by decide +kernel) rfl, sk_tin 406 (by decide +kernel) rfl, sk_tin 11 (by decide +kernel) rfl⟩
end
