section
/-- a private method of a class that the tables say can be made, by its rows of tables_1 -/
def lw_okq (q : MethodName × Nat) : Prop := (q.1.cls ≠ "java/lang/invoke/MethodHandle" ∧ q.1.cls ≠ "java/lang/invoke/VarHandle") ∧ Cond.instantiable q.1.cls q.2 ∈ tables_1 ∧ Cond.privateMethod q.1 ∈ tables_1 ∧ Cond.instanceMethod q.1 ∈ tables_1
theorem lw_p0 : lw_okq (⟨"SlateKin", "error", "(I)I"⟩, 7) := ⟨⟨by decide +kernel, by decide +kernel⟩, List.mem_of_getElem? (i := 14) (by decide +kernel), List.mem_of_getElem? (i := 248) (by decide +kernel), List.mem_of_getElem? (i := 249) (by decide +kernel)⟩
theorem lw_p1 : lw_okq (⟨"SlateKin$Tile", "begin", "(IIII)V"⟩, 7) := ⟨⟨by decide +kernel, by decide +kernel⟩, List.mem_of_getElem? (i := 31) (by decide +kernel), List.mem_of_getElem? (i := 253) (by decide +kernel), List.mem_of_getElem? (i := 254) (by decide +kernel)⟩
theorem lw_p2 : lw_okq (⟨"SlateKin$Tile", "turn", "(I)V"⟩, 7) := ⟨⟨by decide +kernel, by decide +kernel⟩, List.mem_of_getElem? (i := 31) (by decide +kernel), List.mem_of_getElem? (i := 257) (by decide +kernel), List.mem_of_getElem? (i := 258) (by decide +kernel)⟩
theorem lw_p3 : lw_okq (⟨"SlateKin", "isSlate", "(I)Z"⟩, 7) := ⟨⟨by decide +kernel, by decide +kernel⟩, List.mem_of_getElem? (i := 14) (by decide +kernel), List.mem_of_getElem? (i := 265) (by decide +kernel), List.mem_of_getElem? (i := 266) (by decide +kernel)⟩
theorem lw_p4 : lw_okq (⟨"SlateKin$Tile", "row", "()I"⟩, 7) := ⟨⟨by decide +kernel, by decide +kernel⟩, List.mem_of_getElem? (i := 31) (by decide +kernel), List.mem_of_getElem? (i := 269) (by decide +kernel), List.mem_of_getElem? (i := 270) (by decide +kernel)⟩
theorem lw_p5 : lw_okq (⟨"SlateKin$Tile", "isLaid", "()Z"⟩, 7) := ⟨⟨by decide +kernel, by decide +kernel⟩, List.mem_of_getElem? (i := 31) (by decide +kernel), List.mem_of_getElem? (i := 273) (by decide +kernel), List.mem_of_getElem? (i := 274) (by decide +kernel)⟩
theorem lw_p6 : lw_okq (⟨"SlateKin$Tile", "place", "()I"⟩, 7) := ⟨⟨by decide +kernel, by decide +kernel⟩, List.mem_of_getElem? (i := 31) (by decide +kernel), List.mem_of_getElem? (i := 277) (by decide +kernel), List.mem_of_getElem? (i := 278) (by decide +kernel)⟩
theorem lw_p7 : lw_okq (⟨"SlateKin$Tile", "broad", "()I"⟩, 7) := ⟨⟨by decide +kernel, by decide +kernel⟩, List.mem_of_getElem? (i := 31) (by decide +kernel), List.mem_of_getElem? (i := 281) (by decide +kernel), List.mem_of_getElem? (i := 282) (by decide +kernel)⟩
theorem lw_p8 : lw_okq (⟨"SlateKin$Roof", "holdOf", "(II)I"⟩, 11) := ⟨⟨by decide +kernel, by decide +kernel⟩, List.mem_of_getElem? (i := 22) (by decide +kernel), List.mem_of_getElem? (i := 288) (by decide +kernel), List.mem_of_getElem? (i := 289) (by decide +kernel)⟩
theorem lw_p9 : lw_okq (⟨"SlateKin$Tile", "holds", "(II)I"⟩, 7) := ⟨⟨by decide +kernel, by decide +kernel⟩, List.mem_of_getElem? (i := 31) (by decide +kernel), List.mem_of_getElem? (i := 292) (by decide +kernel), List.mem_of_getElem? (i := 293) (by decide +kernel)⟩
theorem lw_p10 : lw_okq (⟨"SlateKin$Law", "give", "(III)I"⟩, 5) := ⟨⟨by decide +kernel, by decide +kernel⟩, List.mem_of_getElem? (i := 73) (by decide +kernel), List.mem_of_getElem? (i := 296) (by decide +kernel), List.mem_of_getElem? (i := 297) (by decide +kernel)⟩
theorem lw_p11 : lw_okq (⟨"SlateKin$Law", "workOut", "(III)I"⟩, 5) := ⟨⟨by decide +kernel, by decide +kernel⟩, List.mem_of_getElem? (i := 73) (by decide +kernel), List.mem_of_getElem? (i := 300) (by decide +kernel), List.mem_of_getElem? (i := 301) (by decide +kernel)⟩
theorem lw_p12 : lw_okq (⟨"SlateKin$Tile", "isUnder", "(I)Z"⟩, 7) := ⟨⟨by decide +kernel, by decide +kernel⟩, List.mem_of_getElem? (i := 31) (by decide +kernel), List.mem_of_getElem? (i := 323) (by decide +kernel), List.mem_of_getElem? (i := 324) (by decide +kernel)⟩
theorem lw_p13 : lw_okq (⟨"SlateKin$Roof", "mayLie", "(II)Z"⟩, 11) := ⟨⟨by decide +kernel, by decide +kernel⟩, List.mem_of_getElem? (i := 22) (by decide +kernel), List.mem_of_getElem? (i := 336) (by decide +kernel), List.mem_of_getElem? (i := 337) (by decide +kernel)⟩
theorem lw_p14 : lw_okq (⟨"SlateKin$Tile", "ownAt", "(I)J"⟩, 7) := ⟨⟨by decide +kernel, by decide +kernel⟩, List.mem_of_getElem? (i := 31) (by decide +kernel), List.mem_of_getElem? (i := 340) (by decide +kernel), List.mem_of_getElem? (i := 341) (by decide +kernel)⟩
theorem lw_p15 : lw_okq (⟨"SlateKin$Tile", "own", "()J"⟩, 7) := ⟨⟨by decide +kernel, by decide +kernel⟩, List.mem_of_getElem? (i := 31) (by decide +kernel), List.mem_of_getElem? (i := 349) (by decide +kernel), List.mem_of_getElem? (i := 350) (by decide +kernel)⟩
def lw_privs_1 : List (MethodName × Nat) := [(⟨"SlateKin", "error", "(I)I"⟩, 7), (⟨"SlateKin$Tile", "begin", "(IIII)V"⟩, 7), (⟨"SlateKin$Tile", "turn", "(I)V"⟩, 7), (⟨"SlateKin", "isSlate", "(I)Z"⟩, 7), (⟨"SlateKin$Tile", "row", "()I"⟩, 7), (⟨"SlateKin$Tile", "isLaid", "()Z"⟩, 7), (⟨"SlateKin$Tile", "place", "()I"⟩, 7), (⟨"SlateKin$Tile", "broad", "()I"⟩, 7), (⟨"SlateKin$Roof", "holdOf", "(II)I"⟩, 11), (⟨"SlateKin$Tile", "holds", "(II)I"⟩, 7), (⟨"SlateKin$Law", "give", "(III)I"⟩, 5), (⟨"SlateKin$Law", "workOut", "(III)I"⟩, 5), (⟨"SlateKin$Tile", "isUnder", "(I)Z"⟩, 7), (⟨"SlateKin$Roof", "mayLie", "(II)Z"⟩, 11), (⟨"SlateKin$Tile", "ownAt", "(I)J"⟩, 7), (⟨"SlateKin$Tile", "own", "()J"⟩, 7)]
theorem lw_r1 : ∀ q ∈ lw_privs_1, lw_okq q := List.forall_mem_cons.mpr ⟨lw_p0, List.forall_mem_cons.mpr ⟨lw_p1, List.forall_mem_cons.mpr ⟨lw_p2, List.forall_mem_cons.mpr ⟨lw_p3, List.forall_mem_cons.mpr ⟨lw_p4, List.forall_mem_cons.mpr ⟨lw_p5, List.forall_mem_cons.mpr ⟨lw_p6, List.forall_mem_cons.mpr ⟨lw_p7, List.forall_mem_cons.mpr ⟨lw_p8, List.forall_mem_cons.mpr ⟨lw_p9, List.forall_mem_cons.mpr ⟨lw_p10, List.forall_mem_cons.mpr ⟨lw_p11, List.forall_mem_cons.mpr ⟨lw_p12, List.forall_mem_cons.mpr ⟨lw_p13, List.forall_mem_cons.mpr ⟨lw_p14, List.forall_mem_cons.mpr ⟨lw_p15, fun _ h => absurd h List.not_mem_nil⟩⟩⟩⟩⟩⟩⟩⟩⟩⟩⟩⟩⟩⟩⟩⟩
theorem lw_p16 : lw_okq (⟨"SlateKin$Roof", "dryBut", "(I)J"⟩, 11) := ⟨⟨by decide +kernel, by decide +kernel⟩, List.mem_of_getElem? (i := 22) (by decide +kernel), List.mem_of_getElem? (i := 362) (by decide +kernel), List.mem_of_getElem? (i := 363) (by decide +kernel)⟩
theorem lw_p17 : lw_okq (⟨"SlateKin$Reader", "read", "([BII)I"⟩, 6) := ⟨⟨by decide +kernel, by decide +kernel⟩, List.mem_of_getElem? (i := 141) (by decide +kernel), List.mem_of_getElem? (i := 402) (by decide +kernel), List.mem_of_getElem? (i := 403) (by decide +kernel)⟩
theorem lw_p18 : lw_okq (⟨"SlateKin$Reader", "any", "(I)Z"⟩, 6) := ⟨⟨by decide +kernel, by decide +kernel⟩, List.mem_of_getElem? (i := 141) (by decide +kernel), List.mem_of_getElem? (i := 410) (by decide +kernel), List.mem_of_getElem? (i := 411) (by decide +kernel)⟩
theorem lw_p19 : lw_okq (⟨"SlateKin$Reader", "all", "(I)Z"⟩, 6) := ⟨⟨by decide +kernel, by decide +kernel⟩, List.mem_of_getElem? (i := 141) (by decide +kernel), List.mem_of_getElem? (i := 414) (by decide +kernel), List.mem_of_getElem? (i := 415) (by decide +kernel)⟩
theorem lw_p20 : lw_okq (⟨"SlateKin$Reader", "comparison", "(I)Z"⟩, 6) := ⟨⟨by decide +kernel, by decide +kernel⟩, List.mem_of_getElem? (i := 141) (by decide +kernel), List.mem_of_getElem? (i := 418) (by decide +kernel), List.mem_of_getElem? (i := 419) (by decide +kernel)⟩
theorem lw_p21 : lw_okq (⟨"SlateKin$Reader", "sum", "(I)Z"⟩, 6) := ⟨⟨by decide +kernel, by decide +kernel⟩, List.mem_of_getElem? (i := 141) (by decide +kernel), List.mem_of_getElem? (i := 422) (by decide +kernel), List.mem_of_getElem? (i := 423) (by decide +kernel)⟩
theorem lw_p22 : lw_okq (⟨"SlateKin$Reader", "product", "(I)Z"⟩, 6) := ⟨⟨by decide +kernel, by decide +kernel⟩, List.mem_of_getElem? (i := 141) (by decide +kernel), List.mem_of_getElem? (i := 426) (by decide +kernel), List.mem_of_getElem? (i := 427) (by decide +kernel)⟩
theorem lw_p23 : lw_okq (⟨"SlateKin$Reader", "single", "(I)Z"⟩, 6) := ⟨⟨by decide +kernel, by decide +kernel⟩, List.mem_of_getElem? (i := 141) (by decide +kernel), List.mem_of_getElem? (i := 430) (by decide +kernel), List.mem_of_getElem? (i := 431) (by decide +kernel)⟩
theorem lw_p24 : lw_okq (⟨"SlateKin$Reader", "sign", "()I"⟩, 6) := ⟨⟨by decide +kernel, by decide +kernel⟩, List.mem_of_getElem? (i := 141) (by decide +kernel), List.mem_of_getElem? (i := 434) (by decide +kernel), List.mem_of_getElem? (i := 435) (by decide +kernel)⟩
theorem lw_p25 : lw_okq (⟨"SlateKin$Reader", "number", "()V"⟩, 6) := ⟨⟨by decide +kernel, by decide +kernel⟩, List.mem_of_getElem? (i := 141) (by decide +kernel), List.mem_of_getElem? (i := 438) (by decide +kernel), List.mem_of_getElem? (i := 439) (by decide +kernel)⟩
theorem lw_p26 : lw_okq (⟨"SlateKin$Reader", "emit", "(I)V"⟩, 6) := ⟨⟨by decide +kernel, by decide +kernel⟩, List.mem_of_getElem? (i := 141) (by decide +kernel), List.mem_of_getElem? (i := 442) (by decide +kernel), List.mem_of_getElem? (i := 443) (by decide +kernel)⟩
theorem lw_p27 : lw_okq (⟨"SlateKin$Reader", "opened", "(II)Z"⟩, 6) := ⟨⟨by decide +kernel, by decide +kernel⟩, List.mem_of_getElem? (i := 141) (by decide +kernel), List.mem_of_getElem? (i := 446) (by decide +kernel), List.mem_of_getElem? (i := 447) (by decide +kernel)⟩
theorem lw_p28 : lw_okq (⟨"SlateKin$Law", "adopt", "([II)V"⟩, 5) := ⟨⟨by decide +kernel, by decide +kernel⟩, List.mem_of_getElem? (i := 73) (by decide +kernel), List.mem_of_getElem? (i := 452) (by decide +kernel), List.mem_of_getElem? (i := 453) (by decide +kernel)⟩
theorem lw_p29 : lw_okq (⟨"SlateKin$Roof", "blown", "(I)I"⟩, 11) := ⟨⟨by decide +kernel, by decide +kernel⟩, List.mem_of_getElem? (i := 22) (by decide +kernel), List.mem_of_getElem? (i := 473) (by decide +kernel), List.mem_of_getElem? (i := 474) (by decide +kernel)⟩
theorem lw_p30 : lw_okq (⟨"SlateKin$Roof", "ownOf", "(II)J"⟩, 11) := ⟨⟨by decide +kernel, by decide +kernel⟩, List.mem_of_getElem? (i := 22) (by decide +kernel), List.mem_of_getElem? (i := 479) (by decide +kernel), List.mem_of_getElem? (i := 480) (by decide +kernel)⟩
theorem lw_p31 : lw_okq (⟨"SlateKin$Roof", "takeOff", "(I)V"⟩, 11) := ⟨⟨by decide +kernel, by decide +kernel⟩, List.mem_of_getElem? (i := 22) (by decide +kernel), List.mem_of_getElem? (i := 483) (by decide +kernel), List.mem_of_getElem? (i := 484) (by decide +kernel)⟩
def lw_privs_2 : List (MethodName × Nat) := [(⟨"SlateKin$Roof", "dryBut", "(I)J"⟩, 11), (⟨"SlateKin$Reader", "read", "([BII)I"⟩, 6), (⟨"SlateKin$Reader", "any", "(I)Z"⟩, 6), (⟨"SlateKin$Reader", "all", "(I)Z"⟩, 6), (⟨"SlateKin$Reader", "comparison", "(I)Z"⟩, 6), (⟨"SlateKin$Reader", "sum", "(I)Z"⟩, 6), (⟨"SlateKin$Reader", "product", "(I)Z"⟩, 6), (⟨"SlateKin$Reader", "single", "(I)Z"⟩, 6), (⟨"SlateKin$Reader", "sign", "()I"⟩, 6), (⟨"SlateKin$Reader", "number", "()V"⟩, 6), (⟨"SlateKin$Reader", "emit", "(I)V"⟩, 6), (⟨"SlateKin$Reader", "opened", "(II)Z"⟩, 6), (⟨"SlateKin$Law", "adopt", "([II)V"⟩, 5), (⟨"SlateKin$Roof", "blown", "(I)I"⟩, 11), (⟨"SlateKin$Roof", "ownOf", "(II)J"⟩, 11), (⟨"SlateKin$Roof", "takeOff", "(I)V"⟩, 11)]
theorem lw_r2 : ∀ q ∈ lw_privs_2, lw_okq q := List.forall_mem_cons.mpr ⟨lw_p16, List.forall_mem_cons.mpr ⟨lw_p17, List.forall_mem_cons.mpr ⟨lw_p18, List.forall_mem_cons.mpr ⟨lw_p19, List.forall_mem_cons.mpr ⟨lw_p20, List.forall_mem_cons.mpr ⟨lw_p21, List.forall_mem_cons.mpr ⟨lw_p22, List.forall_mem_cons.mpr ⟨lw_p23, List.forall_mem_cons.mpr ⟨lw_p24, List.forall_mem_cons.mpr ⟨lw_p25, List.forall_mem_cons.mpr ⟨lw_p26, List.forall_mem_cons.mpr ⟨lw_p27, List.forall_mem_cons.mpr ⟨lw_p28, List.forall_mem_cons.mpr ⟨lw_p29, List.forall_mem_cons.mpr ⟨lw_p30, List.forall_mem_cons.mpr ⟨lw_p31, fun _ h => absurd h List.not_mem_nil⟩⟩⟩⟩⟩⟩⟩⟩⟩⟩⟩⟩⟩⟩⟩⟩
theorem lw_p32 : lw_okq (⟨"SlateKin$Roof", "passYear", "()V"⟩, 11) := ⟨⟨by decide +kernel, by decide +kernel⟩, List.mem_of_getElem? (i := 22) (by decide +kernel), List.mem_of_getElem? (i := 491) (by decide +kernel), List.mem_of_getElem? (i := 492) (by decide +kernel)⟩
theorem lw_p33 : lw_okq (⟨"SlateKin$Roof", "yearByDraws", "()I"⟩, 11) := ⟨⟨by decide +kernel, by decide +kernel⟩, List.mem_of_getElem? (i := 22) (by decide +kernel), List.mem_of_getElem? (i := 503) (by decide +kernel), List.mem_of_getElem? (i := 504) (by decide +kernel)⟩
theorem lw_p34 : lw_okq (⟨"SlateKin$Roof", "draw", "()I"⟩, 11) := ⟨⟨by decide +kernel, by decide +kernel⟩, List.mem_of_getElem? (i := 22) (by decide +kernel), List.mem_of_getElem? (i := 507) (by decide +kernel), List.mem_of_getElem? (i := 508) (by decide +kernel)⟩
theorem lw_p35 : lw_okq (⟨"SlateKin$Roof", "lyingOver", "(I)I"⟩, 11) := ⟨⟨by decide +kernel, by decide +kernel⟩, List.mem_of_getElem? (i := 22) (by decide +kernel), List.mem_of_getElem? (i := 538) (by decide +kernel), List.mem_of_getElem? (i := 539) (by decide +kernel)⟩
theorem lw_p36 : lw_okq (⟨"SlateKin$Roof", "toComeTo", "(I)I"⟩, 11) := ⟨⟨by decide +kernel, by decide +kernel⟩, List.mem_of_getElem? (i := 22) (by decide +kernel), List.mem_of_getElem? (i := 542) (by decide +kernel), List.mem_of_getElem? (i := 543) (by decide +kernel)⟩
theorem lw_p37 : lw_okq (⟨"SlateKin$Roof", "mustBeFast", "(I)I"⟩, 11) := ⟨⟨by decide +kernel, by decide +kernel⟩, List.mem_of_getElem? (i := 22) (by decide +kernel), List.mem_of_getElem? (i := 554) (by decide +kernel), List.mem_of_getElem? (i := 555) (by decide +kernel)⟩
theorem lw_p38 : lw_okq (⟨"SlateKin$Roof", "bestCell", "(I)I"⟩, 11) := ⟨⟨by decide +kernel, by decide +kernel⟩, List.mem_of_getElem? (i := 22) (by decide +kernel), List.mem_of_getElem? (i := 568) (by decide +kernel), List.mem_of_getElem? (i := 569) (by decide +kernel)⟩
theorem lw_p39 : lw_okq (⟨"SlateKin$Roof", "dryWith", "(II)I"⟩, 11) := ⟨⟨by decide +kernel, by decide +kernel⟩, List.mem_of_getElem? (i := 22) (by decide +kernel), List.mem_of_getElem? (i := 572) (by decide +kernel), List.mem_of_getElem? (i := 573) (by decide +kernel)⟩
theorem lw_p40 : lw_okq (⟨"SlateKin$Roof", "ringing", "()I"⟩, 11) := ⟨⟨by decide +kernel, by decide +kernel⟩, List.mem_of_getElem? (i := 22) (by decide +kernel), List.mem_of_getElem? (i := 582) (by decide +kernel), List.mem_of_getElem? (i := 583) (by decide +kernel)⟩
theorem lw_p41 : lw_okq (⟨"SlateKin$Roof", "follows", "(II)Z"⟩, 11) := ⟨⟨by decide +kernel, by decide +kernel⟩, List.mem_of_getElem? (i := 22) (by decide +kernel), List.mem_of_getElem? (i := 586) (by decide +kernel), List.mem_of_getElem? (i := 587) (by decide +kernel)⟩
theorem lw_p42 : lw_okq (⟨"SlateKin$Sheet", "isMissing", "()Z"⟩, 3) := ⟨⟨by decide +kernel, by decide +kernel⟩, List.mem_of_getElem? (i := 197) (by decide +kernel), List.mem_of_getElem? (i := 606) (by decide +kernel), List.mem_of_getElem? (i := 607) (by decide +kernel)⟩
theorem lw_p43 : lw_okq (⟨"SlateKin$Sheet", "tellsRows", "(J)Z"⟩, 3) := ⟨⟨by decide +kernel, by decide +kernel⟩, List.mem_of_getElem? (i := 197) (by decide +kernel), List.mem_of_getElem? (i := 610) (by decide +kernel), List.mem_of_getElem? (i := 611) (by decide +kernel)⟩
theorem lw_p44 : lw_okq (⟨"SlateKin$Choir", "sing", "(LSlateKin$Tile;III)I"⟩, 6) := ⟨⟨by decide +kernel, by decide +kernel⟩, List.mem_of_getElem? (i := 168) (by decide +kernel), List.mem_of_getElem? (i := 620) (by decide +kernel), List.mem_of_getElem? (i := 621) (by decide +kernel)⟩
theorem lw_p45 : lw_okq (⟨"SlateKin$Choir", "own", "(III)I"⟩, 6) := ⟨⟨by decide +kernel, by decide +kernel⟩, List.mem_of_getElem? (i := 168) (by decide +kernel), List.mem_of_getElem? (i := 624) (by decide +kernel), List.mem_of_getElem? (i := 625) (by decide +kernel)⟩
theorem lw_p46 : lw_okq (⟨"SlateKin$Choir", "from", "(IIII)I"⟩, 6) := ⟨⟨by decide +kernel, by decide +kernel⟩, List.mem_of_getElem? (i := 168) (by decide +kernel), List.mem_of_getElem? (i := 628) (by decide +kernel), List.mem_of_getElem? (i := 629) (by decide +kernel)⟩
theorem lw_p47 : lw_okq (⟨"SlateKin$Choir", "begin", "(IIII)I"⟩, 6) := ⟨⟨by decide +kernel, by decide +kernel⟩, List.mem_of_getElem? (i := 168) (by decide +kernel), List.mem_of_getElem? (i := 635) (by decide +kernel), List.mem_of_getElem? (i := 636) (by decide +kernel)⟩
def lw_privs_3 : List (MethodName × Nat) := [(⟨"SlateKin$Roof", "passYear", "()V"⟩, 11), (⟨"SlateKin$Roof", "yearByDraws", "()I"⟩, 11), (⟨"SlateKin$Roof", "draw", "()I"⟩, 11), (⟨"SlateKin$Roof", "lyingOver", "(I)I"⟩, 11), (⟨"SlateKin$Roof", "toComeTo", "(I)I"⟩, 11), (⟨"SlateKin$Roof", "mustBeFast", "(I)I"⟩, 11), (⟨"SlateKin$Roof", "bestCell", "(I)I"⟩, 11), (⟨"SlateKin$Roof", "dryWith", "(II)I"⟩, 11), (⟨"SlateKin$Roof", "ringing", "()I"⟩, 11), (⟨"SlateKin$Roof", "follows", "(II)Z"⟩, 11), (⟨"SlateKin$Sheet", "isMissing", "()Z"⟩, 3), (⟨"SlateKin$Sheet", "tellsRows", "(J)Z"⟩, 3), (⟨"SlateKin$Choir", "sing", "(LSlateKin$Tile;III)I"⟩, 6), (⟨"SlateKin$Choir", "own", "(III)I"⟩, 6), (⟨"SlateKin$Choir", "from", "(IIII)I"⟩, 6), (⟨"SlateKin$Choir", "begin", "(IIII)I"⟩, 6)]
theorem lw_r3 : ∀ q ∈ lw_privs_3, lw_okq q := List.forall_mem_cons.mpr ⟨lw_p32, List.forall_mem_cons.mpr ⟨lw_p33, List.forall_mem_cons.mpr ⟨lw_p34, List.forall_mem_cons.mpr ⟨lw_p35, List.forall_mem_cons.mpr ⟨lw_p36, List.forall_mem_cons.mpr ⟨lw_p37, List.forall_mem_cons.mpr ⟨lw_p38, List.forall_mem_cons.mpr ⟨lw_p39, List.forall_mem_cons.mpr ⟨lw_p40, List.forall_mem_cons.mpr ⟨lw_p41, List.forall_mem_cons.mpr ⟨lw_p42, List.forall_mem_cons.mpr ⟨lw_p43, List.forall_mem_cons.mpr ⟨lw_p44, List.forall_mem_cons.mpr ⟨lw_p45, List.forall_mem_cons.mpr ⟨lw_p46, List.forall_mem_cons.mpr ⟨lw_p47, fun _ h => absurd h List.not_mem_nil⟩⟩⟩⟩⟩⟩⟩⟩⟩⟩⟩⟩⟩⟩⟩⟩
theorem lw_p48 : lw_okq (⟨"SlateKin$Choir", "shared", "(I)I"⟩, 6) := ⟨⟨by decide +kernel, by decide +kernel⟩, List.mem_of_getElem? (i := 168) (by decide +kernel), List.mem_of_getElem? (i := 639) (by decide +kernel), List.mem_of_getElem? (i := 640) (by decide +kernel)⟩
theorem lw_p49 : lw_okq (⟨"SlateKin$Choir", "partsAndRings", "(III)I"⟩, 6) := ⟨⟨by decide +kernel, by decide +kernel⟩, List.mem_of_getElem? (i := 168) (by decide +kernel), List.mem_of_getElem? (i := 643) (by decide +kernel), List.mem_of_getElem? (i := 644) (by decide +kernel)⟩
theorem lw_p50 : lw_okq (⟨"SlateKin$Sheet", "begin", "(II)V"⟩, 3) := ⟨⟨by decide +kernel, by decide +kernel⟩, List.mem_of_getElem? (i := 197) (by decide +kernel), List.mem_of_getElem? (i := 655) (by decide +kernel), List.mem_of_getElem? (i := 656) (by decide +kernel)⟩
theorem lw_p51 : lw_okq (⟨"SlateKin$Sheet", "write", "(II)V"⟩, 3) := ⟨⟨by decide +kernel, by decide +kernel⟩, List.mem_of_getElem? (i := 197) (by decide +kernel), List.mem_of_getElem? (i := 663) (by decide +kernel), List.mem_of_getElem? (i := 664) (by decide +kernel)⟩
theorem lw_p52 : lw_okq (⟨"SlateKin$Sheet", "has", "(II)Z"⟩, 3) := ⟨⟨by decide +kernel, by decide +kernel⟩, List.mem_of_getElem? (i := 197) (by decide +kernel), List.mem_of_getElem? (i := 671) (by decide +kernel), List.mem_of_getElem? (i := 672) (by decide +kernel)⟩
theorem lw_p53 : lw_okq (⟨"SlateKin$Roof", "copy", "(LSlateKin$Roof;)V"⟩, 11) := ⟨⟨by decide +kernel, by decide +kernel⟩, List.mem_of_getElem? (i := 22) (by decide +kernel), List.mem_of_getElem? (i := 688) (by decide +kernel), List.mem_of_getElem? (i := 689) (by decide +kernel)⟩
theorem lw_p54 : lw_okq (⟨"SlateKin$Tile", "copy", "(LSlateKin$Tile;)V"⟩, 7) := ⟨⟨by decide +kernel, by decide +kernel⟩, List.mem_of_getElem? (i := 31) (by decide +kernel), List.mem_of_getElem? (i := 692) (by decide +kernel), List.mem_of_getElem? (i := 693) (by decide +kernel)⟩
theorem lw_p55 : lw_okq (⟨"SlateKin$Law", "copy", "(LSlateKin$Law;)V"⟩, 5) := ⟨⟨by decide +kernel, by decide +kernel⟩, List.mem_of_getElem? (i := 73) (by decide +kernel), List.mem_of_getElem? (i := 696) (by decide +kernel), List.mem_of_getElem? (i := 697) (by decide +kernel)⟩
theorem lw_p56 : lw_okq (⟨"SlateKinModel", "error", "(I)I"⟩, 20) := ⟨⟨by decide +kernel, by decide +kernel⟩, List.mem_of_getElem? (i := 721) (by decide +kernel), List.mem_of_getElem? (i := 795) (by decide +kernel), List.mem_of_getElem? (i := 796) (by decide +kernel)⟩
theorem lw_p57 : lw_okq (⟨"SlateKinModel", "whole", "()Z"⟩, 20) := ⟨⟨by decide +kernel, by decide +kernel⟩, List.mem_of_getElem? (i := 721) (by decide +kernel), List.mem_of_getElem? (i := 805) (by decide +kernel), List.mem_of_getElem? (i := 806) (by decide +kernel)⟩
theorem lw_p58 : lw_okq (⟨"SlateKinModel", "both", "()Z"⟩, 20) := ⟨⟨by decide +kernel, by decide +kernel⟩, List.mem_of_getElem? (i := 721) (by decide +kernel), List.mem_of_getElem? (i := 809) (by decide +kernel), List.mem_of_getElem? (i := 810) (by decide +kernel)⟩
theorem lw_p59 : lw_okq (⟨"SlateKinModel", "compared", "()Z"⟩, 20) := ⟨⟨by decide +kernel, by decide +kernel⟩, List.mem_of_getElem? (i := 721) (by decide +kernel), List.mem_of_getElem? (i := 813) (by decide +kernel), List.mem_of_getElem? (i := 814) (by decide +kernel)⟩
theorem lw_p60 : lw_okq (⟨"SlateKinModel", "sum", "()Z"⟩, 20) := ⟨⟨by decide +kernel, by decide +kernel⟩, List.mem_of_getElem? (i := 721) (by decide +kernel), List.mem_of_getElem? (i := 817) (by decide +kernel), List.mem_of_getElem? (i := 818) (by decide +kernel)⟩
theorem lw_p61 : lw_okq (⟨"SlateKinModel", "product", "()Z"⟩, 20) := ⟨⟨by decide +kernel, by decide +kernel⟩, List.mem_of_getElem? (i := 721) (by decide +kernel), List.mem_of_getElem? (i := 821) (by decide +kernel), List.mem_of_getElem? (i := 822) (by decide +kernel)⟩
theorem lw_p62 : lw_okq (⟨"SlateKinModel", "one", "()Z"⟩, 20) := ⟨⟨by decide +kernel, by decide +kernel⟩, List.mem_of_getElem? (i := 721) (by decide +kernel), List.mem_of_getElem? (i := 825) (by decide +kernel), List.mem_of_getElem? (i := 826) (by decide +kernel)⟩
theorem lw_p63 : lw_okq (⟨"SlateKinModel", "look", "()I"⟩, 20) := ⟨⟨by decide +kernel, by decide +kernel⟩, List.mem_of_getElem? (i := 721) (by decide +kernel), List.mem_of_getElem? (i := 829) (by decide +kernel), List.mem_of_getElem? (i := 830) (by decide +kernel)⟩
def lw_privs_4 : List (MethodName × Nat) := [(⟨"SlateKin$Choir", "shared", "(I)I"⟩, 6), (⟨"SlateKin$Choir", "partsAndRings", "(III)I"⟩, 6), (⟨"SlateKin$Sheet", "begin", "(II)V"⟩, 3), (⟨"SlateKin$Sheet", "write", "(II)V"⟩, 3), (⟨"SlateKin$Sheet", "has", "(II)Z"⟩, 3), (⟨"SlateKin$Roof", "copy", "(LSlateKin$Roof;)V"⟩, 11), (⟨"SlateKin$Tile", "copy", "(LSlateKin$Tile;)V"⟩, 7), (⟨"SlateKin$Law", "copy", "(LSlateKin$Law;)V"⟩, 5), (⟨"SlateKinModel", "error", "(I)I"⟩, 20), (⟨"SlateKinModel", "whole", "()Z"⟩, 20), (⟨"SlateKinModel", "both", "()Z"⟩, 20), (⟨"SlateKinModel", "compared", "()Z"⟩, 20), (⟨"SlateKinModel", "sum", "()Z"⟩, 20), (⟨"SlateKinModel", "product", "()Z"⟩, 20), (⟨"SlateKinModel", "one", "()Z"⟩, 20), (⟨"SlateKinModel", "look", "()I"⟩, 20)]
theorem lw_r4 : ∀ q ∈ lw_privs_4, lw_okq q := List.forall_mem_cons.mpr ⟨lw_p48, List.forall_mem_cons.mpr ⟨lw_p49, List.forall_mem_cons.mpr ⟨lw_p50, List.forall_mem_cons.mpr ⟨lw_p51, List.forall_mem_cons.mpr ⟨lw_p52, List.forall_mem_cons.mpr ⟨lw_p53, List.forall_mem_cons.mpr ⟨lw_p54, List.forall_mem_cons.mpr ⟨lw_p55, List.forall_mem_cons.mpr ⟨lw_p56, List.forall_mem_cons.mpr ⟨lw_p57, List.forall_mem_cons.mpr ⟨lw_p58, List.forall_mem_cons.mpr ⟨lw_p59, List.forall_mem_cons.mpr ⟨lw_p60, List.forall_mem_cons.mpr ⟨lw_p61, List.forall_mem_cons.mpr ⟨lw_p62, List.forall_mem_cons.mpr ⟨lw_p63, fun _ h => absurd h List.not_mem_nil⟩⟩⟩⟩⟩⟩⟩⟩⟩⟩⟩⟩⟩⟩⟩⟩
theorem lw_p64 : lw_okq (⟨"SlateKinModel", "isName", "(I)Z"⟩, 20) := ⟨⟨by decide +kernel, by decide +kernel⟩, List.mem_of_getElem? (i := 721) (by decide +kernel), List.mem_of_getElem? (i := 833) (by decide +kernel), List.mem_of_getElem? (i := 834) (by decide +kernel)⟩
theorem lw_p65 : lw_okq (⟨"SlateKinModel", "step1", "(II)V"⟩, 20) := ⟨⟨by decide +kernel, by decide +kernel⟩, List.mem_of_getElem? (i := 721) (by decide +kernel), List.mem_of_getElem? (i := 837) (by decide +kernel), List.mem_of_getElem? (i := 838) (by decide +kernel)⟩
theorem lw_p66 : lw_okq (⟨"SlateKinModel", "opens", "()Z"⟩, 20) := ⟨⟨by decide +kernel, by decide +kernel⟩, List.mem_of_getElem? (i := 721) (by decide +kernel), List.mem_of_getElem? (i := 841) (by decide +kernel), List.mem_of_getElem? (i := 842) (by decide +kernel)⟩
theorem lw_p67 : lw_okq (⟨"SlateKinModel", "hasText", "(I)Z"⟩, 20) := ⟨⟨by decide +kernel, by decide +kernel⟩, List.mem_of_getElem? (i := 721) (by decide +kernel), List.mem_of_getElem? (i := 849) (by decide +kernel), List.mem_of_getElem? (i := 850) (by decide +kernel)⟩
theorem lw_p68 : lw_okq (⟨"SlateKinModel", "isSlate", "(I)Z"⟩, 20) := ⟨⟨by decide +kernel, by decide +kernel⟩, List.mem_of_getElem? (i := 721) (by decide +kernel), List.mem_of_getElem? (i := 860) (by decide +kernel), List.mem_of_getElem? (i := 861) (by decide +kernel)⟩
theorem lw_p69 : lw_okq (⟨"SlateKinModel", "lays1", "(III)V"⟩, 20) := ⟨⟨by decide +kernel, by decide +kernel⟩, List.mem_of_getElem? (i := 721) (by decide +kernel), List.mem_of_getElem? (i := 864) (by decide +kernel), List.mem_of_getElem? (i := 865) (by decide +kernel)⟩
theorem lw_p70 : lw_okq (⟨"SlateKinModel", "its", "(II)I"⟩, 20) := ⟨⟨by decide +kernel, by decide +kernel⟩, List.mem_of_getElem? (i := 721) (by decide +kernel), List.mem_of_getElem? (i := 872) (by decide +kernel), List.mem_of_getElem? (i := 873) (by decide +kernel)⟩
theorem lw_p71 : lw_okq (⟨"SlateKinModel", "broad", "(I)I"⟩, 20) := ⟨⟨by decide +kernel, by decide +kernel⟩, List.mem_of_getElem? (i := 721) (by decide +kernel), List.mem_of_getElem? (i := 876) (by decide +kernel), List.mem_of_getElem? (i := 877) (by decide +kernel)⟩
theorem lw_p72 : lw_okq (⟨"SlateKinModel", "holdOf", "(II)I"⟩, 20) := ⟨⟨by decide +kernel, by decide +kernel⟩, List.mem_of_getElem? (i := 721) (by decide +kernel), List.mem_of_getElem? (i := 880) (by decide +kernel), List.mem_of_getElem? (i := 881) (by decide +kernel)⟩
theorem lw_p73 : lw_okq (⟨"SlateKinModel", "holdsOf", "(I)I"⟩, 20) := ⟨⟨by decide +kernel, by decide +kernel⟩, List.mem_of_getElem? (i := 721) (by decide +kernel), List.mem_of_getElem? (i := 884) (by decide +kernel), List.mem_of_getElem? (i := 885) (by decide +kernel)⟩
theorem lw_p74 : lw_okq (⟨"SlateKinModel", "holdTold", "(III)I"⟩, 20) := ⟨⟨by decide +kernel, by decide +kernel⟩, List.mem_of_getElem? (i := 721) (by decide +kernel), List.mem_of_getElem? (i := 888) (by decide +kernel), List.mem_of_getElem? (i := 889) (by decide +kernel)⟩
theorem lw_p75 : lw_okq (⟨"SlateKinModel", "worked", "(I)I"⟩, 20) := ⟨⟨by decide +kernel, by decide +kernel⟩, List.mem_of_getElem? (i := 721) (by decide +kernel), List.mem_of_getElem? (i := 892) (by decide +kernel), List.mem_of_getElem? (i := 893) (by decide +kernel)⟩
theorem lw_p76 : lw_okq (⟨"SlateKinModel", "change1", "(II)I"⟩, 20) := ⟨⟨by decide +kernel, by decide +kernel⟩, List.mem_of_getElem? (i := 721) (by decide +kernel), List.mem_of_getElem? (i := 906) (by decide +kernel), List.mem_of_getElem? (i := 907) (by decide +kernel)⟩
theorem lw_p77 : lw_okq (⟨"SlateKinModel", "mayLie", "(II)Z"⟩, 20) := ⟨⟨by decide +kernel, by decide +kernel⟩, List.mem_of_getElem? (i := 721) (by decide +kernel), List.mem_of_getElem? (i := 921) (by decide +kernel), List.mem_of_getElem? (i := 922) (by decide +kernel)⟩
theorem lw_p78 : lw_okq (⟨"SlateKinModel", "ownAt", "(II)J"⟩, 20) := ⟨⟨by decide +kernel, by decide +kernel⟩, List.mem_of_getElem? (i := 721) (by decide +kernel), List.mem_of_getElem? (i := 925) (by decide +kernel), List.mem_of_getElem? (i := 926) (by decide +kernel)⟩
theorem lw_p79 : lw_okq (⟨"SlateKinModel", "own", "(I)J"⟩, 20) := ⟨⟨by decide +kernel, by decide +kernel⟩, List.mem_of_getElem? (i := 721) (by decide +kernel), List.mem_of_getElem? (i := 929) (by decide +kernel), List.mem_of_getElem? (i := 930) (by decide +kernel)⟩
def lw_privs_5 : List (MethodName × Nat) := [(⟨"SlateKinModel", "isName", "(I)Z"⟩, 20), (⟨"SlateKinModel", "step1", "(II)V"⟩, 20), (⟨"SlateKinModel", "opens", "()Z"⟩, 20), (⟨"SlateKinModel", "hasText", "(I)Z"⟩, 20), (⟨"SlateKinModel", "isSlate", "(I)Z"⟩, 20), (⟨"SlateKinModel", "lays1", "(III)V"⟩, 20), (⟨"SlateKinModel", "its", "(II)I"⟩, 20), (⟨"SlateKinModel", "broad", "(I)I"⟩, 20), (⟨"SlateKinModel", "holdOf", "(II)I"⟩, 20), (⟨"SlateKinModel", "holdsOf", "(I)I"⟩, 20), (⟨"SlateKinModel", "holdTold", "(III)I"⟩, 20), (⟨"SlateKinModel", "worked", "(I)I"⟩, 20), (⟨"SlateKinModel", "change1", "(II)I"⟩, 20), (⟨"SlateKinModel", "mayLie", "(II)Z"⟩, 20), (⟨"SlateKinModel", "ownAt", "(II)J"⟩, 20), (⟨"SlateKinModel", "own", "(I)J"⟩, 20)]
theorem lw_r5 : ∀ q ∈ lw_privs_5, lw_okq q := List.forall_mem_cons.mpr ⟨lw_p64, List.forall_mem_cons.mpr ⟨lw_p65, List.forall_mem_cons.mpr ⟨lw_p66, List.forall_mem_cons.mpr ⟨lw_p67, List.forall_mem_cons.mpr ⟨lw_p68, List.forall_mem_cons.mpr ⟨lw_p69, List.forall_mem_cons.mpr ⟨lw_p70, List.forall_mem_cons.mpr ⟨lw_p71, List.forall_mem_cons.mpr ⟨lw_p72, List.forall_mem_cons.mpr ⟨lw_p73, List.forall_mem_cons.mpr ⟨lw_p74, List.forall_mem_cons.mpr ⟨lw_p75, List.forall_mem_cons.mpr ⟨lw_p76, List.forall_mem_cons.mpr ⟨lw_p77, List.forall_mem_cons.mpr ⟨lw_p78, List.forall_mem_cons.mpr ⟨lw_p79, fun _ h => absurd h List.not_mem_nil⟩⟩⟩⟩⟩⟩⟩⟩⟩⟩⟩⟩⟩⟩⟩⟩
theorem lw_p80 : lw_okq (⟨"SlateKinModel", "drySet", "()J"⟩, 20) := ⟨⟨by decide +kernel, by decide +kernel⟩, List.mem_of_getElem? (i := 721) (by decide +kernel), List.mem_of_getElem? (i := 933) (by decide +kernel), List.mem_of_getElem? (i := 934) (by decide +kernel)⟩
theorem lw_p81 : lw_okq (⟨"SlateKinModel", "covers", "(I)J"⟩, 20) := ⟨⟨by decide +kernel, by decide +kernel⟩, List.mem_of_getElem? (i := 721) (by decide +kernel), List.mem_of_getElem? (i := 937) (by decide +kernel), List.mem_of_getElem? (i := 938) (by decide +kernel)⟩
theorem lw_p82 : lw_okq (⟨"SlateKinModel", "dropTold", "(III)I"⟩, 20) := ⟨⟨by decide +kernel, by decide +kernel⟩, List.mem_of_getElem? (i := 721) (by decide +kernel), List.mem_of_getElem? (i := 961) (by decide +kernel), List.mem_of_getElem? (i := 962) (by decide +kernel)⟩
theorem lw_p83 : lw_okq (⟨"SlateKinModel", "galeNow", "(I)I"⟩, 20) := ⟨⟨by decide +kernel, by decide +kernel⟩, List.mem_of_getElem? (i := 721) (by decide +kernel), List.mem_of_getElem? (i := 972) (by decide +kernel), List.mem_of_getElem? (i := 973) (by decide +kernel)⟩
theorem lw_p84 : lw_okq (⟨"SlateKinModel", "findHolds", "(I)V"⟩, 20) := ⟨⟨by decide +kernel, by decide +kernel⟩, List.mem_of_getElem? (i := 721) (by decide +kernel), List.mem_of_getElem? (i := 976) (by decide +kernel), List.mem_of_getElem? (i := 977) (by decide +kernel)⟩
theorem lw_p85 : lw_okq (⟨"SlateKinModel", "liftedBy", "(II)I"⟩, 20) := ⟨⟨by decide +kernel, by decide +kernel⟩, List.mem_of_getElem? (i := 721) (by decide +kernel), List.mem_of_getElem? (i := 980) (by decide +kernel), List.mem_of_getElem? (i := 981) (by decide +kernel)⟩
theorem lw_p86 : lw_okq (⟨"SlateKinModel", "whyNot", "(II)I"⟩, 20) := ⟨⟨by decide +kernel, by decide +kernel⟩, List.mem_of_getElem? (i := 721) (by decide +kernel), List.mem_of_getElem? (i := 988) (by decide +kernel), List.mem_of_getElem? (i := 989) (by decide +kernel)⟩
theorem lw_p87 : lw_okq (⟨"SlateKinModel", "aYear", "()V"⟩, 20) := ⟨⟨by decide +kernel, by decide +kernel⟩, List.mem_of_getElem? (i := 721) (by decide +kernel), List.mem_of_getElem? (i := 992) (by decide +kernel), List.mem_of_getElem? (i := 993) (by decide +kernel)⟩
theorem lw_p88 : lw_okq (⟨"SlateKinModel", "draw", "()I"⟩, 20) := ⟨⟨by decide +kernel, by decide +kernel⟩, List.mem_of_getElem? (i := 721) (by decide +kernel), List.mem_of_getElem? (i := 1001) (by decide +kernel), List.mem_of_getElem? (i := 1002) (by decide +kernel)⟩
theorem lw_p89 : lw_okq (⟨"SlateKinModel", "coveredBy", "(JI)I"⟩, 20) := ⟨⟨by decide +kernel, by decide +kernel⟩, List.mem_of_getElem? (i := 721) (by decide +kernel), List.mem_of_getElem? (i := 1018) (by decide +kernel), List.mem_of_getElem? (i := 1019) (by decide +kernel)⟩
theorem lw_p90 : lw_okq (⟨"SlateKinModel", "dryBehind", "(I)J"⟩, 20) := ⟨⟨by decide +kernel, by decide +kernel⟩, List.mem_of_getElem? (i := 721) (by decide +kernel), List.mem_of_getElem? (i := 1026) (by decide +kernel), List.mem_of_getElem? (i := 1027) (by decide +kernel)⟩
theorem lw_p91 : lw_okq (⟨"SlateKinModel", "isBeside", "(II)Z"⟩, 20) := ⟨⟨by decide +kernel, by decide +kernel⟩, List.mem_of_getElem? (i := 721) (by decide +kernel), List.mem_of_getElem? (i := 1042) (by decide +kernel), List.mem_of_getElem? (i := 1043) (by decide +kernel)⟩
theorem lw_p92 : lw_okq (⟨"SlateKinModel", "lacks", "(I)I"⟩, 20) := ⟨⟨by decide +kernel, by decide +kernel⟩, List.mem_of_getElem? (i := 721) (by decide +kernel), List.mem_of_getElem? (i := 1057) (by decide +kernel), List.mem_of_getElem? (i := 1058) (by decide +kernel)⟩
theorem lw_p93 : lw_okq (⟨"SlateKinModel", "kindNow", "()I"⟩, 20) := ⟨⟨by decide +kernel, by decide +kernel⟩, List.mem_of_getElem? (i := 721) (by decide +kernel), List.mem_of_getElem? (i := 1068) (by decide +kernel), List.mem_of_getElem? (i := 1069) (by decide +kernel)⟩
theorem lw_p94 : lw_okq (⟨"SlateKinModel", "dripsAs", "(II)I"⟩, 20) := ⟨⟨by decide +kernel, by decide +kernel⟩, List.mem_of_getElem? (i := 721) (by decide +kernel), List.mem_of_getElem? (i := 1072) (by decide +kernel), List.mem_of_getElem? (i := 1073) (by decide +kernel)⟩
theorem lw_p95 : lw_okq (⟨"SlateKinModel", "starts", "(I)V"⟩, 20) := ⟨⟨by decide +kernel, by decide +kernel⟩, List.mem_of_getElem? (i := 721) (by decide +kernel), List.mem_of_getElem? (i := 1076) (by decide +kernel), List.mem_of_getElem? (i := 1077) (by decide +kernel)⟩
def lw_privs_6 : List (MethodName × Nat) := [(⟨"SlateKinModel", "drySet", "()J"⟩, 20), (⟨"SlateKinModel", "covers", "(I)J"⟩, 20), (⟨"SlateKinModel", "dropTold", "(III)I"⟩, 20), (⟨"SlateKinModel", "galeNow", "(I)I"⟩, 20), (⟨"SlateKinModel", "findHolds", "(I)V"⟩, 20), (⟨"SlateKinModel", "liftedBy", "(II)I"⟩, 20), (⟨"SlateKinModel", "whyNot", "(II)I"⟩, 20), (⟨"SlateKinModel", "aYear", "()V"⟩, 20), (⟨"SlateKinModel", "draw", "()I"⟩, 20), (⟨"SlateKinModel", "coveredBy", "(JI)I"⟩, 20), (⟨"SlateKinModel", "dryBehind", "(I)J"⟩, 20), (⟨"SlateKinModel", "isBeside", "(II)Z"⟩, 20), (⟨"SlateKinModel", "lacks", "(I)I"⟩, 20), (⟨"SlateKinModel", "kindNow", "()I"⟩, 20), (⟨"SlateKinModel", "dripsAs", "(II)I"⟩, 20), (⟨"SlateKinModel", "starts", "(I)V"⟩, 20)]
theorem lw_r6 : ∀ q ∈ lw_privs_6, lw_okq q := List.forall_mem_cons.mpr ⟨lw_p80, List.forall_mem_cons.mpr ⟨lw_p81, List.forall_mem_cons.mpr ⟨lw_p82, List.forall_mem_cons.mpr ⟨lw_p83, List.forall_mem_cons.mpr ⟨lw_p84, List.forall_mem_cons.mpr ⟨lw_p85, List.forall_mem_cons.mpr ⟨lw_p86, List.forall_mem_cons.mpr ⟨lw_p87, List.forall_mem_cons.mpr ⟨lw_p88, List.forall_mem_cons.mpr ⟨lw_p89, List.forall_mem_cons.mpr ⟨lw_p90, List.forall_mem_cons.mpr ⟨lw_p91, List.forall_mem_cons.mpr ⟨lw_p92, List.forall_mem_cons.mpr ⟨lw_p93, List.forall_mem_cons.mpr ⟨lw_p94, List.forall_mem_cons.mpr ⟨lw_p95, fun _ h => absurd h List.not_mem_nil⟩⟩⟩⟩⟩⟩⟩⟩⟩⟩⟩⟩⟩⟩⟩⟩
theorem lw_p96 : lw_okq (⟨"SlateKinModel", "ringsAs", "(II)I"⟩, 20) := ⟨⟨by decide +kernel, by decide +kernel⟩, List.mem_of_getElem? (i := 721) (by decide +kernel), List.mem_of_getElem? (i := 1080) (by decide +kernel), List.mem_of_getElem? (i := 1081) (by decide +kernel)⟩
theorem lw_p97 : lw_okq (⟨"SlateKinModel", "mNow", "()I"⟩, 20) := ⟨⟨by decide +kernel, by decide +kernel⟩, List.mem_of_getElem? (i := 721) (by decide +kernel), List.mem_of_getElem? (i := 1084) (by decide +kernel), List.mem_of_getElem? (i := 1085) (by decide +kernel)⟩
theorem lw_p98 : lw_okq (⟨"SlateKinModel", "creaksAs", "(II)I"⟩, 20) := ⟨⟨by decide +kernel, by decide +kernel⟩, List.mem_of_getElem? (i := 721) (by decide +kernel), List.mem_of_getElem? (i := 1088) (by decide +kernel), List.mem_of_getElem? (i := 1089) (by decide +kernel)⟩
theorem lw_p99 : lw_okq (⟨"SlateKinModel", "partsAs", "(II)I"⟩, 20) := ⟨⟨by decide +kernel, by decide +kernel⟩, List.mem_of_getElem? (i := 721) (by decide +kernel), List.mem_of_getElem? (i := 1092) (by decide +kernel), List.mem_of_getElem? (i := 1093) (by decide +kernel)⟩
def lw_privs_7 : List (MethodName × Nat) := [(⟨"SlateKinModel", "ringsAs", "(II)I"⟩, 20), (⟨"SlateKinModel", "mNow", "()I"⟩, 20), (⟨"SlateKinModel", "creaksAs", "(II)I"⟩, 20), (⟨"SlateKinModel", "partsAs", "(II)I"⟩, 20)]
theorem lw_r7 : ∀ q ∈ lw_privs_7, lw_okq q := List.forall_mem_cons.mpr ⟨lw_p96, List.forall_mem_cons.mpr ⟨lw_p97, List.forall_mem_cons.mpr ⟨lw_p98, List.forall_mem_cons.mpr ⟨lw_p99, fun _ h => absurd h List.not_mem_nil⟩⟩⟩⟩
def lw_privs : List (MethodName × Nat) := lw_privs_1 ++ (lw_privs_2 ++ (lw_privs_3 ++ (lw_privs_4 ++ (lw_privs_5 ++ (lw_privs_6 ++ (lw_privs_7))))))
def lw_tbl : List Cond := k2_sels lw_privs ++ tables_1
theorem lw_privs_ok : ∀ q ∈ lw_privs, lw_okq q := by
  show ∀ q ∈ lw_privs_1 ++ (lw_privs_2 ++ (lw_privs_3 ++ (lw_privs_4 ++ (lw_privs_5 ++ (lw_privs_6 ++ (lw_privs_7)))))), lw_okq q
  exact List.forall_mem_append.mpr ⟨lw_r1, List.forall_mem_append.mpr ⟨lw_r2, List.forall_mem_append.mpr ⟨lw_r3, List.forall_mem_append.mpr ⟨lw_r4, List.forall_mem_append.mpr ⟨lw_r5, List.forall_mem_append.mpr ⟨lw_r6, lw_r7⟩⟩⟩⟩⟩⟩
end
section
def RX0 : String := "SlateKin$Choir"
def TX0 : u_T := fun k => match k with
  | 0 => ("SlateKin$Choir", "trace", "[I", true)
  | 1 => ("SlateKin$Choir", "size", "I", false)
  | 2 => ("SlateKin$Choir", "parted", "Z", false)
  | 3 => ("SlateKin$Choir", "kind", "I", false)
  | 4 => ("SlateKin$Choir", "m", "I", false)
  | _ => ("SlateKin$Choir", "k", "I", false)
def tyX0 : Nat → FieldType := fun k => match k with
  | 0 => .array .int
  | 1 => .int
  | 2 => .boolean
  | 3 => .int
  | 4 => .int
  | _ => .int
abbrev wsX00 : List Cond := u_ws RX0 TX0 6
theorem nmX0 : ∀ a, a < 6 → ∀ b, b < 6 → a ≠ b → (TX0 a).2.1 ≠ (TX0 b).2.1 := by decide +kernel
theorem tyX0_ok : ∀ k, k < 6 → parseFieldDescriptor (TX0 k).2.2.1 = some (tyX0 k) := by decide +kernel
abbrev cX0_init : ByteArray := prog_2_method_1_code
def yX0_init : MethodName := ⟨RX0, "<init>", "()V"⟩
abbrev cX0_sing : ByteArray := prog_2_method_2_code
def yX0_sing : MethodName := ⟨RX0, "sing", "(LSlateKin$Tile;III)I"⟩
abbrev cX0_own : ByteArray := prog_2_method_3_code
def yX0_own : MethodName := ⟨RX0, "own", "(III)I"⟩
abbrev cX0_from : ByteArray := prog_2_method_4_code
def yX0_from : MethodName := ⟨RX0, "from", "(IIII)I"⟩
abbrev cX0_begin : ByteArray := prog_2_method_5_code
def yX0_begin : MethodName := ⟨RX0, "begin", "(IIII)I"⟩
abbrev cX0_shared : ByteArray := prog_2_method_6_code
def yX0_shared : MethodName := ⟨RX0, "shared", "(I)I"⟩
abbrev cX0_partsAndRings : ByteArray := prog_2_method_7_code
def yX0_partsAndRings : MethodName := ⟨RX0, "partsAndRings", "(III)I"⟩
def RX1 : String := "SlateKin$Law"
def TX1 : u_T := fun k => match k with
  | 0 => ("SlateKin$Law", "use", "I", true)
  | 1 => ("SlateKin$Law", "stands", "Z", false)
  | 2 => ("SlateKin$Law", "code", "[I", true)
  | 3 => ("SlateKin$Law", "size", "I", false)
  | _ => ("SlateKin$Law", "stack", "[I", true)
def tyX1 : Nat → FieldType := fun k => match k with
  | 0 => .int
  | 1 => .boolean
  | 2 => .array .int
  | 3 => .int
  | _ => .array .int
abbrev wsX10 : List Cond := u_ws RX1 TX1 5
theorem nmX1 : ∀ a, a < 5 → ∀ b, b < 5 → a ≠ b → (TX1 a).2.1 ≠ (TX1 b).2.1 := by decide +kernel
theorem tyX1_ok : ∀ k, k < 5 → parseFieldDescriptor (TX1 k).2.2.1 = some (tyX1 k) := by decide +kernel
abbrev cX1_init : ByteArray := prog_3_method_1_code
def yX1_init : MethodName := ⟨RX1, "<init>", "(I)V"⟩
abbrev cX1_adopt : ByteArray := prog_3_method_2_code
def yX1_adopt : MethodName := ⟨RX1, "adopt", "([II)V"⟩
abbrev cX1_copy : ByteArray := prog_3_method_3_code
def yX1_copy : MethodName := ⟨RX1, "copy", "(LSlateKin$Law;)V"⟩
abbrev cX1_give : ByteArray := prog_3_method_4_code
def yX1_give : MethodName := ⟨RX1, "give", "(III)I"⟩
abbrev cX1_workOut : ByteArray := prog_3_method_5_code
def yX1_workOut : MethodName := ⟨RX1, "workOut", "(III)I"⟩
abbrev cX1_worth : ByteArray := prog_3_method_6_code
def yX1_worth : MethodName := ⟨RX1, "worth", "(IIII)I"⟩
abbrev cX1_join : ByteArray := prog_3_method_7_code
def yX1_join : MethodName := ⟨RX1, "join", "(III)I"⟩
def RX2 : String := "SlateKin$Reader"
def TX2 : u_T := fun k => match k with
  | 0 => ("SlateKin$Reader", "bytes", "[B", true)
  | 1 => ("SlateKin$Reader", "end", "I", false)
  | 2 => ("SlateKin$Reader", "at", "I", false)
  | 3 => ("SlateKin$Reader", "use", "I", false)
  | 4 => ("SlateKin$Reader", "code", "[I", true)
  | _ => ("SlateKin$Reader", "size", "I", false)
def tyX2 : Nat → FieldType := fun k => match k with
  | 0 => .array .byte
  | 1 => .int
  | 2 => .int
  | 3 => .int
  | 4 => .array .int
  | _ => .int
abbrev wsX20 : List Cond := u_ws RX2 TX2 6
theorem nmX2 : ∀ a, a < 6 → ∀ b, b < 6 → a ≠ b → (TX2 a).2.1 ≠ (TX2 b).2.1 := by decide +kernel
theorem tyX2_ok : ∀ k, k < 6 → parseFieldDescriptor (TX2 k).2.2.1 = some (tyX2 k) := by decide +kernel
abbrev cX2_init : ByteArray := prog_4_method_1_code
def yX2_init : MethodName := ⟨RX2, "<init>", "()V"⟩
abbrev cX2_read : ByteArray := prog_4_method_2_code
def yX2_read : MethodName := ⟨RX2, "read", "([BII)I"⟩
abbrev cX2_sign : ByteArray := prog_4_method_3_code
def yX2_sign : MethodName := ⟨RX2, "sign", "()I"⟩
abbrev cX2_emit : ByteArray := prog_4_method_4_code
def yX2_emit : MethodName := ⟨RX2, "emit", "(I)V"⟩
abbrev cX2_any : ByteArray := prog_4_method_5_code
def yX2_any : MethodName := ⟨RX2, "any", "(I)Z"⟩
abbrev cX2_all : ByteArray := prog_4_method_6_code
def yX2_all : MethodName := ⟨RX2, "all", "(I)Z"⟩
abbrev cX2_comparison : ByteArray := prog_4_method_7_code
def yX2_comparison : MethodName := ⟨RX2, "comparison", "(I)Z"⟩
abbrev cX2_sum : ByteArray := prog_4_method_8_code
def yX2_sum : MethodName := ⟨RX2, "sum", "(I)Z"⟩
abbrev cX2_product : ByteArray := prog_4_method_9_code
def yX2_product : MethodName := ⟨RX2, "product", "(I)Z"⟩
abbrev cX2_single : ByteArray := prog_4_method_10_code
def yX2_single : MethodName := ⟨RX2, "single", "(I)Z"⟩
abbrev cX2_opened : ByteArray := prog_4_method_11_code
def yX2_opened : MethodName := ⟨RX2, "opened", "(II)Z"⟩
abbrev cX2_number : ByteArray := prog_4_method_12_code
def yX2_number : MethodName := ⟨RX2, "number", "()V"⟩
def RX3 : String := "SlateKin$Roof"
def TX3 : u_T := fun k => match k with
  | 0 => ("SlateKin$Roof", "tiles", "[LSlateKin$Tile;", true)
  | 1 => ("SlateKin$Roof", "size", "I", false)
  | 2 => ("SlateKin$Roof", "year", "I", false)
  | 3 => ("SlateKin$Roof", "sold", "I", false)
  | 4 => ("SlateKin$Roof", "tub", "I", false)
  | 5 => ("SlateKin$Roof", "z", "I", false)
  | 6 => ("SlateKin$Roof", "tape", "[B", true)
  | 7 => ("SlateKin$Roof", "fed", "I", false)
  | 8 => ("SlateKin$Roof", "laws", "[LSlateKin$Law;", true)
  | 9 => ("SlateKin$Roof", "waits", "[I", true)
  | _ => ("SlateKin$Roof", "waiting", "I", false)
def tyX3 : Nat → FieldType := fun k => match k with
  | 0 => .array (.object "SlateKin$Tile")
  | 1 => .int
  | 2 => .int
  | 3 => .int
  | 4 => .int
  | 5 => .int
  | 6 => .array .byte
  | 7 => .int
  | 8 => .array (.object "SlateKin$Law")
  | 9 => .array .int
  | _ => .int
abbrev wsX30 : List Cond := u_ws RX3 TX3 11
theorem nmX3 : ∀ a, a < 11 → ∀ b, b < 11 → a ≠ b → (TX3 a).2.1 ≠ (TX3 b).2.1 := by decide +kernel
theorem tyX3_ok : ∀ k, k < 11 → parseFieldDescriptor (TX3 k).2.2.1 = some (tyX3 k) := by decide +kernel
abbrev cX3_init : ByteArray := prog_5_method_1_code
def yX3_init : MethodName := ⟨RX3, "<init>", "()V"⟩
abbrev cX3_copy : ByteArray := prog_5_method_2_code
def yX3_copy : MethodName := ⟨RX3, "copy", "(LSlateKin$Roof;)V"⟩
abbrev cX3_holdOf : ByteArray := prog_5_method_3_code
def yX3_holdOf : MethodName := ⟨RX3, "holdOf", "(II)I"⟩
abbrev cX3_rightUnder : ByteArray := prog_5_method_4_code
def yX3_rightUnder : MethodName := ⟨RX3, "rightUnder", "(J)J"⟩
abbrev cX3_rightAbove : ByteArray := prog_5_method_5_code
def yX3_rightAbove : MethodName := ⟨RX3, "rightAbove", "(J)J"⟩
abbrev cX3_covered : ByteArray := prog_5_method_6_code
def yX3_covered : MethodName := ⟨RX3, "covered", "(J)J"⟩
abbrev cX3_mayLie : ByteArray := prog_5_method_7_code
def yX3_mayLie : MethodName := ⟨RX3, "mayLie", "(II)Z"⟩
abbrev cX3_dryBut : ByteArray := prog_5_method_8_code
def yX3_dryBut : MethodName := ⟨RX3, "dryBut", "(I)J"⟩
abbrev cX3_dryWith : ByteArray := prog_5_method_9_code
def yX3_dryWith : MethodName := ⟨RX3, "dryWith", "(II)I"⟩
abbrev cX3_bestCell : ByteArray := prog_5_method_10_code
def yX3_bestCell : MethodName := ⟨RX3, "bestCell", "(I)I"⟩
abbrev cX3_lyingOver : ByteArray := prog_5_method_11_code
def yX3_lyingOver : MethodName := ⟨RX3, "lyingOver", "(I)I"⟩
abbrev cX3_toComeTo : ByteArray := prog_5_method_12_code
def yX3_toComeTo : MethodName := ⟨RX3, "toComeTo", "(I)I"⟩
abbrev cX3_ownOf : ByteArray := prog_5_method_13_code
def yX3_ownOf : MethodName := ⟨RX3, "ownOf", "(II)J"⟩
abbrev cX3_blown : ByteArray := prog_5_method_14_code
def yX3_blown : MethodName := ⟨RX3, "blown", "(I)I"⟩
abbrev cX3_takeOff : ByteArray := prog_5_method_15_code
def yX3_takeOff : MethodName := ⟨RX3, "takeOff", "(I)V"⟩
abbrev cX3_mustBeFast : ByteArray := prog_5_method_16_code
def yX3_mustBeFast : MethodName := ⟨RX3, "mustBeFast", "(I)I"⟩
abbrev cX3_ringing : ByteArray := prog_5_method_17_code
def yX3_ringing : MethodName := ⟨RX3, "ringing", "()I"⟩
abbrev cX3_follows : ByteArray := prog_5_method_18_code
def yX3_follows : MethodName := ⟨RX3, "follows", "(II)Z"⟩
abbrev cX3_passYear : ByteArray := prog_5_method_19_code
def yX3_passYear : MethodName := ⟨RX3, "passYear", "()V"⟩
abbrev cX3_draw : ByteArray := prog_5_method_20_code
def yX3_draw : MethodName := ⟨RX3, "draw", "()I"⟩
abbrev cX3_yearByDraws : ByteArray := prog_5_method_21_code
def yX3_yearByDraws : MethodName := ⟨RX3, "yearByDraws", "()I"⟩
def RX4 : String := "SlateKin$Sheet"
def TX4 : u_T := fun k => match k with
  | 0 => ("SlateKin$Sheet", "bits", "I", false)
  | 1 => ("SlateKin$Sheet", "size", "I", false)
  | _ => ("SlateKin$Sheet", "numbers", "[I", true)
def tyX4 : Nat → FieldType := fun k => match k with
  | 0 => .int
  | 1 => .int
  | _ => .array .int
abbrev wsX40 : List Cond := u_ws RX4 TX4 3
theorem nmX4 : ∀ a, a < 3 → ∀ b, b < 3 → a ≠ b → (TX4 a).2.1 ≠ (TX4 b).2.1 := by decide +kernel
theorem tyX4_ok : ∀ k, k < 3 → parseFieldDescriptor (TX4 k).2.2.1 = some (tyX4 k) := by decide +kernel
abbrev cX4_init : ByteArray := prog_6_method_1_code
def yX4_init : MethodName := ⟨RX4, "<init>", "()V"⟩
abbrev cX4_isMissing : ByteArray := prog_6_method_2_code
def yX4_isMissing : MethodName := ⟨RX4, "isMissing", "()Z"⟩
abbrev cX4_begin : ByteArray := prog_6_method_3_code
def yX4_begin : MethodName := ⟨RX4, "begin", "(II)V"⟩
abbrev cX4_write : ByteArray := prog_6_method_4_code
def yX4_write : MethodName := ⟨RX4, "write", "(II)V"⟩
abbrev cX4_has : ByteArray := prog_6_method_5_code
def yX4_has : MethodName := ⟨RX4, "has", "(II)Z"⟩
abbrev cX4_tellsRows : ByteArray := prog_6_method_6_code
def yX4_tellsRows : MethodName := ⟨RX4, "tellsRows", "(J)Z"⟩
def RX5 : String := "SlateKin$Tile"
def TX5 : u_T := fun k => match k with
  | 0 => ("SlateKin$Tile", "kind", "I", false)
  | 1 => ("SlateKin$Tile", "m", "I", false)
  | 2 => ("SlateKin$Tile", "wide", "I", false)
  | 3 => ("SlateKin$Tile", "nails", "I", false)
  | 4 => ("SlateKin$Tile", "leant", "I", false)
  | 5 => ("SlateKin$Tile", "age", "I", false)
  | _ => ("SlateKin$Tile", "cell", "I", false)
def tyX5 : Nat → FieldType := fun k => match k with
  | 0 => .int
  | 1 => .int
  | 2 => .int
  | 3 => .int
  | 4 => .int
  | 5 => .int
  | _ => .int
abbrev wsX50 : List Cond := u_ws RX5 TX5 7
theorem nmX5 : ∀ a, a < 7 → ∀ b, b < 7 → a ≠ b → (TX5 a).2.1 ≠ (TX5 b).2.1 := by decide +kernel
theorem tyX5_ok : ∀ k, k < 7 → parseFieldDescriptor (TX5 k).2.2.1 = some (tyX5 k) := by decide +kernel
abbrev cX5_init : ByteArray := prog_7_method_1_code
def yX5_init : MethodName := ⟨RX5, "<init>", "()V"⟩
abbrev cX5_kindAbove : ByteArray := prog_7_method_2_code
def yX5_kindAbove : MethodName := ⟨RX5, "kindAbove", "(I)I"⟩
abbrev cX5_begin : ByteArray := prog_7_method_3_code
def yX5_begin : MethodName := ⟨RX5, "begin", "(IIII)V"⟩
abbrev cX5_turn : ByteArray := prog_7_method_4_code
def yX5_turn : MethodName := ⟨RX5, "turn", "(I)V"⟩
abbrev cX5_copy : ByteArray := prog_7_method_5_code
def yX5_copy : MethodName := ⟨RX5, "copy", "(LSlateKin$Tile;)V"⟩
abbrev cX5_isUnder : ByteArray := prog_7_method_6_code
def yX5_isUnder : MethodName := ⟨RX5, "isUnder", "(I)Z"⟩
abbrev cX5_isLaid : ByteArray := prog_7_method_7_code
def yX5_isLaid : MethodName := ⟨RX5, "isLaid", "()Z"⟩
abbrev cX5_row : ByteArray := prog_7_method_8_code
def yX5_row : MethodName := ⟨RX5, "row", "()I"⟩
abbrev cX5_place : ByteArray := prog_7_method_9_code
def yX5_place : MethodName := ⟨RX5, "place", "()I"⟩
abbrev cX5_broad : ByteArray := prog_7_method_10_code
def yX5_broad : MethodName := ⟨RX5, "broad", "()I"⟩
abbrev cX5_holds : ByteArray := prog_7_method_11_code
def yX5_holds : MethodName := ⟨RX5, "holds", "(II)I"⟩
abbrev cX5_ownAt : ByteArray := prog_7_method_12_code
def yX5_ownAt : MethodName := ⟨RX5, "ownAt", "(I)J"⟩
abbrev cX5_own : ByteArray := prog_7_method_13_code
def yX5_own : MethodName := ⟨RX5, "own", "()J"⟩
def RX6 : String := "SlateKin"
def TX6 : u_T := fun k => match k with
  | 0 => ("SlateKin", "now", "LSlateKin$Roof;", true)
  | 1 => ("SlateKin", "kept", "LSlateKin$Roof;", true)
  | 2 => ("SlateKin", "timesKept", "I", false)
  | 3 => ("SlateKin", "reader", "LSlateKin$Reader;", true)
  | 4 => ("SlateKin", "choir", "LSlateKin$Choir;", true)
  | 5 => ("SlateKin", "sheets", "[LSlateKin$Sheet;", true)
  | _ => ("SlateKin", "errors", "[I", true)
def tyX6 : Nat → FieldType := fun k => match k with
  | 0 => .object "SlateKin$Roof"
  | 1 => .object "SlateKin$Roof"
  | 2 => .int
  | 3 => .object "SlateKin$Reader"
  | 4 => .object "SlateKin$Choir"
  | 5 => .array (.object "SlateKin$Sheet")
  | _ => .array .int
abbrev wsX60 : List Cond := u_ws RX6 TX6 7
theorem nmX6 : ∀ a, a < 7 → ∀ b, b < 7 → a ≠ b → (TX6 a).2.1 ≠ (TX6 b).2.1 := by decide +kernel
theorem tyX6_ok : ∀ k, k < 7 → parseFieldDescriptor (TX6 k).2.2.1 = some (tyX6 k) := by decide +kernel
abbrev cX6_init : ByteArray := prog_1_method_1_code
def yX6_init : MethodName := ⟨RX6, "<init>", "()V"⟩
abbrev cX6_slate : ByteArray := prog_1_method_2_code
def yX6_slate : MethodName := ⟨RX6, "slate", "(IIII)I"⟩
abbrev cX6_slateIs : ByteArray := prog_1_method_3_code
def yX6_slateIs : MethodName := ⟨RX6, "slateIs", "(II)I"⟩
abbrev cX6_become : ByteArray := prog_1_method_4_code
def yX6_become : MethodName := ⟨RX6, "become", "(II)I"⟩
abbrev cX6_as : ByteArray := prog_1_method_5_code
def yX6_as : MethodName := ⟨RX6, "as", "(II)I"⟩
abbrev cX6_lay : ByteArray := prog_1_method_6_code
def yX6_lay : MethodName := ⟨RX6, "lay", "(III)I"⟩
abbrev cX6_lift : ByteArray := prog_1_method_7_code
def yX6_lift : MethodName := ⟨RX6, "lift", "(I)I"⟩
abbrev cX6_nail : ByteArray := prog_1_method_8_code
def yX6_nail : MethodName := ⟨RX6, "nail", "(II)I"⟩
abbrev cX6_sells : ByteArray := prog_1_method_9_code
def yX6_sells : MethodName := ⟨RX6, "sells", "(I)I"⟩
abbrev cX6_feed : ByteArray := prog_1_method_10_code
def yX6_feed : MethodName := ⟨RX6, "feed", "(JI)I"⟩
abbrev cX6_text : ByteArray := prog_1_method_11_code
def yX6_text : MethodName := ⟨RX6, "text", "(I)I"⟩
abbrev cX6_untell : ByteArray := prog_1_method_12_code
def yX6_untell : MethodName := ⟨RX6, "untell", "(I)I"⟩
abbrev cX6_law : ByteArray := prog_1_method_13_code
def yX6_law : MethodName := ⟨RX6, "law", "(IIII)I"⟩
abbrev cX6_gale : ByteArray := prog_1_method_14_code
def yX6_gale : MethodName := ⟨RX6, "gale", "(I)I"⟩
abbrev cX6_years : ByteArray := prog_1_method_15_code
def yX6_years : MethodName := ⟨RX6, "years", "(I)I"⟩
abbrev cX6_loose : ByteArray := prog_1_method_16_code
def yX6_loose : MethodName := ⟨RX6, "loose", "(I)I"⟩
abbrev cX6_seed : ByteArray := prog_1_method_17_code
def yX6_seed : MethodName := ⟨RX6, "seed", "(I)I"⟩
abbrev cX6_dry : ByteArray := prog_1_method_18_code
def yX6_dry : MethodName := ⟨RX6, "dry", "(I)J"⟩
abbrev cX6_over : ByteArray := prog_1_method_19_code
def yX6_over : MethodName := ⟨RX6, "over", "(II)I"⟩
abbrev cX6_lifts : ByteArray := prog_1_method_20_code
def yX6_lifts : MethodName := ⟨RX6, "lifts", "(II)I"⟩
abbrev cX6_fast : ByteArray := prog_1_method_21_code
def yX6_fast : MethodName := ⟨RX6, "fast", "(II)I"⟩
abbrev cX6_best : ByteArray := prog_1_method_22_code
def yX6_best : MethodName := ⟨RX6, "best", "(II)I"⟩
abbrev cX6_rings : ByteArray := prog_1_method_23_code
def yX6_rings : MethodName := ⟨RX6, "rings", "()I"⟩
abbrev cX6_odds : ByteArray := prog_1_method_24_code
def yX6_odds : MethodName := ⟨RX6, "odds", "(II)I"⟩
abbrev cX6_fits : ByteArray := prog_1_method_25_code
def yX6_fits : MethodName := ⟨RX6, "fits", "(II)I"⟩
abbrev cX6_voice : ByteArray := prog_1_method_26_code
def yX6_voice : MethodName := ⟨RX6, "voice", "(III)I"⟩
abbrev cX6_body : ByteArray := prog_1_method_27_code
def yX6_body : MethodName := ⟨RX6, "body", "(I)I"⟩
abbrev cX6_sheet : ByteArray := prog_1_method_28_code
def yX6_sheet : MethodName := ⟨RX6, "sheet", "(III)I"⟩
abbrev cX6_put : ByteArray := prog_1_method_29_code
def yX6_put : MethodName := ⟨RX6, "put", "(III)I"⟩
abbrev cX6_move : ByteArray := prog_1_method_30_code
def yX6_move : MethodName := ⟨RX6, "move", "(IIIII)I"⟩
abbrev cX6_nailed : ByteArray := prog_1_method_31_code
def yX6_nailed : MethodName := ⟨RX6, "nailed", "(I)I"⟩
abbrev cX6_judge : ByteArray := prog_1_method_32_code
def yX6_judge : MethodName := ⟨RX6, "judge", "(I)I"⟩
abbrev cX6_image : ByteArray := prog_1_method_33_code
def yX6_image : MethodName := ⟨RX6, "image", "()I"⟩
abbrev cX6_restore : ByteArray := prog_1_method_34_code
def yX6_restore : MethodName := ⟨RX6, "restore", "()I"⟩
abbrev cX6_tell : ByteArray := prog_1_method_35_code
def yX6_tell : MethodName := ⟨RX6, "tell", "(I)I"⟩
abbrev cX6_check : ByteArray := prog_1_method_36_code
def yX6_check : MethodName := ⟨RX6, "check", "()I"⟩
abbrev cX6_count : ByteArray := prog_1_method_37_code
def yX6_count : MethodName := ⟨RX6, "count", "(I)I"⟩
abbrev cX6_told : ByteArray := prog_1_method_38_code
def yX6_told : MethodName := ⟨RX6, "told", "(I)I"⟩
abbrev cX6_error : ByteArray := prog_1_method_39_code
def yX6_error : MethodName := ⟨RX6, "error", "(I)I"⟩
abbrev cX6_isSlate : ByteArray := prog_1_method_40_code
def yX6_isSlate : MethodName := ⟨RX6, "isSlate", "(I)Z"⟩
abbrev cX6_isKindAndM : ByteArray := prog_1_method_41_code
def yX6_isKindAndM : MethodName := ⟨RX6, "isKindAndM", "(I)Z"⟩
abbrev cX6_isDigit : ByteArray := prog_1_method_42_code
def yX6_isDigit : MethodName := ⟨RX6, "isDigit", "(I)Z"⟩
abbrev cX6_isBit : ByteArray := prog_1_method_43_code
def yX6_isBit : MethodName := ⟨RX6, "isBit", "(I)Z"⟩
abbrev cX6_isUse : ByteArray := prog_1_method_44_code
def yX6_isUse : MethodName := ⟨RX6, "isUse", "(I)Z"⟩
abbrev cX6_isGale : ByteArray := prog_1_method_45_code
def yX6_isGale : MethodName := ⟨RX6, "isGale", "(I)Z"⟩
abbrev cX6_isCell : ByteArray := prog_1_method_46_code
def yX6_isCell : MethodName := ⟨RX6, "isCell", "(I)Z"⟩
abbrev cX6_isSheet : ByteArray := prog_1_method_47_code
def yX6_isSheet : MethodName := ⟨RX6, "isSheet", "(I)Z"⟩
abbrev cX6_commonDivisor : ByteArray := prog_1_method_48_code
def yX6_commonDivisor : MethodName := ⟨RX6, "commonDivisor", "(II)I"⟩
def RX7 : String := "SlateKinModel"
def TX7 : u_T := fun k => match k with
  | 0 => ("SlateKinModel", "s", "[I", true)
  | 1 => ("SlateKinModel", "kept", "[I", true)
  | 2 => ("SlateKinModel", "images", "I", false)
  | 3 => ("SlateKinModel", "errors", "[I", true)
  | 4 => ("SlateKinModel", "at", "I", false)
  | 5 => ("SlateKinModel", "open", "I", false)
  | 6 => ("SlateKinModel", "steps", "I", false)
  | 7 => ("SlateKinModel", "use", "I", false)
  | 8 => ("SlateKinModel", "step", "[I", true)
  | 9 => ("SlateKinModel", "named", "[I", true)
  | 10 => ("SlateKinModel", "pile", "[I", true)
  | 11 => ("SlateKinModel", "hold", "[I", true)
  | 12 => ("SlateKinModel", "traced", "I", false)
  | 13 => ("SlateKinModel", "trace", "[I", true)
  | 14 => ("SlateKinModel", "speaks", "I", false)
  | 15 => ("SlateKinModel", "isParted", "Z", false)
  | 16 => ("SlateKinModel", "bits", "[I", true)
  | 17 => ("SlateKinModel", "sizes", "[I", true)
  | 18 => ("SlateKinModel", "number", "[I", true)
  | _ => ("SlateKinModel", "aside", "[I", true)
def tyX7 : Nat → FieldType := fun k => match k with
  | 0 => .array .int
  | 1 => .array .int
  | 2 => .int
  | 3 => .array .int
  | 4 => .int
  | 5 => .int
  | 6 => .int
  | 7 => .int
  | 8 => .array .int
  | 9 => .array .int
  | 10 => .array .int
  | 11 => .array .int
  | 12 => .int
  | 13 => .array .int
  | 14 => .int
  | 15 => .boolean
  | 16 => .array .int
  | 17 => .array .int
  | 18 => .array .int
  | _ => .array .int
abbrev wsX70 : List Cond := u_ws RX7 TX7 20
theorem nmX7 : ∀ a, a < 20 → ∀ b, b < 20 → a ≠ b → (TX7 a).2.1 ≠ (TX7 b).2.1 := by decide +kernel
theorem tyX7_ok : ∀ k, k < 20 → parseFieldDescriptor (TX7 k).2.2.1 = some (tyX7 k) := by decide +kernel
abbrev cX7_init : ByteArray := prog_9_method_1_code
def yX7_init : MethodName := ⟨RX7, "<init>", "()V"⟩
abbrev cX7_error : ByteArray := prog_9_method_2_code
def yX7_error : MethodName := ⟨RX7, "error", "(I)I"⟩
abbrev cX7_in : ByteArray := prog_9_method_3_code
def yX7_in : MethodName := ⟨RX7, "in", "(III)Z"⟩
abbrev cX7_held : ByteArray := prog_9_method_4_code
def yX7_held : MethodName := ⟨RX7, "held", "(III)I"⟩
abbrev cX7_copyAll : ByteArray := prog_9_method_5_code
def yX7_copyAll : MethodName := ⟨RX7, "copyAll", "([I[I)V"⟩
abbrev cX7_isSlate : ByteArray := prog_9_method_6_code
def yX7_isSlate : MethodName := ⟨RX7, "isSlate", "(I)Z"⟩
abbrev cX7_its : ByteArray := prog_9_method_7_code
def yX7_its : MethodName := ⟨RX7, "its", "(II)I"⟩
abbrev cX7_lays1 : ByteArray := prog_9_method_8_code
def yX7_lays1 : MethodName := ⟨RX7, "lays1", "(III)V"⟩
abbrev cX7_change1 : ByteArray := prog_9_method_9_code
def yX7_change1 : MethodName := ⟨RX7, "change1", "(II)I"⟩
abbrev cX7_feed : ByteArray := prog_9_method_10_code
def yX7_feed : MethodName := ⟨RX7, "feed", "(JI)I"⟩
abbrev cX7_look : ByteArray := prog_9_method_11_code
def yX7_look : MethodName := ⟨RX7, "look", "()I"⟩
abbrev cX7_isName : ByteArray := prog_9_method_12_code
def yX7_isName : MethodName := ⟨RX7, "isName", "(I)Z"⟩
abbrev cX7_step1 : ByteArray := prog_9_method_13_code
def yX7_step1 : MethodName := ⟨RX7, "step1", "(II)V"⟩
abbrev cX7_whole : ByteArray := prog_9_method_14_code
def yX7_whole : MethodName := ⟨RX7, "whole", "()Z"⟩
abbrev cX7_both : ByteArray := prog_9_method_15_code
def yX7_both : MethodName := ⟨RX7, "both", "()Z"⟩
abbrev cX7_compared : ByteArray := prog_9_method_16_code
def yX7_compared : MethodName := ⟨RX7, "compared", "()Z"⟩
abbrev cX7_sum : ByteArray := prog_9_method_17_code
def yX7_sum : MethodName := ⟨RX7, "sum", "()Z"⟩
abbrev cX7_product : ByteArray := prog_9_method_18_code
def yX7_product : MethodName := ⟨RX7, "product", "()Z"⟩
abbrev cX7_opens : ByteArray := prog_9_method_19_code
def yX7_opens : MethodName := ⟨RX7, "opens", "()Z"⟩
abbrev cX7_one : ByteArray := prog_9_method_20_code
def yX7_one : MethodName := ⟨RX7, "one", "()Z"⟩
abbrev cX7_hasText : ByteArray := prog_9_method_21_code
def yX7_hasText : MethodName := ⟨RX7, "hasText", "(I)Z"⟩
abbrev cX7_text : ByteArray := prog_9_method_22_code
def yX7_text : MethodName := ⟨RX7, "text", "(I)I"⟩
abbrev cX7_untell : ByteArray := prog_9_method_23_code
def yX7_untell : MethodName := ⟨RX7, "untell", "(I)I"⟩
abbrev cX7_joined : ByteArray := prog_9_method_24_code
def yX7_joined : MethodName := ⟨RX7, "joined", "(III)I"⟩
abbrev cX7_worked : ByteArray := prog_9_method_25_code
def yX7_worked : MethodName := ⟨RX7, "worked", "(I)I"⟩
abbrev cX7_broad : ByteArray := prog_9_method_26_code
def yX7_broad : MethodName := ⟨RX7, "broad", "(I)I"⟩
abbrev cX7_holdsOf : ByteArray := prog_9_method_27_code
def yX7_holdsOf : MethodName := ⟨RX7, "holdsOf", "(I)I"⟩
abbrev cX7_holdTold : ByteArray := prog_9_method_28_code
def yX7_holdTold : MethodName := ⟨RX7, "holdTold", "(III)I"⟩
abbrev cX7_dropTold : ByteArray := prog_9_method_29_code
def yX7_dropTold : MethodName := ⟨RX7, "dropTold", "(III)I"⟩
abbrev cX7_holdOf : ByteArray := prog_9_method_30_code
def yX7_holdOf : MethodName := ⟨RX7, "holdOf", "(II)I"⟩
abbrev cX7_ownAt : ByteArray := prog_9_method_31_code
def yX7_ownAt : MethodName := ⟨RX7, "ownAt", "(II)J"⟩
abbrev cX7_own : ByteArray := prog_9_method_32_code
def yX7_own : MethodName := ⟨RX7, "own", "(I)J"⟩
abbrev cX7_covers : ByteArray := prog_9_method_33_code
def yX7_covers : MethodName := ⟨RX7, "covers", "(I)J"⟩
abbrev cX7_drySet : ByteArray := prog_9_method_34_code
def yX7_drySet : MethodName := ⟨RX7, "drySet", "()J"⟩
abbrev cX7_bitsOf : ByteArray := prog_9_method_35_code
def yX7_bitsOf : MethodName := ⟨RX7, "bitsOf", "(J)I"⟩
abbrev cX7_mayLie : ByteArray := prog_9_method_36_code
def yX7_mayLie : MethodName := ⟨RX7, "mayLie", "(II)Z"⟩
abbrev cX7_findHolds : ByteArray := prog_9_method_37_code
def yX7_findHolds : MethodName := ⟨RX7, "findHolds", "(I)V"⟩
abbrev cX7_liftedBy : ByteArray := prog_9_method_38_code
def yX7_liftedBy : MethodName := ⟨RX7, "liftedBy", "(II)I"⟩
abbrev cX7_galeNow : ByteArray := prog_9_method_39_code
def yX7_galeNow : MethodName := ⟨RX7, "galeNow", "(I)I"⟩
abbrev cX7_dryBehind : ByteArray := prog_9_method_40_code
def yX7_dryBehind : MethodName := ⟨RX7, "dryBehind", "(I)J"⟩
abbrev cX7_aYear : ByteArray := prog_9_method_41_code
def yX7_aYear : MethodName := ⟨RX7, "aYear", "()V"⟩
abbrev cX7_draw : ByteArray := prog_9_method_42_code
def yX7_draw : MethodName := ⟨RX7, "draw", "()I"⟩
abbrev cX7_isKind : ByteArray := prog_9_method_43_code
def yX7_isKind : MethodName := ⟨RX7, "isKind", "(I)Z"⟩
abbrev cX7_slate : ByteArray := prog_9_method_44_code
def yX7_slate : MethodName := ⟨RX7, "slate", "(IIII)I"⟩
abbrev cX7_slateIs : ByteArray := prog_9_method_45_code
def yX7_slateIs : MethodName := ⟨RX7, "slateIs", "(II)I"⟩
abbrev cX7_become : ByteArray := prog_9_method_46_code
def yX7_become : MethodName := ⟨RX7, "become", "(II)I"⟩
abbrev cX7_as : ByteArray := prog_9_method_47_code
def yX7_as : MethodName := ⟨RX7, "as", "(II)I"⟩
abbrev cX7_lay : ByteArray := prog_9_method_48_code
def yX7_lay : MethodName := ⟨RX7, "lay", "(III)I"⟩
abbrev cX7_lift : ByteArray := prog_9_method_49_code
def yX7_lift : MethodName := ⟨RX7, "lift", "(I)I"⟩
abbrev cX7_nail : ByteArray := prog_9_method_50_code
def yX7_nail : MethodName := ⟨RX7, "nail", "(II)I"⟩
abbrev cX7_sells : ByteArray := prog_9_method_51_code
def yX7_sells : MethodName := ⟨RX7, "sells", "(I)I"⟩
abbrev cX7_law : ByteArray := prog_9_method_52_code
def yX7_law : MethodName := ⟨RX7, "law", "(IIII)I"⟩
abbrev cX7_isGale : ByteArray := prog_9_method_53_code
def yX7_isGale : MethodName := ⟨RX7, "isGale", "(I)Z"⟩
abbrev cX7_gale : ByteArray := prog_9_method_54_code
def yX7_gale : MethodName := ⟨RX7, "gale", "(I)I"⟩
abbrev cX7_whyNot : ByteArray := prog_9_method_55_code
def yX7_whyNot : MethodName := ⟨RX7, "whyNot", "(II)I"⟩
abbrev cX7_years : ByteArray := prog_9_method_56_code
def yX7_years : MethodName := ⟨RX7, "years", "(I)I"⟩
abbrev cX7_loose : ByteArray := prog_9_method_57_code
def yX7_loose : MethodName := ⟨RX7, "loose", "(I)I"⟩
abbrev cX7_seed : ByteArray := prog_9_method_58_code
def yX7_seed : MethodName := ⟨RX7, "seed", "(I)I"⟩
abbrev cX7_dry : ByteArray := prog_9_method_59_code
def yX7_dry : MethodName := ⟨RX7, "dry", "(I)J"⟩
abbrev cX7_coveredBy : ByteArray := prog_9_method_60_code
def yX7_coveredBy : MethodName := ⟨RX7, "coveredBy", "(JI)I"⟩
abbrev cX7_over : ByteArray := prog_9_method_61_code
def yX7_over : MethodName := ⟨RX7, "over", "(II)I"⟩
abbrev cX7_lifts : ByteArray := prog_9_method_62_code
def yX7_lifts : MethodName := ⟨RX7, "lifts", "(II)I"⟩
abbrev cX7_fast : ByteArray := prog_9_method_63_code
def yX7_fast : MethodName := ⟨RX7, "fast", "(II)I"⟩
abbrev cX7_best : ByteArray := prog_9_method_64_code
def yX7_best : MethodName := ⟨RX7, "best", "(II)I"⟩
abbrev cX7_isBeside : ByteArray := prog_9_method_65_code
def yX7_isBeside : MethodName := ⟨RX7, "isBeside", "(II)Z"⟩
abbrev cX7_rings : ByteArray := prog_9_method_66_code
def yX7_rings : MethodName := ⟨RX7, "rings", "()I"⟩
abbrev cX7_divisor : ByteArray := prog_9_method_67_code
def yX7_divisor : MethodName := ⟨RX7, "divisor", "(II)I"⟩
abbrev cX7_odds : ByteArray := prog_9_method_68_code
def yX7_odds : MethodName := ⟨RX7, "odds", "(II)I"⟩
abbrev cX7_fits : ByteArray := prog_9_method_69_code
def yX7_fits : MethodName := ⟨RX7, "fits", "(II)I"⟩
abbrev cX7_starts : ByteArray := prog_9_method_70_code
def yX7_starts : MethodName := ⟨RX7, "starts", "(I)V"⟩
abbrev cX7_above : ByteArray := prog_9_method_71_code
def yX7_above : MethodName := ⟨RX7, "above", "(I)I"⟩
abbrev cX7_kindNow : ByteArray := prog_9_method_72_code
def yX7_kindNow : MethodName := ⟨RX7, "kindNow", "()I"⟩
abbrev cX7_mNow : ByteArray := prog_9_method_73_code
def yX7_mNow : MethodName := ⟨RX7, "mNow", "()I"⟩
abbrev cX7_dripsAs : ByteArray := prog_9_method_74_code
def yX7_dripsAs : MethodName := ⟨RX7, "dripsAs", "(II)I"⟩
abbrev cX7_ringsAs : ByteArray := prog_9_method_75_code
def yX7_ringsAs : MethodName := ⟨RX7, "ringsAs", "(II)I"⟩
abbrev cX7_creaksAs : ByteArray := prog_9_method_76_code
def yX7_creaksAs : MethodName := ⟨RX7, "creaksAs", "(II)I"⟩
abbrev cX7_partsAs : ByteArray := prog_9_method_77_code
def yX7_partsAs : MethodName := ⟨RX7, "partsAs", "(II)I"⟩
abbrev cX7_voice : ByteArray := prog_9_method_78_code
def yX7_voice : MethodName := ⟨RX7, "voice", "(III)I"⟩
abbrev cX7_body : ByteArray := prog_9_method_79_code
def yX7_body : MethodName := ⟨RX7, "body", "(I)I"⟩
abbrev cX7_isSheet : ByteArray := prog_9_method_80_code
def yX7_isSheet : MethodName := ⟨RX7, "isSheet", "(I)Z"⟩
abbrev cX7_sheet : ByteArray := prog_9_method_81_code
def yX7_sheet : MethodName := ⟨RX7, "sheet", "(III)I"⟩
abbrev cX7_put : ByteArray := prog_9_method_82_code
def yX7_put : MethodName := ⟨RX7, "put", "(III)I"⟩
abbrev cX7_move : ByteArray := prog_9_method_83_code
def yX7_move : MethodName := ⟨RX7, "move", "(IIIII)I"⟩
abbrev cX7_lacks : ByteArray := prog_9_method_84_code
def yX7_lacks : MethodName := ⟨RX7, "lacks", "(I)I"⟩
abbrev cX7_nailed : ByteArray := prog_9_method_85_code
def yX7_nailed : MethodName := ⟨RX7, "nailed", "(I)I"⟩
abbrev cX7_judge : ByteArray := prog_9_method_86_code
def yX7_judge : MethodName := ⟨RX7, "judge", "(I)I"⟩
abbrev cX7_image : ByteArray := prog_9_method_87_code
def yX7_image : MethodName := ⟨RX7, "image", "()I"⟩
abbrev cX7_restore : ByteArray := prog_9_method_88_code
def yX7_restore : MethodName := ⟨RX7, "restore", "()I"⟩
abbrev cX7_tell : ByteArray := prog_9_method_89_code
def yX7_tell : MethodName := ⟨RX7, "tell", "(I)I"⟩
abbrev cX7_check : ByteArray := prog_9_method_90_code
def yX7_check : MethodName := ⟨RX7, "check", "()I"⟩
abbrev cX7_count : ByteArray := prog_9_method_91_code
def yX7_count : MethodName := ⟨RX7, "count", "(I)I"⟩
abbrev cX7_told : ByteArray := prog_9_method_92_code
def yX7_told : MethodName := ⟨RX7, "told", "(I)I"⟩
def RJ6 : String := "java/lang/Integer"
abbrev cJ6_numberOfTrailingZeros_0f7a4 : ByteArray := prog_10_method_48_code
def yJ6_numberOfTrailingZeros_0f7a4 : MethodName := ⟨RJ6, "numberOfTrailingZeros", "(I)I"⟩
abbrev cJ6_bitCount_0f7a4 : ByteArray := prog_10_method_49_code
def yJ6_bitCount_0f7a4 : MethodName := ⟨RJ6, "bitCount", "(I)I"⟩
def RJ13 : String := "java/lang/Long"
abbrev cJ13_numberOfTrailingZeros_95d88 : ByteArray := prog_11_method_49_code
def yJ13_numberOfTrailingZeros_95d88 : MethodName := ⟨RJ13, "numberOfTrailingZeros", "(J)I"⟩
abbrev cJ13_bitCount_95d88 : ByteArray := prog_11_method_50_code
def yJ13_bitCount_95d88 : MethodName := ⟨RJ13, "bitCount", "(J)I"⟩
def RJ9 : String := "java/lang/Math"
abbrev cJ9_max_7cf53 : ByteArray := prog_12_method_65_code
def yJ9_max_7cf53 : MethodName := ⟨RJ9, "max", "(II)I"⟩
abbrev cJ9_min_7cf53 : ByteArray := prog_12_method_69_code
def yJ9_min_7cf53 : MethodName := ⟨RJ9, "min", "(II)I"⟩
def RJ10 : String := "java/lang/System"
def RL : String := "SlateKinLaw"
abbrev cL_law : ByteArray := code
def yL_law : MethodName := ⟨RL, "law", "([I)Z"⟩
abbrev vwCl : List vw_C := [(RX0, TX0, 6), (RX1, TX1, 5), (RX2, TX2, 6), (RX3, TX3, 11), (RX4, TX4, 3), (RX5, TX5, 7), (RX6, TX6, 7), (RX7, TX7, 20)]
end
section
/-! ===== a pure judgement over the machine: a world of cells 0, 1, .. of fixed shapes, their numbers τ; references are places ===== -/
def sk_ALL : List Cond := lw_tbl.filter goodWord
theorem sk_tin {w : Cond} (i : Nat) (h : tables_1[i]? = some w) (hg : goodWord w = true) : w ∈ sk_ALL := by
  unfold sk_ALL lw_tbl
  exact List.mem_filter.mpr ⟨List.mem_append_right _ (List.mem_of_getElem? h), hg⟩
theorem sk_sin {w : Cond} (i : Nat) (h : (k2_sels lw_privs)[i]? = some w) (hg : goodWord w = true) : w ∈ sk_ALL := by
  unfold sk_ALL lw_tbl
  exact List.mem_filter.mpr ⟨List.mem_append_left _ (List.mem_of_getElem? h), hg⟩
theorem sk_good : ∀ w ∈ sk_ALL, goodWord w = true := fun w h => (List.mem_filter.mp h).2
theorem sk_goodIn : GoodIn sk_ALL sk_ALL := fun w h => ⟨h, good_of_word (sk_good w h)⟩
theorem sk_in_tbl : ∀ w ∈ sk_ALL, w ∈ lw_tbl := fun w h => (List.mem_filter.mp h).1
def sk_isN (w : Cond) : Bool := match w with
  | .fieldLinkNest .. => true
  | .methodLinkNest .. => true
  | _ => false
/-- the links between nest mates -/
def sk_NL : List Cond := tables_1.filter sk_isN
theorem sk_nin {w : Cond} (i : Nat) (h : tables_1[i]? = some w) (hg : sk_isN w = true) : w ∈ sk_NL := List.mem_filter.mpr ⟨List.mem_of_getElem? h, hg⟩
def sk_NW (U : State) : Prop := ∀ w ∈ sk_NL, va_Nw w U
theorem sk_isN_tab {w : Cond} (h : sk_isN w = true) : w.onTables = true := by
  cases w <;> first | rfl | (simp [sk_isN] at h)
theorem sk_NW.same {u U : State} (h : u.vm = U.vm) (hZ : sk_NW u) : sk_NW U := fun w hw => (hZ w hw).same (sk_isN_tab (List.mem_filter.mp hw).2) h
theorem sk_NW.warm {s U : State} (hW : s.WarmedH U.vm) (hZ : sk_NW s) : sk_NW U := by
  intro w hw
  have h1 := hZ w hw
  have h2 := (List.mem_filter.mp hw).2
  cases w <;> first | exact va_Nw.warmF hW h1 | exact va_Nw.warmM hW h1 | (simp [sk_isN] at h2)
theorem sk_NW.of {args : Array Value} {s : State} (h : ∀ w ∈ tables_1, w.before args s = true) : sk_NW s := fun w hw => va_Nw.of (sk_isN_tab (List.mem_filter.mp hw).2) (h w (List.mem_filter.mp hw).1)
abbrev sk_T : Type := Nat → Nat → Int32
abbrev sk_Sh : Type := Nat × Nat × List Nat
abbrev sk_M : Type := MethodName × ByteArray × Nat × Option FieldType
abbrev sk_K : Type := Option Value → sk_T → Prop
abbrev sk_L : Type := List (Nat × Value)
/-- cell a becomes f -/
def sk_w (τ : sk_T) (a : Nat) (f : Nat → Int32) : sk_T := fun b => if b = a then f else τ b
/-- number j of cell a becomes x -/
def sk_u (τ : sk_T) (a j : Nat) (x : Int32) : sk_T := sk_w τ a (upd (τ a) j x)
def sk_vm (ad : Nat → Nat) : Value → Value
  | .ref k => .ref (ad k)
  | v => v
def sk_lm (ad : Nat → Nat) (l : sk_L) : sk_L := l.map (fun q => (q.1, sk_vm ad q.2))
def sk_v (ad : Nat → Nat) (x : Int32) (c : Nat) : Value := match c with
  | 0 => .int x
  | 1 => .int (x &&& 1)
  | r + 2 => .ref (ad r)
def sk_fs (ad : Nat → Nat) (f : Nat → Int32) : List Nat → Nat → List Value
  | [], _ => []
  | c :: cs, j => sk_v ad (f j) c :: sk_fs ad f cs (j + 1)
/-- what a cell of a shape holds: (0, class, slots: 0 int, 1 boolean, r + 2 the cell r); (1, n) ints; (2, n) bytes; (3, 4, 5: tiles, laws, sheets; n; which cells) -/
def sk_e (ad : Nat → Nat) (cA : Nat → ClassId) (f : Nat → Int32) (h : sk_Sh) : va_E := match h with
  | (0, ci, cs) => .inr (ci, sk_fs ad f cs 0)
  | (1, n, _) => .inl (cA 0, n, .inl f)
  | (2, n, _) => .inl (cA 1, n, .inl (fun j => vp_nar .byte (f j)))
  | (t + 3, n, rs) => .inl (cA (t + 2), n, .inr (.inr (.inr (.inr (fun j => (rs[j]?).map ad)))))
def sk_wl (S : List sk_Sh) (ad : Nat → Nat) (cA : Nat → ClassId) (τ : sk_T) : va_W := S.mapIdx (fun k h => (ad k, sk_e ad cA (τ k) h))
def sk_tys (cA : Nat → ClassId) : List (ClassId × FieldType) := [(cA 0, .int), (cA 1, .byte), (cA 2, .object "SlateKin$Tile"), (cA 3, .object "SlateKin$Law"), (cA 4, .object "SlateKin$Sheet")]
def sk_above (j : Nat) : Int32 := ([-1, 0, 0, 0, 1, 2, 0] : List Int32).getD j 0
def sk_names (j : Nat) : Int32 := ([104, 110, 103, 114, 99, 121] : List Int32).getD j 0
def sk_bodies (j : Nat) : Int32 := ([10, 11, 12, 13, 20, 0, 0, 21, 0, 30, 0, 0, 0, 0, 40, 0, 50, 0, 51, 0, 0, 60, 0, 0, 70, 71, 0, 0] : List Int32).getD j 0
/-- the three static rows: at places 1000, 1001, 1002; nobody writes them -/
def sk_Ro (ad : Nat → Nat) (A : Nat → Prop) (U : State) (H : Heap) : Prop :=
  (va_Z "SlateKin$Tile" "ABOVE" "[I" (.ref (ad 1000)) A U H ∧ va_T .int (ad 1000) 7 (fun j => .int (sk_above j)) A U H) ∧
  (va_Z "SlateKin$Reader" "NAMES" "[C" (.ref (ad 1001)) A U H ∧ va_T .char (ad 1001) 6 (fun j => .int (sk_names j)) A U H) ∧
  (va_Z "SlateKin$Choir" "BODIES" "[I" (.ref (ad 1002)) A U H ∧ va_T .int (ad 1002) 28 (fun j => .int (sk_bodies j)) A U H)
theorem sk_Ro.moved {ad : Nat → Nat} {A : Nat → Prop} {u U : State} {H : Heap} (hvm : u.vm.Alike U.vm) (h : sk_Ro ad A u H) : sk_Ro ad A U H :=
  ⟨⟨h.1.1.moved hvm, h.1.2.moved hvm⟩, ⟨h.2.1.1.moved hvm, h.2.1.2.moved hvm⟩, ⟨h.2.2.1.moved hvm, h.2.2.2.moved hvm⟩⟩
theorem sk_Ro.kept {ad : Nat → Nat} {A : Nat → Prop} {U : State} {H H1 : Heap} (h : sk_Ro ad A U H) (hq : ∀ a : Nat, a < H.size → ¬ A a → H1[a]? = H[a]?) : sk_Ro ad A U H1 :=
  ⟨⟨h.1.1.kept hq, h.1.2.kept hq⟩, ⟨h.2.1.1.kept hq, h.2.1.2.kept hq⟩, ⟨h.2.2.1.kept hq, h.2.2.2.kept hq⟩⟩
def sk_Wd (S : List sk_Sh) (ad : Nat → Nat) (cA : Nat → ClassId) (D : va_G) (A : Nat → Prop) (τ : sk_T) (U : State) : Prop :=
  va_P D vwCl (sk_wl S ad cA τ) U.heap ∧ va_K D vwCl (sk_tys cA) U ∧ va_D A (sk_wl S ad cA τ) ∧ sk_Ro ad A U U.heap
def sk_Qc (S : List sk_Sh) (ad : Nat → Nat) (cA : Nat → ClassId) (D : va_G) (A : Nat → Prop) (K : sk_K) : Array Value → State → Outcome → State → Prop :=
  fun _ st o t => ∃ (v : Option Value) (τ : sk_T), o = .returned (v.map (sk_vm ad)) ∧ K v τ ∧ sk_Wd S ad cA D A τ t ∧ va_F A st t
def sk_ws (M : sk_M) : List Cond := .code M.1 M.2.1 M.2.2.1 M.2.2.2 :: sk_ALL
def sk_rm (d : Nat) : Room := { frames := d, cells := 0, slots := 0, locals := 40 * d }
/-- a method called with these arguments in this world comes back, and K holds of its answer and the world then -/
def sk_C (S : List sk_Sh) (d : Nat) (M : sk_M) (vs : List Value) (τ : sk_T) (K : sk_K) : Prop :=
  ∀ (l : Launch) (ad : Nat → Nat) (cA : Nat → ClassId) (D : va_G) (A : Nat → Prop), Met l M.1 (sk_ws M) (sk_rm d) (va_Pc (vs.map (sk_vm ad)) (fun U => sk_Wd S ad cA D A τ U ∧ sk_NW U)) (sk_Qc S ad cA D A K) 0 0 A
def sk_X (S : List sk_Sh) (M : sk_M) (p : Program) (s : State) (m : MethodId) (args : Array Value) (meth : Method) (c : Code) (H : Heap) (locs : List Loc) (ls : Array Slot) (ad : Nat → Nat) (cA : Nat → ClassId) (D : va_G) (A : Nat → Prop) (lv : sk_L) (τ : sk_T) : Prop :=
  p.tables.exec = Jvm.exec ∧ c.code = M.2.1 ∧ c.maxLocals = M.2.2.1 ∧ meth.sig.returnType = M.2.2.2 ∧ meth.locks = false ∧ s.vm.findClass M.1.cls = some m.cls ∧ (∀ w ∈ sk_ALL, w.before args s = true) ∧
  va_P D vwCl (sk_wl S ad cA τ) H ∧ va_K D vwCl (sk_tys cA) s ∧ va_D A (sk_wl S ad cA τ) ∧ va_S A s.heap H locs ∧ (sk_Ro ad A s s.heap ∧ sk_NW s) ∧ lv_has ls M.2.2.1 (sk_lm ad lv)
/-- from here on (pc, locals, operands, numbers) the method comes to its end, and K holds then -/
def sk_G (S : List sk_Sh) (d : Nat) (M : sk_M) (pc : Nat) (lv : sk_L) (st : List Value) (τ : sk_T) (K : sk_K) : Prop :=
  ∀ (p : Program) (l : Launch) (e : Env) (s : State) (m : MethodId) (args : Array Value) (below : List Frame) (meth : Method) (c : Code) (H : Heap) (locs : List Loc) (ls : Array Slot) (ad : Nat → Nat) (cA : Nat → ClassId) (D : va_G) (A : Nat → Prop),
    sk_X S M p s m args meth c H locs ls ad cA D A lv τ → W p l e (sk_rm d) s m args below meth c H locs 0 0 (MQ below (sk_Qc S ad cA D A K) args s 0 0 A) (F0 m pc ls (st.map (sk_vm ad)))
/-- what is known of a method -/
def sk_MF (M : sk_M) (n : Nat) : Prop := Cond.code M.1 M.2.1 M.2.2.1 M.2.2.2 ∈ sk_ALL ∧ Cond.initialized M.1.cls ∈ sk_ALL ∧ plainName M.1.cls = true ∧ M.1.cls ≠ "java/lang/invoke/MethodHandle" ∧ M.1.cls ≠ "java/lang/invoke/VarHandle" ∧ (parseMethodDescriptor M.1.desc).map (fun d => d.parameters.length) = some n ∧ M.2.2.1 ≤ 21
/-- a field: slot k of class ci, named in class own's pool at idx -/
def sk_LF (own : String) (idx ci k : Nat) : Prop := ∃ (C : String) (T : u_T) (N : Nat), vwCl[ci]? = some (C, T, N) ∧ k < N ∧ (∀ w ∈ u_ws C T N, w ∈ sk_ALL) ∧ (Cond.fieldLink own idx (T k).1 (T k).2.1 (T k).2.2.1 ∈ sk_ALL ∨ ∃ host, Cond.fieldLinkNest own idx (T k).1 (T k).2.1 (T k).2.2.1 host ∈ sk_NL)
/-- .. that may be written, of a type -/
def sk_LP (own : String) (idx ci k : Nat) (ty : FieldType) : Prop := ∃ (C : String) (T : u_T) (N : Nat), vwCl[ci]? = some (C, T, N) ∧ k < N ∧ (∀ w ∈ u_ws C T N, w ∈ sk_ALL) ∧ (Cond.fieldLink own idx (T k).1 (T k).2.1 (T k).2.2.1 ∈ sk_ALL ∨ ∃ host, Cond.fieldLinkNest own idx (T k).1 (T k).2.1 (T k).2.2.1 host ∈ sk_NL) ∧
  (∃ ty0 : Nat → FieldType, ∀ k, k < N → parseFieldDescriptor (T k).2.2.1 = some (ty0 k)) ∧ (∀ a, a < N → ∀ b, b < N → a ≠ b → (T a).2.1 ≠ (T b).2.1) ∧ (T k).2.2.2 = false ∧ parseFieldDescriptor (T k).2.2.1 = some ty
theorem sk_vm_cat (ad : Nat → Nat) (v : Value) : (sk_vm ad v).category = v.category := by cases v <;> rfl
theorem sk_wl_at {S : List sk_Sh} {ad : Nat → Nat} {cA : Nat → ClassId} {τ : sk_T} {k : Nat} {h : sk_Sh} (hs : S[k]? = some h) : (sk_wl S ad cA τ)[k]? = some (ad k, sk_e ad cA (τ k) h) := by
  unfold sk_wl
  rw [List.getElem?_mapIdx, hs]; rfl
theorem sk_wl_set {S : List sk_Sh} {ad : Nat → Nat} {cA : Nat → ClassId} {τ : sk_T} {k : Nat} {h : sk_Sh} (hs : S[k]? = some h) (f : Nat → Int32) : (sk_wl S ad cA τ).set k (ad k, sk_e ad cA f h) = sk_wl S ad cA (sk_w τ k f) := by
  apply List.ext_getElem?
  intro i
  unfold sk_wl
  rw [List.getElem?_set, List.getElem?_mapIdx, List.getElem?_mapIdx, List.length_mapIdx]
  have hk : k < S.length := (List.getElem?_eq_some_iff.mp hs).1
  by_cases e : k = i
  · subst e
    rw [if_pos rfl, if_pos hk, hs]
    simp [sk_w]
  · rw [if_neg e]
    have e2 : ¬ i = k := fun z => e z.symm
    simp [sk_w, e2]
theorem sk_fs_at {ad : Nat → Nat} {f : Nat → Int32} : ∀ {cs : List Nat} {j i c : Nat}, cs[j]? = some c → (sk_fs ad f cs i)[j]? = some (sk_v ad (f (i + j)) c)
  | [], j, i, c, h => by simp at h
  | c0 :: cs, 0, i, c, h => by simp at h; subst h; rfl
  | c0 :: cs, j + 1, i, c, h => by
    have h2 := sk_fs_at (ad := ad) (f := f) (cs := cs) (j := j) (i := i + 1) (c := c) (by simpa using h)
    rw [show i + 1 + j = i + (j + 1) by omega] at h2
    simpa [sk_fs] using h2
theorem sk_fs_len {ad : Nat → Nat} {f : Nat → Int32} : ∀ {cs : List Nat} {i : Nat}, (sk_fs ad f cs i).length = cs.length
  | [], i => rfl
  | c0 :: cs, i => by simp [sk_fs, sk_fs_len]
theorem sk_fs_low {ad : Nat → Nat} {f : Nat → Int32} {k : Nat} {x : Int32} : ∀ {cs : List Nat} {i : Nat}, k < i → sk_fs ad (upd f k x) cs i = sk_fs ad f cs i
  | [], i, _ => rfl
  | c0 :: cs, i, h => by
    have e : ¬ i = k := by omega
    simp [sk_fs, upd, e]
    exact sk_fs_low (by omega)
theorem sk_fs_set {ad : Nat → Nat} {f : Nat → Int32} {x : Int32} {v : Value} : ∀ {cs : List Nat} {j i c : Nat}, cs[j]? = some c → sk_v ad x c = v → (sk_fs ad f cs i).set j v = sk_fs ad (upd f (i + j) x) cs i
  | [], j, i, c, h, _ => by simp at h
  | c0 :: cs, 0, i, c, h, hv => by
    simp at h; subst h
    simp only [sk_fs, List.set_cons_zero, Nat.add_zero]
    rw [show upd f i x i = x by simp [upd], hv, sk_fs_low (Nat.lt_succ_self i)]
  | c0 :: cs, j + 1, i, c, h, hv => by
    have h2 := sk_fs_set (ad := ad) (f := f) (x := x) (v := v) (cs := cs) (j := j) (i := i + 1) (c := c) (by simpa using h) hv
    rw [show i + 1 + j = i + (j + 1) by omega] at h2
    simp only [sk_fs, List.set_cons_succ]
    rw [h2]
    have e : ¬ i = i + (j + 1) := by omega
    simp [upd, e]
theorem sk_lm_at {ad : Nat → Nat} {l : sk_L} {ls : Array Slot} {nL k i : Nat} {v : Value} (h : lv_has ls nL (sk_lm ad l)) (hk : l[k]? = some (i, v)) : ls[i]? = some (.val (sk_vm ad v)) :=
  lv_at h k (by unfold sk_lm; rw [List.getElem?_map, hk]; rfl)
theorem sk_lm_filter {ad : Nat → Nat} {P : Nat → Nat → Bool} (l : sk_L) : (sk_lm ad l).filter (fun q => P q.1 q.2.category) = sk_lm ad (l.filter (fun q => P q.1 q.2.category)) := by
  unfold sk_lm
  rw [List.filter_map]
  congr 1
  apply List.filter_congr
  intro q _
  simp [sk_vm_cat]
/-- a category 1 value put into local i -/
def sk_st1 (l : sk_L) (i : Nat) (v : Value) : sk_L := (i, v) :: l.filter (fun q => !(q.1 == i) && !(q.1 + 1 == i && q.2.category == 2))
def sk_st2 (l : sk_L) (i : Nat) (v : Value) : sk_L := (i, v) :: l.filter (fun q => !(q.1 == i) && (!(q.1 == i + 1) && !(q.1 + 1 == i && q.2.category == 2)))
theorem sk_st1_m {ad : Nat → Nat} (l : sk_L) (i : Nat) (v : Value) : (i, sk_vm ad v) :: (sk_lm ad l).filter (fun q => !(q.1 == i) && !(q.1 + 1 == i && q.2.category == 2)) = sk_lm ad (sk_st1 l i v) := by
  rw [sk_lm_filter (P := fun a b => !(a == i) && !(a + 1 == i && b == 2))]; rfl
theorem sk_st2_m {ad : Nat → Nat} (l : sk_L) (i : Nat) (v : Value) : (i, sk_vm ad v) :: (sk_lm ad l).filter (fun q => !(q.1 == i) && (!(q.1 == i + 1) && !(q.1 + 1 == i && q.2.category == 2))) = sk_lm ad (sk_st2 l i v) := by
  rw [sk_lm_filter (P := fun a b => !(a == i) && (!(a == i + 1) && !(a + 1 == i && b == 2)))]; rfl
theorem sk_args_m {ad : Nat → Nat} : ∀ (vs : List Value) (i : Nat), lv_args i (vs.map (sk_vm ad)) = sk_lm ad (lv_args i vs)
  | [], i => rfl
  | v :: vs, i => by
    show (i, sk_vm ad v) :: lv_args (if (sk_vm ad v).category = 2 then i + 2 else i + 1) (vs.map (sk_vm ad)) = _
    rw [sk_vm_cat, sk_args_m vs]; rfl
theorem sk_sl_len {ad : Nat → Nat} : ∀ (vs : List Value), (lg_sl (vs.map (sk_vm ad))).length = (lg_sl vs).length
  | [] => rfl
  | v :: vs => by
    have ih := sk_sl_len (ad := ad) vs
    unfold lg_sl at ih ⊢
    simp only [List.map_cons, List.flatMap_cons, List.length_append, sk_vm_cat, ih]
    split <;> rfl
theorem sk_cat_m {ad : Nat → Nat} (vs : List Value) : ((vs.map (sk_vm ad)).map fun v => v.category).sum = (vs.map fun v => v.category).sum := by
  rw [List.map_map]
  congr 1
  apply List.map_congr_left
  intro v _
  exact sk_vm_cat ad v
section
variable {S : List sk_Sh} {d : Nat} {M : sk_M} {pc : Nat} {lv : sk_L} {st : List Value} {τ : sk_T} {K : sk_K}

theorem sk_iadd {x y : Int32} (pc2 : Nat) (hd : decode M.2.1 pc = .ok (.iadd, 1)) (hp : pc + 1 = pc2) (k : sk_G S d M pc2 lv (.int (x + y) :: st) τ K) : sk_G S d M pc lv (.int y :: .int x :: st) τ K := by
  subst hp
  intro p l e s m args below meth c H locs ls ad cA D A X
  obtain ⟨hx, hb, hml, hr, hlk, hown, hts, hP, hK, hD, hS, hR, hl⟩ := id X
  have k := k p l e s m args below meth c H locs ls ad cA D A X
  exact lv_iadd hx hb hd k

theorem sk_isub {x y : Int32} (pc2 : Nat) (hd : decode M.2.1 pc = .ok (.isub, 1)) (hp : pc + 1 = pc2) (k : sk_G S d M pc2 lv (.int (x - y) :: st) τ K) : sk_G S d M pc lv (.int y :: .int x :: st) τ K := by
  subst hp
  intro p l e s m args below meth c H locs ls ad cA D A X
  obtain ⟨hx, hb, hml, hr, hlk, hown, hts, hP, hK, hD, hS, hR, hl⟩ := id X
  have k := k p l e s m args below meth c H locs ls ad cA D A X
  exact lv_isub hx hb hd k

theorem sk_imul {x y : Int32} (pc2 : Nat) (hd : decode M.2.1 pc = .ok (.imul, 1)) (hp : pc + 1 = pc2) (k : sk_G S d M pc2 lv (.int (x * y) :: st) τ K) : sk_G S d M pc lv (.int y :: .int x :: st) τ K := by
  subst hp
  intro p l e s m args below meth c H locs ls ad cA D A X
  obtain ⟨hx, hb, hml, hr, hlk, hown, hts, hP, hK, hD, hS, hR, hl⟩ := id X
  have k := k p l e s m args below meth c H locs ls ad cA D A X
  exact lv_imul hx hb hd k

theorem sk_iand {x y : Int32} (pc2 : Nat) (hd : decode M.2.1 pc = .ok (.iand, 1)) (hp : pc + 1 = pc2) (k : sk_G S d M pc2 lv (.int (x &&& y) :: st) τ K) : sk_G S d M pc lv (.int y :: .int x :: st) τ K := by
  subst hp
  intro p l e s m args below meth c H locs ls ad cA D A X
  obtain ⟨hx, hb, hml, hr, hlk, hown, hts, hP, hK, hD, hS, hR, hl⟩ := id X
  have k := k p l e s m args below meth c H locs ls ad cA D A X
  exact lv_iand hx hb hd k

theorem sk_ior {x y : Int32} (pc2 : Nat) (hd : decode M.2.1 pc = .ok (.ior, 1)) (hp : pc + 1 = pc2) (k : sk_G S d M pc2 lv (.int (x ||| y) :: st) τ K) : sk_G S d M pc lv (.int y :: .int x :: st) τ K := by
  subst hp
  intro p l e s m args below meth c H locs ls ad cA D A X
  obtain ⟨hx, hb, hml, hr, hlk, hown, hts, hP, hK, hD, hS, hR, hl⟩ := id X
  have k := k p l e s m args below meth c H locs ls ad cA D A X
  exact lv_ior hx hb hd k

theorem sk_ixor {x y : Int32} (pc2 : Nat) (hd : decode M.2.1 pc = .ok (.ixor, 1)) (hp : pc + 1 = pc2) (k : sk_G S d M pc2 lv (.int (x ^^^ y) :: st) τ K) : sk_G S d M pc lv (.int y :: .int x :: st) τ K := by
  subst hp
  intro p l e s m args below meth c H locs ls ad cA D A X
  obtain ⟨hx, hb, hml, hr, hlk, hown, hts, hP, hK, hD, hS, hR, hl⟩ := id X
  have k := k p l e s m args below meth c H locs ls ad cA D A X
  exact lv_ixor hx hb hd k

theorem sk_ishl {x y : Int32} (pc2 : Nat) (hd : decode M.2.1 pc = .ok (.ishl, 1)) (hp : pc + 1 = pc2) (k : sk_G S d M pc2 lv (.int (x <<< (y &&& 31)) :: st) τ K) : sk_G S d M pc lv (.int y :: .int x :: st) τ K := by
  subst hp
  intro p l e s m args below meth c H locs ls ad cA D A X
  obtain ⟨hx, hb, hml, hr, hlk, hown, hts, hP, hK, hD, hS, hR, hl⟩ := id X
  have k := k p l e s m args below meth c H locs ls ad cA D A X
  exact lv_ishl hx hb hd k

theorem sk_ishr {x y : Int32} (pc2 : Nat) (hd : decode M.2.1 pc = .ok (.ishr, 1)) (hp : pc + 1 = pc2) (k : sk_G S d M pc2 lv (.int (x >>> (y &&& 31)) :: st) τ K) : sk_G S d M pc lv (.int y :: .int x :: st) τ K := by
  subst hp
  intro p l e s m args below meth c H locs ls ad cA D A X
  obtain ⟨hx, hb, hml, hr, hlk, hown, hts, hP, hK, hD, hS, hR, hl⟩ := id X
  have k := k p l e s m args below meth c H locs ls ad cA D A X
  exact lv_ishr hx hb hd k

theorem sk_iushr {x y : Int32} (pc2 : Nat) (hd : decode M.2.1 pc = .ok (.iushr, 1)) (hp : pc + 1 = pc2) (k : sk_G S d M pc2 lv (.int ((x.toUInt32 >>> (y.toUInt32 &&& Int32.toUInt32 31)).toInt32) :: st) τ K) : sk_G S d M pc lv (.int y :: .int x :: st) τ K := by
  subst hp
  intro p l e s m args below meth c H locs ls ad cA D A X
  obtain ⟨hx, hb, hml, hr, hlk, hown, hts, hP, hK, hD, hS, hR, hl⟩ := id X
  have k := k p l e s m args below meth c H locs ls ad cA D A X
  exact lv_iushr hx hb hd rfl k

theorem sk_idiv {x y : Int32} (pc2 : Nat) (hd : decode M.2.1 pc = .ok (.idiv, 1)) (hp : pc + 1 = pc2) (hne : ¬ y = 0) (k : sk_G S d M pc2 lv (.int (x / y) :: st) τ K) : sk_G S d M pc lv (.int y :: .int x :: st) τ K := by
  subst hp
  intro p l e s m args below meth c H locs ls ad cA D A X
  obtain ⟨hx, hb, hml, hr, hlk, hown, hts, hP, hK, hD, hS, hR, hl⟩ := id X
  have k := k p l e s m args below meth c H locs ls ad cA D A X
  exact lv_idiv hx hb hd hne k

theorem sk_irem {x y : Int32} (pc2 : Nat) (hd : decode M.2.1 pc = .ok (.irem, 1)) (hp : pc + 1 = pc2) (hne : ¬ y = 0) (k : sk_G S d M pc2 lv (.int (x - x / y * y) :: st) τ K) : sk_G S d M pc lv (.int y :: .int x :: st) τ K := by
  subst hp
  intro p l e s m args below meth c H locs ls ad cA D A X
  obtain ⟨hx, hb, hml, hr, hlk, hown, hts, hP, hK, hD, hS, hR, hl⟩ := id X
  have k := k p l e s m args below meth c H locs ls ad cA D A X
  exact lv_irem hx hb hd hne k

theorem sk_ineg {x : Int32} (pc2 : Nat) (hd : decode M.2.1 pc = .ok (.ineg, 1)) (hp : pc + 1 = pc2) (k : sk_G S d M pc2 lv (.int (-x) :: st) τ K) : sk_G S d M pc lv (.int x :: st) τ K := by
  subst hp
  intro p l e s m args below meth c H locs ls ad cA D A X
  obtain ⟨hx, hb, hml, hr, hlk, hown, hts, hP, hK, hD, hS, hR, hl⟩ := id X
  have k := k p l e s m args below meth c H locs ls ad cA D A X
  exact lv_ineg hx hb hd k

theorem sk_ladd {x y : Int64} (pc2 : Nat) (hd : decode M.2.1 pc = .ok (.ladd, 1)) (hp : pc + 1 = pc2) (k : sk_G S d M pc2 lv (.long (x + y) :: st) τ K) : sk_G S d M pc lv (.long y :: .long x :: st) τ K := by
  subst hp
  intro p l e s m args below meth c H locs ls ad cA D A X
  obtain ⟨hx, hb, hml, hr, hlk, hown, hts, hP, hK, hD, hS, hR, hl⟩ := id X
  have k := k p l e s m args below meth c H locs ls ad cA D A X
  exact lv_ladd hx hb hd k

theorem sk_lsub {x y : Int64} (pc2 : Nat) (hd : decode M.2.1 pc = .ok (.lsub, 1)) (hp : pc + 1 = pc2) (k : sk_G S d M pc2 lv (.long (x - y) :: st) τ K) : sk_G S d M pc lv (.long y :: .long x :: st) τ K := by
  subst hp
  intro p l e s m args below meth c H locs ls ad cA D A X
  obtain ⟨hx, hb, hml, hr, hlk, hown, hts, hP, hK, hD, hS, hR, hl⟩ := id X
  have k := k p l e s m args below meth c H locs ls ad cA D A X
  exact lv_lsub hx hb hd k

theorem sk_land {x y : Int64} (pc2 : Nat) (hd : decode M.2.1 pc = .ok (.land, 1)) (hp : pc + 1 = pc2) (k : sk_G S d M pc2 lv (.long (x &&& y) :: st) τ K) : sk_G S d M pc lv (.long y :: .long x :: st) τ K := by
  subst hp
  intro p l e s m args below meth c H locs ls ad cA D A X
  obtain ⟨hx, hb, hml, hr, hlk, hown, hts, hP, hK, hD, hS, hR, hl⟩ := id X
  have k := k p l e s m args below meth c H locs ls ad cA D A X
  exact lv_land hx hb hd k

theorem sk_lor {x y : Int64} (pc2 : Nat) (hd : decode M.2.1 pc = .ok (.lor, 1)) (hp : pc + 1 = pc2) (k : sk_G S d M pc2 lv (.long (x ||| y) :: st) τ K) : sk_G S d M pc lv (.long y :: .long x :: st) τ K := by
  subst hp
  intro p l e s m args below meth c H locs ls ad cA D A X
  obtain ⟨hx, hb, hml, hr, hlk, hown, hts, hP, hK, hD, hS, hR, hl⟩ := id X
  have k := k p l e s m args below meth c H locs ls ad cA D A X
  exact lv_lor hx hb hd k

theorem sk_lxor {x y : Int64} (pc2 : Nat) (hd : decode M.2.1 pc = .ok (.lxor, 1)) (hp : pc + 1 = pc2) (k : sk_G S d M pc2 lv (.long (x ^^^ y) :: st) τ K) : sk_G S d M pc lv (.long y :: .long x :: st) τ K := by
  subst hp
  intro p l e s m args below meth c H locs ls ad cA D A X
  obtain ⟨hx, hb, hml, hr, hlk, hown, hts, hP, hK, hD, hS, hR, hl⟩ := id X
  have k := k p l e s m args below meth c H locs ls ad cA D A X
  exact lv_lxor hx hb hd k

theorem sk_lushr {x : Int64} {y : Int32} (pc2 : Nat) (hd : decode M.2.1 pc = .ok (.lushr, 1)) (hp : pc + 1 = pc2) (k : sk_G S d M pc2 lv (.long ((x.toUInt64 >>> (y.toInt64.toUInt64 &&& Int64.toUInt64 63)).toInt64) :: st) τ K) : sk_G S d M pc lv (.int y :: .long x :: st) τ K := by
  subst hp
  intro p l e s m args below meth c H locs ls ad cA D A X
  obtain ⟨hx, hb, hml, hr, hlk, hown, hts, hP, hK, hD, hS, hR, hl⟩ := id X
  have k := k p l e s m args below meth c H locs ls ad cA D A X
  exact lv_lushr hx hb hd rfl k

theorem sk_lshl {x : Int64} {y : Int32} (pc2 : Nat) (hd : decode M.2.1 pc = .ok (.lshl, 1)) (hp : pc + 1 = pc2) (k : sk_G S d M pc2 lv (.long (x <<< (y.toInt64 &&& 63)) :: st) τ K) : sk_G S d M pc lv (.int y :: .long x :: st) τ K := by
  subst hp
  intro p l e s m args below meth c H locs ls ad cA D A X
  obtain ⟨hx, hb, hml, hr, hlk, hown, hts, hP, hK, hD, hS, hR, hl⟩ := id X
  have k := k p l e s m args below meth c H locs ls ad cA D A X
  exact lv_lshl hx hb hd rfl k

theorem sk_lshr {x : Int64} {y : Int32} (pc2 : Nat) (hd : decode M.2.1 pc = .ok (.lshr, 1)) (hp : pc + 1 = pc2) (k : sk_G S d M pc2 lv (.long (x >>> (y.toInt64 &&& 63)) :: st) τ K) : sk_G S d M pc lv (.int y :: .long x :: st) τ K := by
  subst hp
  intro p l e s m args below meth c H locs ls ad cA D A X
  obtain ⟨hx, hb, hml, hr, hlk, hown, hts, hP, hK, hD, hS, hR, hl⟩ := id X
  have k := k p l e s m args below meth c H locs ls ad cA D A X
  exact lv_lshr hx hb hd rfl k

theorem sk_i2l {x : Int32} (pc2 : Nat) (hd : decode M.2.1 pc = .ok (.i2l, 1)) (hp : pc + 1 = pc2) (k : sk_G S d M pc2 lv (.long x.toInt64 :: st) τ K) : sk_G S d M pc lv (.int x :: st) τ K := by
  subst hp
  intro p l e s m args below meth c H locs ls ad cA D A X
  obtain ⟨hx, hb, hml, hr, hlk, hown, hts, hP, hK, hD, hS, hR, hl⟩ := id X
  have k := k p l e s m args below meth c H locs ls ad cA D A X
  exact lv_i2l hx hb hd rfl k

theorem sk_l2i {x : Int64} (pc2 : Nat) (hd : decode M.2.1 pc = .ok (.l2i, 1)) (hp : pc + 1 = pc2) (k : sk_G S d M pc2 lv (.int x.toInt32 :: st) τ K) : sk_G S d M pc lv (.long x :: st) τ K := by
  subst hp
  intro p l e s m args below meth c H locs ls ad cA D A X
  obtain ⟨hx, hb, hml, hr, hlk, hown, hts, hP, hK, hD, hS, hR, hl⟩ := id X
  have k := k p l e s m args below meth c H locs ls ad cA D A X
  exact lv_l2i hx hb hd rfl k

theorem sk_i2b {x : Int32} (pc2 : Nat) (hd : decode M.2.1 pc = .ok (.i2b, 1)) (hp : pc + 1 = pc2) (k : sk_G S d M pc2 lv (.int x.toInt8.toInt32 :: st) τ K) : sk_G S d M pc lv (.int x :: st) τ K := by
  subst hp
  intro p l e s m args below meth c H locs ls ad cA D A X
  obtain ⟨hx, hb, hml, hr, hlk, hown, hts, hP, hK, hD, hS, hR, hl⟩ := id X
  have k := k p l e s m args below meth c H locs ls ad cA D A X
  exact lv_i2b hx hb hd rfl k

theorem sk_i2s {x : Int32} (pc2 : Nat) (hd : decode M.2.1 pc = .ok (.i2s, 1)) (hp : pc + 1 = pc2) (k : sk_G S d M pc2 lv (.int x.toInt16.toInt32 :: st) τ K) : sk_G S d M pc lv (.int x :: st) τ K := by
  subst hp
  intro p l e s m args below meth c H locs ls ad cA D A X
  obtain ⟨hx, hb, hml, hr, hlk, hown, hts, hP, hK, hD, hS, hR, hl⟩ := id X
  have k := k p l e s m args below meth c H locs ls ad cA D A X
  exact lv_i2s hx hb hd rfl k

theorem sk_lcmp {x y : Int64} (pc2 : Nat) (hd : decode M.2.1 pc = .ok (.lcmp, 1)) (hp : pc + 1 = pc2) (k : sk_G S d M pc2 lv (.int (lg_cmp x y) :: st) τ K) : sk_G S d M pc lv (.long y :: .long x :: st) τ K := by
  subst hp
  intro p l e s m args below meth c H locs ls ad cA D A X
  obtain ⟨hx, hb, hml, hr, hlk, hown, hts, hP, hK, hD, hS, hR, hl⟩ := id X
  have k := k p l e s m args below meth c H locs ls ad cA D A X
  exact W.lcmp hx hb hd k

theorem sk_iconst {n : Int} {v : Int32} (pc2 : Nat) (hd : decode M.2.1 pc = .ok (.iconst n, 1)) (hp : pc + 1 = pc2) (hv : Int32.ofInt n = v) (k : sk_G S d M pc2 lv (.int v :: st) τ K) : sk_G S d M pc lv st τ K := by
  subst hp
  intro p l e s m args below meth c H locs ls ad cA D A X
  obtain ⟨hx, hb, hml, hr, hlk, hown, hts, hP, hK, hD, hS, hR, hl⟩ := id X
  have k := k p l e s m args below meth c H locs ls ad cA D A X
  exact lv_iconst hx hb hd hv k

theorem sk_bipush {n : Int} {v : Int32} (pc2 : Nat) (hd : decode M.2.1 pc = .ok (.bipush n, 2)) (hp : pc + 2 = pc2) (hv : (Int8.ofInt n).toInt32 = v) (k : sk_G S d M pc2 lv (.int v :: st) τ K) : sk_G S d M pc lv st τ K := by
  subst hp
  intro p l e s m args below meth c H locs ls ad cA D A X
  obtain ⟨hx, hb, hml, hr, hlk, hown, hts, hP, hK, hD, hS, hR, hl⟩ := id X
  have k := k p l e s m args below meth c H locs ls ad cA D A X
  exact lv_bipush hx hb hd hv k

theorem sk_sipush {n : Int} {v : Int32} (pc2 : Nat) (hd : decode M.2.1 pc = .ok (.sipush n, 3)) (hp : pc + 3 = pc2) (hv : (Int16.ofInt n).toInt32 = v) (k : sk_G S d M pc2 lv (.int v :: st) τ K) : sk_G S d M pc lv st τ K := by
  subst hp
  intro p l e s m args below meth c H locs ls ad cA D A X
  obtain ⟨hx, hb, hml, hr, hlk, hown, hts, hP, hK, hD, hS, hR, hl⟩ := id X
  have k := k p l e s m args below meth c H locs ls ad cA D A X
  exact lv_sipush hx hb hd hv k

theorem sk_lconst {n : Fin 2} {v : Int64} (pc2 : Nat) (hd : decode M.2.1 pc = .ok (.lconst n, 1)) (hp : pc + 1 = pc2) (hv : Int64.ofNat (n : Nat) = v) (k : sk_G S d M pc2 lv (.long v :: st) τ K) : sk_G S d M pc lv st τ K := by
  subst hp
  intro p l e s m args below meth c H locs ls ad cA D A X
  obtain ⟨hx, hb, hml, hr, hlk, hown, hts, hP, hK, hD, hS, hR, hl⟩ := id X
  have k := k p l e s m args below meth c H locs ls ad cA D A X
  exact lv_lconst hx hb hd hv k

theorem sk_ldc {idx : Nat} {v : Int32} (pc2 : Nat) (hd : decode M.2.1 pc = .ok (.ldc idx, 2)) (hp : pc + 2 = pc2) (hc : Cond.constant M.1.cls idx v ∈ sk_ALL) (k : sk_G S d M pc2 lv (.int v :: st) τ K) : sk_G S d M pc lv st τ K := by
  subst hp
  intro p l e s m args below meth c H locs ls ad cA D A X
  obtain ⟨hx, hb, hml, hr, hlk, hown, hts, hP, hK, hD, hS, hR, hl⟩ := id X
  have k := k p l e s m args below meth c H locs ls ad cA D A X
  exact lv_ldc hx hb hown (hts _ hc) hd k

theorem sk_ldcw {idx : Nat} {v : Int32} (pc2 : Nat) (hd : decode M.2.1 pc = .ok (.ldc_w idx, 3)) (hp : pc + 3 = pc2) (hc : Cond.constant M.1.cls idx v ∈ sk_ALL) (k : sk_G S d M pc2 lv (.int v :: st) τ K) : sk_G S d M pc lv st τ K := by
  subst hp
  intro p l e s m args below meth c H locs ls ad cA D A X
  obtain ⟨hx, hb, hml, hr, hlk, hown, hts, hP, hK, hD, hS, hR, hl⟩ := id X
  have k := k p l e s m args below meth c H locs ls ad cA D A X
  exact lv_ldcw hx hb hown (hts _ hc) hd k

theorem sk_ldc2 {idx : Nat} {v : Int64} (pc2 : Nat) (hd : decode M.2.1 pc = .ok (.ldc2_w idx, 3)) (hp : pc + 3 = pc2) (hc : Cond.constantLong M.1.cls idx v ∈ sk_ALL) (k : sk_G S d M pc2 lv (.long v :: st) τ K) : sk_G S d M pc lv st τ K := by
  subst hp
  intro p l e s m args below meth c H locs ls ad cA D A X
  obtain ⟨hx, hb, hml, hr, hlk, hown, hts, hP, hK, hD, hS, hR, hl⟩ := id X
  have k := k p l e s m args below meth c H locs ls ad cA D A X
  exact lv_ldc2 hx hb hown (hts _ hc) hd k

theorem sk_iload {i : Nat} {x : Int32} (q : Nat) (pc2 : Nat) (hd : decode M.2.1 pc = .ok (.iload i, 2)) (hp : pc + 2 = pc2) (hq : lv[q]? = some (i, .int x)) (k : sk_G S d M pc2 lv (.int x :: st) τ K) : sk_G S d M pc lv st τ K := by
  subst hp
  intro p l e s m args below meth c H locs ls ad cA D A X
  obtain ⟨hx, hb, hml, hr, hlk, hown, hts, hP, hK, hD, hS, hR, hl⟩ := id X
  have k := k p l e s m args below meth c H locs ls ad cA D A X
  exact lv_iload hx hb hd (sk_lm_at hl hq) k

theorem sk_iload_n {n : Fin 4} {i : Nat} {x : Int32} (q : Nat) (pc2 : Nat) (hd : decode M.2.1 pc = .ok (.iload_n n, 1)) (hp : pc + 1 = pc2) (hi : (n : Nat) = i) (hq : lv[q]? = some (i, .int x)) (k : sk_G S d M pc2 lv (.int x :: st) τ K) : sk_G S d M pc lv st τ K := by
  subst hp
  intro p l e s m args below meth c H locs ls ad cA D A X
  obtain ⟨hx, hb, hml, hr, hlk, hown, hts, hP, hK, hD, hS, hR, hl⟩ := id X
  have k := k p l e s m args below meth c H locs ls ad cA D A X
  exact lv_iload_n hx hb hd hi (sk_lm_at hl hq) k

theorem sk_lload {i : Nat} {x : Int64} (q : Nat) (pc2 : Nat) (hd : decode M.2.1 pc = .ok (.lload i, 2)) (hp : pc + 2 = pc2) (hq : lv[q]? = some (i, .long x)) (k : sk_G S d M pc2 lv (.long x :: st) τ K) : sk_G S d M pc lv st τ K := by
  subst hp
  intro p l e s m args below meth c H locs ls ad cA D A X
  obtain ⟨hx, hb, hml, hr, hlk, hown, hts, hP, hK, hD, hS, hR, hl⟩ := id X
  have k := k p l e s m args below meth c H locs ls ad cA D A X
  exact lv_lload hx hb hd (sk_lm_at hl hq) k

theorem sk_lload_n {n : Fin 4} {i : Nat} {x : Int64} (q : Nat) (pc2 : Nat) (hd : decode M.2.1 pc = .ok (.lload_n n, 1)) (hp : pc + 1 = pc2) (hi : (n : Nat) = i) (hq : lv[q]? = some (i, .long x)) (k : sk_G S d M pc2 lv (.long x :: st) τ K) : sk_G S d M pc lv st τ K := by
  subst hp
  intro p l e s m args below meth c H locs ls ad cA D A X
  obtain ⟨hx, hb, hml, hr, hlk, hown, hts, hP, hK, hD, hS, hR, hl⟩ := id X
  have k := k p l e s m args below meth c H locs ls ad cA D A X
  exact lv_lload_n hx hb hd hi (sk_lm_at hl hq) k

theorem sk_aload {i : Nat} {x : Nat} (q : Nat) (pc2 : Nat) (hd : decode M.2.1 pc = .ok (.aload i, 2)) (hp : pc + 2 = pc2) (hq : lv[q]? = some (i, .ref x)) (k : sk_G S d M pc2 lv (.ref x :: st) τ K) : sk_G S d M pc lv st τ K := by
  subst hp
  intro p l e s m args below meth c H locs ls ad cA D A X
  obtain ⟨hx, hb, hml, hr, hlk, hown, hts, hP, hK, hD, hS, hR, hl⟩ := id X
  have k := k p l e s m args below meth c H locs ls ad cA D A X
  exact lv_aload hx hb hd (sk_lm_at hl hq) k

theorem sk_aload_n {n : Fin 4} {i : Nat} {x : Nat} (q : Nat) (pc2 : Nat) (hd : decode M.2.1 pc = .ok (.aload_n n, 1)) (hp : pc + 1 = pc2) (hi : (n : Nat) = i) (hq : lv[q]? = some (i, .ref x)) (k : sk_G S d M pc2 lv (.ref x :: st) τ K) : sk_G S d M pc lv st τ K := by
  subst hp
  intro p l e s m args below meth c H locs ls ad cA D A X
  obtain ⟨hx, hb, hml, hr, hlk, hown, hts, hP, hK, hD, hS, hR, hl⟩ := id X
  have k := k p l e s m args below meth c H locs ls ad cA D A X
  exact lv_aload_n hx hb hd hi (sk_lm_at hl hq) k

theorem sk_istore {i : Nat} {x : Int32} {lv2 : sk_L} (pc2 : Nat) (hd : decode M.2.1 pc = .ok (.istore i, 2)) (hp : pc + 2 = pc2) (hn : i < M.2.2.1) (h2 : sk_st1 lv i (.int x) = lv2) (k : sk_G S d M pc2 lv2 st τ K) : sk_G S d M pc lv (.int x :: st) τ K := by
  subst hp
  subst h2
  intro p l e s m args below meth c H locs ls ad cA D A X
  obtain ⟨hx, hb, hml, hr, hlk, hown, hts, hP, hK, hD, hS, hR, hl⟩ := id X
  exact lv_istore hx hb hd hl hn (sk_st1_m (ad := ad) lv i (.int x)) (fun ls2 hl2 => k p l e s m args below meth c H locs ls2 ad cA D A ⟨hx, hb, hml, hr, hlk, hown, hts, hP, hK, hD, hS, hR, hl2⟩)

theorem sk_istore_n {i : Nat} {x : Int32} {lv2 : sk_L} {n : Fin 4} (pc2 : Nat) (hd : decode M.2.1 pc = .ok (.istore_n n, 1)) (hp : pc + 1 = pc2) (hi : (n : Nat) = i) (hn : i < M.2.2.1) (h2 : sk_st1 lv i (.int x) = lv2) (k : sk_G S d M pc2 lv2 st τ K) : sk_G S d M pc lv (.int x :: st) τ K := by
  subst hp
  subst h2
  intro p l e s m args below meth c H locs ls ad cA D A X
  obtain ⟨hx, hb, hml, hr, hlk, hown, hts, hP, hK, hD, hS, hR, hl⟩ := id X
  exact lv_istore_n hx hb hd hi hl hn (sk_st1_m (ad := ad) lv i (.int x)) (fun ls2 hl2 => k p l e s m args below meth c H locs ls2 ad cA D A ⟨hx, hb, hml, hr, hlk, hown, hts, hP, hK, hD, hS, hR, hl2⟩)

theorem sk_astore {i : Nat} {x : Nat} {lv2 : sk_L} (pc2 : Nat) (hd : decode M.2.1 pc = .ok (.astore i, 2)) (hp : pc + 2 = pc2) (hn : i < M.2.2.1) (h2 : sk_st1 lv i (.ref x) = lv2) (k : sk_G S d M pc2 lv2 st τ K) : sk_G S d M pc lv (.ref x :: st) τ K := by
  subst hp
  subst h2
  intro p l e s m args below meth c H locs ls ad cA D A X
  obtain ⟨hx, hb, hml, hr, hlk, hown, hts, hP, hK, hD, hS, hR, hl⟩ := id X
  exact lv_astore hx hb hd hl hn (sk_st1_m (ad := ad) lv i (.ref x)) (fun ls2 hl2 => k p l e s m args below meth c H locs ls2 ad cA D A ⟨hx, hb, hml, hr, hlk, hown, hts, hP, hK, hD, hS, hR, hl2⟩)

theorem sk_astore_n {i : Nat} {x : Nat} {lv2 : sk_L} {n : Fin 4} (pc2 : Nat) (hd : decode M.2.1 pc = .ok (.astore_n n, 1)) (hp : pc + 1 = pc2) (hi : (n : Nat) = i) (hn : i < M.2.2.1) (h2 : sk_st1 lv i (.ref x) = lv2) (k : sk_G S d M pc2 lv2 st τ K) : sk_G S d M pc lv (.ref x :: st) τ K := by
  subst hp
  subst h2
  intro p l e s m args below meth c H locs ls ad cA D A X
  obtain ⟨hx, hb, hml, hr, hlk, hown, hts, hP, hK, hD, hS, hR, hl⟩ := id X
  exact lv_astore_n hx hb hd hi hl hn (sk_st1_m (ad := ad) lv i (.ref x)) (fun ls2 hl2 => k p l e s m args below meth c H locs ls2 ad cA D A ⟨hx, hb, hml, hr, hlk, hown, hts, hP, hK, hD, hS, hR, hl2⟩)

theorem sk_lstore {i : Nat} {x : Int64} {lv2 : sk_L} (pc2 : Nat) (hd : decode M.2.1 pc = .ok (.lstore i, 2)) (hp : pc + 2 = pc2) (hn : i + 1 < M.2.2.1) (h2 : sk_st2 lv i (.long x) = lv2) (k : sk_G S d M pc2 lv2 st τ K) : sk_G S d M pc lv (.long x :: st) τ K := by
  subst hp
  subst h2
  intro p l e s m args below meth c H locs ls ad cA D A X
  obtain ⟨hx, hb, hml, hr, hlk, hown, hts, hP, hK, hD, hS, hR, hl⟩ := id X
  exact lv_lstore hx hb hd hl hn (sk_st2_m (ad := ad) lv i (.long x)) (fun ls2 hl2 => k p l e s m args below meth c H locs ls2 ad cA D A ⟨hx, hb, hml, hr, hlk, hown, hts, hP, hK, hD, hS, hR, hl2⟩)

theorem sk_lstore_n {i : Nat} {x : Int64} {lv2 : sk_L} {n : Fin 4} (pc2 : Nat) (hd : decode M.2.1 pc = .ok (.lstore_n n, 1)) (hp : pc + 1 = pc2) (hi : (n : Nat) = i) (hn : i + 1 < M.2.2.1) (h2 : sk_st2 lv i (.long x) = lv2) (k : sk_G S d M pc2 lv2 st τ K) : sk_G S d M pc lv (.long x :: st) τ K := by
  subst hp
  subst h2
  intro p l e s m args below meth c H locs ls ad cA D A X
  obtain ⟨hx, hb, hml, hr, hlk, hown, hts, hP, hK, hD, hS, hR, hl⟩ := id X
  exact lv_lstore_n hx hb hd hi hl hn (sk_st2_m (ad := ad) lv i (.long x)) (fun ls2 hl2 => k p l e s m args below meth c H locs ls2 ad cA D A ⟨hx, hb, hml, hr, hlk, hown, hts, hP, hK, hD, hS, hR, hl2⟩)

theorem sk_iinc {i : Nat} {n : Int} {x v : Int32} {lv2 : sk_L} (q : Nat) (pc2 : Nat) (hd : decode M.2.1 pc = .ok (.iinc i n, 3)) (hp : pc + 3 = pc2) (hq : lv[q]? = some (i, .int x)) (hv : x + Int32.ofInt n = v) (hn : i < M.2.2.1) (h2 : sk_st1 lv i (.int v) = lv2) (k : sk_G S d M pc2 lv2 st τ K) : sk_G S d M pc lv st τ K := by
  subst hp
  subst h2
  intro p l e s m args below meth c H locs ls ad cA D A X
  obtain ⟨hx, hb, hml, hr, hlk, hown, hts, hP, hK, hD, hS, hR, hl⟩ := id X
  exact lv_iinc (k := q) hx hb hd hl (by unfold sk_lm; rw [List.getElem?_map, hq]; rfl) hv hn (sk_st1_m (ad := ad) lv i (.int v)) (fun ls2 hl2 => k p l e s m args below meth c H locs ls2 ad cA D A ⟨hx, hb, hml, hr, hlk, hown, hts, hP, hK, hD, hS, hR, hl2⟩)

theorem sk_perm {lv2 : sk_L} (ks : List Nat) (h : lv_pick lv ks = lv2) (k : sk_G S d M pc lv2 st τ K) : sk_G S d M pc lv st τ K := by
  intro p l e s m args below meth c H locs ls ad cA D A X
  obtain ⟨hx, hb, hml, hr, hlk, hown, hts, hP, hK, hD, hS, hR, hl⟩ := id X
  refine k p l e s m args below meth c H locs ls ad cA D A ⟨hx, hb, hml, hr, hlk, hown, hts, hP, hK, hD, hS, hR, lv_sub hl ks ?_⟩
  subst h
  unfold lv_pick sk_lm
  rw [List.map_filterMap]
  congr 1
  funext i
  rw [List.getElem?_map]

theorem sk_goto {off : Int} (pc2 : Nat) (hd : decode M.2.1 pc = .ok (.goto off, 3)) (ht : (pc : Int) + off = (pc2 : Int)) (k : sk_G S d M pc2 lv st τ K) : sk_G S d M pc lv st τ K := by
  intro p l e s m args below meth c H locs ls ad cA D A X
  obtain ⟨hx, hb, hml, hr, hlk, hown, hts, hP, hK, hD, hS, hR, hl⟩ := id X
  exact lv_goto hx hb hd ht (k p l e s m args below meth c H locs ls ad cA D A X)

theorem sk_icmp_eq {x y : Int32} {off : Int} (tgt pc2 : Nat) (hd : decode M.2.1 pc = .ok (.if_icmp .eq off, 3)) (ht : (pc : Int) + off = (tgt : Int)) (hp : pc + 3 = pc2) (kt : x = y → sk_G S d M tgt lv st τ K) (kf : ¬ x = y → sk_G S d M pc2 lv st τ K) : sk_G S d M pc lv (.int y :: .int x :: st) τ K := by
  subst hp
  intro p l e s m args below meth c H locs ls ad cA D A X
  obtain ⟨hx, hb, hml, hr, hlk, hown, hts, hP, hK, hD, hS, hR, hl⟩ := id X
  exact lv_icmp_eq hx hb hd ht (fun h => kt h p l e s m args below meth c H locs ls ad cA D A X) (fun h => kf h p l e s m args below meth c H locs ls ad cA D A X)

theorem sk_icmp_ne {x y : Int32} {off : Int} (tgt pc2 : Nat) (hd : decode M.2.1 pc = .ok (.if_icmp .ne off, 3)) (ht : (pc : Int) + off = (tgt : Int)) (hp : pc + 3 = pc2) (kt : ¬ x = y → sk_G S d M tgt lv st τ K) (kf : x = y → sk_G S d M pc2 lv st τ K) : sk_G S d M pc lv (.int y :: .int x :: st) τ K := by
  subst hp
  intro p l e s m args below meth c H locs ls ad cA D A X
  obtain ⟨hx, hb, hml, hr, hlk, hown, hts, hP, hK, hD, hS, hR, hl⟩ := id X
  exact lv_icmp_ne hx hb hd ht (fun h => kt h p l e s m args below meth c H locs ls ad cA D A X) (fun h => kf h p l e s m args below meth c H locs ls ad cA D A X)

theorem sk_icmp_lt {x y : Int32} {off : Int} (tgt pc2 : Nat) (hd : decode M.2.1 pc = .ok (.if_icmp .lt off, 3)) (ht : (pc : Int) + off = (tgt : Int)) (hp : pc + 3 = pc2) (kt : x < y → sk_G S d M tgt lv st τ K) (kf : ¬ x < y → sk_G S d M pc2 lv st τ K) : sk_G S d M pc lv (.int y :: .int x :: st) τ K := by
  subst hp
  intro p l e s m args below meth c H locs ls ad cA D A X
  obtain ⟨hx, hb, hml, hr, hlk, hown, hts, hP, hK, hD, hS, hR, hl⟩ := id X
  exact lv_icmp_lt hx hb hd ht (fun h => kt h p l e s m args below meth c H locs ls ad cA D A X) (fun h => kf h p l e s m args below meth c H locs ls ad cA D A X)

theorem sk_icmp_ge {x y : Int32} {off : Int} (tgt pc2 : Nat) (hd : decode M.2.1 pc = .ok (.if_icmp .ge off, 3)) (ht : (pc : Int) + off = (tgt : Int)) (hp : pc + 3 = pc2) (kt : y ≤ x → sk_G S d M tgt lv st τ K) (kf : ¬ y ≤ x → sk_G S d M pc2 lv st τ K) : sk_G S d M pc lv (.int y :: .int x :: st) τ K := by
  subst hp
  intro p l e s m args below meth c H locs ls ad cA D A X
  obtain ⟨hx, hb, hml, hr, hlk, hown, hts, hP, hK, hD, hS, hR, hl⟩ := id X
  exact lv_icmp_ge hx hb hd ht (fun h => kt h p l e s m args below meth c H locs ls ad cA D A X) (fun h => kf h p l e s m args below meth c H locs ls ad cA D A X)

theorem sk_icmp_gt {x y : Int32} {off : Int} (tgt pc2 : Nat) (hd : decode M.2.1 pc = .ok (.if_icmp .gt off, 3)) (ht : (pc : Int) + off = (tgt : Int)) (hp : pc + 3 = pc2) (kt : y < x → sk_G S d M tgt lv st τ K) (kf : ¬ y < x → sk_G S d M pc2 lv st τ K) : sk_G S d M pc lv (.int y :: .int x :: st) τ K := by
  subst hp
  intro p l e s m args below meth c H locs ls ad cA D A X
  obtain ⟨hx, hb, hml, hr, hlk, hown, hts, hP, hK, hD, hS, hR, hl⟩ := id X
  exact lv_icmp_gt hx hb hd ht (fun h => kt h p l e s m args below meth c H locs ls ad cA D A X) (fun h => kf h p l e s m args below meth c H locs ls ad cA D A X)

theorem sk_icmp_le {x y : Int32} {off : Int} (tgt pc2 : Nat) (hd : decode M.2.1 pc = .ok (.if_icmp .le off, 3)) (ht : (pc : Int) + off = (tgt : Int)) (hp : pc + 3 = pc2) (kt : x ≤ y → sk_G S d M tgt lv st τ K) (kf : ¬ x ≤ y → sk_G S d M pc2 lv st τ K) : sk_G S d M pc lv (.int y :: .int x :: st) τ K := by
  subst hp
  intro p l e s m args below meth c H locs ls ad cA D A X
  obtain ⟨hx, hb, hml, hr, hlk, hown, hts, hP, hK, hD, hS, hR, hl⟩ := id X
  exact lv_icmp_le hx hb hd ht (fun h => kt h p l e s m args below meth c H locs ls ad cA D A X) (fun h => kf h p l e s m args below meth c H locs ls ad cA D A X)

theorem sk_if_eq {x : Int32} {off : Int} (tgt pc2 : Nat) (hd : decode M.2.1 pc = .ok (.ifCond .eq off, 3)) (ht : (pc : Int) + off = (tgt : Int)) (hp : pc + 3 = pc2) (kt : x = 0 → sk_G S d M tgt lv st τ K) (kf : ¬ x = 0 → sk_G S d M pc2 lv st τ K) : sk_G S d M pc lv (.int x :: st) τ K := by
  subst hp
  intro p l e s m args below meth c H locs ls ad cA D A X
  obtain ⟨hx, hb, hml, hr, hlk, hown, hts, hP, hK, hD, hS, hR, hl⟩ := id X
  exact lv_if_eq hx hb hd ht (fun h => kt h p l e s m args below meth c H locs ls ad cA D A X) (fun h => kf h p l e s m args below meth c H locs ls ad cA D A X)

theorem sk_if_ne {x : Int32} {off : Int} (tgt pc2 : Nat) (hd : decode M.2.1 pc = .ok (.ifCond .ne off, 3)) (ht : (pc : Int) + off = (tgt : Int)) (hp : pc + 3 = pc2) (kt : ¬ x = 0 → sk_G S d M tgt lv st τ K) (kf : x = 0 → sk_G S d M pc2 lv st τ K) : sk_G S d M pc lv (.int x :: st) τ K := by
  subst hp
  intro p l e s m args below meth c H locs ls ad cA D A X
  obtain ⟨hx, hb, hml, hr, hlk, hown, hts, hP, hK, hD, hS, hR, hl⟩ := id X
  exact lv_if_ne hx hb hd ht (fun h => kt h p l e s m args below meth c H locs ls ad cA D A X) (fun h => kf h p l e s m args below meth c H locs ls ad cA D A X)

theorem sk_if_lt {x : Int32} {off : Int} (tgt pc2 : Nat) (hd : decode M.2.1 pc = .ok (.ifCond .lt off, 3)) (ht : (pc : Int) + off = (tgt : Int)) (hp : pc + 3 = pc2) (kt : x < 0 → sk_G S d M tgt lv st τ K) (kf : ¬ x < 0 → sk_G S d M pc2 lv st τ K) : sk_G S d M pc lv (.int x :: st) τ K := by
  subst hp
  intro p l e s m args below meth c H locs ls ad cA D A X
  obtain ⟨hx, hb, hml, hr, hlk, hown, hts, hP, hK, hD, hS, hR, hl⟩ := id X
  exact lv_if_lt hx hb hd ht (fun h => kt h p l e s m args below meth c H locs ls ad cA D A X) (fun h => kf h p l e s m args below meth c H locs ls ad cA D A X)

theorem sk_if_ge {x : Int32} {off : Int} (tgt pc2 : Nat) (hd : decode M.2.1 pc = .ok (.ifCond .ge off, 3)) (ht : (pc : Int) + off = (tgt : Int)) (hp : pc + 3 = pc2) (kt : 0 ≤ x → sk_G S d M tgt lv st τ K) (kf : ¬ 0 ≤ x → sk_G S d M pc2 lv st τ K) : sk_G S d M pc lv (.int x :: st) τ K := by
  subst hp
  intro p l e s m args below meth c H locs ls ad cA D A X
  obtain ⟨hx, hb, hml, hr, hlk, hown, hts, hP, hK, hD, hS, hR, hl⟩ := id X
  exact lv_if_ge hx hb hd ht (fun h => kt h p l e s m args below meth c H locs ls ad cA D A X) (fun h => kf h p l e s m args below meth c H locs ls ad cA D A X)

theorem sk_if_gt {x : Int32} {off : Int} (tgt pc2 : Nat) (hd : decode M.2.1 pc = .ok (.ifCond .gt off, 3)) (ht : (pc : Int) + off = (tgt : Int)) (hp : pc + 3 = pc2) (kt : 0 < x → sk_G S d M tgt lv st τ K) (kf : ¬ 0 < x → sk_G S d M pc2 lv st τ K) : sk_G S d M pc lv (.int x :: st) τ K := by
  subst hp
  intro p l e s m args below meth c H locs ls ad cA D A X
  obtain ⟨hx, hb, hml, hr, hlk, hown, hts, hP, hK, hD, hS, hR, hl⟩ := id X
  exact lv_if_gt hx hb hd ht (fun h => kt h p l e s m args below meth c H locs ls ad cA D A X) (fun h => kf h p l e s m args below meth c H locs ls ad cA D A X)

theorem sk_if_le {x : Int32} {off : Int} (tgt pc2 : Nat) (hd : decode M.2.1 pc = .ok (.ifCond .le off, 3)) (ht : (pc : Int) + off = (tgt : Int)) (hp : pc + 3 = pc2) (kt : x ≤ 0 → sk_G S d M tgt lv st τ K) (kf : ¬ x ≤ 0 → sk_G S d M pc2 lv st τ K) : sk_G S d M pc lv (.int x :: st) τ K := by
  subst hp
  intro p l e s m args below meth c H locs ls ad cA D A X
  obtain ⟨hx, hb, hml, hr, hlk, hown, hts, hP, hK, hD, hS, hR, hl⟩ := id X
  exact lv_if_le hx hb hd ht (fun h => kt h p l e s m args below meth c H locs ls ad cA D A X) (fun h => kf h p l e s m args below meth c H locs ls ad cA D A X)

end
end
section
section
variable {S : List sk_Sh} {d : Nat} {M : sk_M} {pc : Nat} {lv : sk_L} {st : List Value} {τ : sk_T} {K : sk_K}
theorem sk_get {q ci j c idx : Nat} {cs : List Nat} {v : Value} (pc2 : Nat) (hd : decode M.2.1 pc = .ok (.getfield idx, 3)) (hp : pc + 3 = pc2) (lf : sk_LF M.1.cls idx ci j) (hs : S[q]? = some (0, ci, cs)) (hc : cs[j]? = some c) (hv : ∀ ad : Nat → Nat, sk_v ad (τ q j) c = sk_vm ad v) (k : sk_G S d M pc2 lv (v :: st) τ K) : sk_G S d M pc lv (.ref q :: st) τ K := by
  subst hp
  intro p l e s m args below meth c H locs ls ad cA D A X
  obtain ⟨hx, hb, hml, hr, hlk, hown, hts, hP, hK, hD, hS, hR, hl⟩ := id X
  have k := k p l e s m args below meth c H locs ls ad cA D A X
  obtain ⟨C, T, N, h1, h2, h3, h4⟩ := lf
  have he := sk_wl_at (S := S) (ad := ad) (cA := cA) (τ := τ) hs
  have hf : (sk_fs ad (τ q) cs 0)[j]? = some (sk_vm ad v) := by rw [sk_fs_at hc, Nat.zero_add, hv]
  rcases h4 with h4 | ⟨host, h4⟩
  · exact va_get hx hb hts h3 hown hK hP q he h1 j h2 (hts _ h4) (fun _ z => z) hf hd k
  · exact va_getN (host := host) hx hb hts h3 hown hK hP q he h1 j h2 ((hR.2 _ h4).use rfl) (fun _ z => z) hf hd k
theorem sk_getI {q ci j idx : Nat} {cs : List Nat} (pc2 : Nat) (hd : decode M.2.1 pc = .ok (.getfield idx, 3)) (hp : pc + 3 = pc2) (lf : sk_LF M.1.cls idx ci j) (hs : S[q]? = some (0, ci, cs)) (hc : cs[j]? = some 0) (k : sk_G S d M pc2 lv (.int (τ q j) :: st) τ K) : sk_G S d M pc lv (.ref q :: st) τ K :=
  sk_get (v := .int (τ q j)) pc2 hd hp lf hs hc (fun _ => rfl) k
theorem sk_getB {q ci j idx : Nat} {cs : List Nat} (pc2 : Nat) (hd : decode M.2.1 pc = .ok (.getfield idx, 3)) (hp : pc + 3 = pc2) (lf : sk_LF M.1.cls idx ci j) (hs : S[q]? = some (0, ci, cs)) (hc : cs[j]? = some 1) (k : sk_G S d M pc2 lv (.int (τ q j &&& 1) :: st) τ K) : sk_G S d M pc lv (.ref q :: st) τ K :=
  sk_get (v := .int (τ q j &&& 1)) pc2 hd hp lf hs hc (fun _ => rfl) k
theorem sk_getR {q ci j r idx : Nat} {cs : List Nat} (pc2 : Nat) (hd : decode M.2.1 pc = .ok (.getfield idx, 3)) (hp : pc + 3 = pc2) (lf : sk_LF M.1.cls idx ci j) (hs : S[q]? = some (0, ci, cs)) (hc : cs[j]? = some (r + 2)) (k : sk_G S d M pc2 lv (.ref r :: st) τ K) : sk_G S d M pc lv (.ref q :: st) τ K :=
  sk_get (v := .ref r) pc2 hd hp lf hs hc (fun _ => rfl) k
theorem sk_put {q ci j c idx : Nat} {cs : List Nat} {x : Int32} {ty : FieldType} (pc2 : Nat) (hd : decode M.2.1 pc = .ok (.putfield idx, 3)) (hp : pc + 3 = pc2) (lp : sk_LP M.1.cls idx ci j ty) (hs : S[q]? = some (0, ci, cs)) (hc : cs[j]? = some c) (hv : ∀ ad : Nat → Nat, sk_v ad x c = .int x) (hn : narrow ty (.int x) = .int x) (hft : Jvm.fits ty (.int x) = true) (k : sk_G S d M pc2 lv st (sk_u τ q j x) K) : sk_G S d M pc lv (.int x :: .ref q :: st) τ K := by
  subst hp
  intro p l e s m args below meth c H locs ls ad cA D A X
  obtain ⟨hx, hb, hml, hr, hlk, hown, hts, hP, hK, hD, hS, hR, hl⟩ := id X
  obtain ⟨C, T, N, h1, h2, h3, h4, ⟨ty0, h5⟩, h6, h7, h8⟩ := lp
  have he := sk_wl_at (S := S) (ad := ad) (cA := cA) (τ := τ) hs
  have hlen : j < (sk_fs ad (τ q) cs 0).length := by rw [sk_fs_len]; exact (List.getElem?_eq_some_iff.mp hc).1
  have hset : (sk_wl S ad cA τ).set q (ad q, .inr (ci, (sk_fs ad (τ q) cs 0).set j (.int x))) = sk_wl S ad cA (sk_u τ q j x) := by
    rw [sk_fs_set hc (hv ad), Nat.zero_add]
    exact sk_wl_set hs _
  rcases h4 with h4 | ⟨host, h4⟩
  · refine va_put hx hb hts h3 ty0 h5 h6 hown hK hP hD hS q he h1 j h2 (hts _ h4) (fun _ z => z) h7 h8 hn hft hlen hd (fun H1 locs1 hP1 hD1 hS1 => ?_)
    rw [show sk_vm ad (Value.int x) = .int x from rfl, hset] at hP1 hD1
    exact k p l e s m args below meth c H1 locs1 ls ad cA D A ⟨hx, hb, hml, hr, hlk, hown, hts, hP1, hK, hD1, hS1, hR, hl⟩
  · refine va_putN (host := host) hx hb hts h3 ty0 h5 h6 hown hK hP hD hS q he h1 j h2 ((hR.2 _ h4).use rfl) (fun _ z => z) h7 h8 hn hft hlen hd (fun H1 locs1 hP1 hD1 hS1 => ?_)
    rw [show sk_vm ad (Value.int x) = .int x from rfl, hset] at hP1 hD1
    exact k p l e s m args below meth c H1 locs1 ls ad cA D A ⟨hx, hb, hml, hr, hlk, hown, hts, hP1, hK, hD1, hS1, hR, hl⟩
theorem sk_putI {q ci j idx : Nat} {cs : List Nat} {x : Int32} (pc2 : Nat) (hd : decode M.2.1 pc = .ok (.putfield idx, 3)) (hp : pc + 3 = pc2) (lp : sk_LP M.1.cls idx ci j .int) (hs : S[q]? = some (0, ci, cs)) (hc : cs[j]? = some 0) (k : sk_G S d M pc2 lv st (sk_u τ q j x) K) : sk_G S d M pc lv (.int x :: .ref q :: st) τ K :=
  sk_put pc2 hd hp lp hs hc (fun _ => rfl) rfl rfl k
theorem sk_bit {x : Int32} (h : x &&& 1 = x) : x = 0 ∨ x = 1 := by
  have h1 : (x &&& 1).toBitVec.toNat = x.toBitVec.toNat := by rw [h]
  have h2 : (x &&& 1).toBitVec.toNat = x.toBitVec.toNat % 2 := by
    show (x.toBitVec &&& 1#32).toNat = _
    rw [BitVec.toNat_and]
    exact Nat.and_one_is_mod _
  rcases (show x.toBitVec.toNat = 0 ∨ x.toBitVec.toNat = 1 by omega) with h3 | h3
  · exact Or.inl (Int32.toBitVec_inj.mp (BitVec.eq_of_toNat_eq h3))
  · exact Or.inr (Int32.toBitVec_inj.mp (BitVec.eq_of_toNat_eq h3))
theorem sk_putB {q ci j idx : Nat} {cs : List Nat} {x : Int32} (pc2 : Nat) (hd : decode M.2.1 pc = .ok (.putfield idx, 3)) (hp : pc + 3 = pc2) (lp : sk_LP M.1.cls idx ci j .boolean) (hs : S[q]? = some (0, ci, cs)) (hc : cs[j]? = some 1) (hx1 : x &&& 1 = x) (k : sk_G S d M pc2 lv st (sk_u τ q j x) K) : sk_G S d M pc lv (.int x :: .ref q :: st) τ K :=
  sk_put pc2 hd hp lp hs hc (fun _ => by show Value.int (x &&& 1) = _; rw [hx1]) (by show Value.int (x &&& 1) = _; rw [hx1]) (by rcases sk_bit hx1 with h | h <;> rw [h] <;> rfl) k
theorem sk_iald {q n : Nat} {rs : List Nat} {i : Int32} (pc2 : Nat) (hd : decode M.2.1 pc = .ok (.iaload, 1)) (hp : pc + 1 = pc2) (hs : S[q]? = some (1, n, rs)) (hi : vp_in i n) (k : sk_G S d M pc2 lv (.int (τ q i.toNatClampNeg) :: st) τ K) : sk_G S d M pc lv (.int i :: .ref q :: st) τ K := by
  subst hp
  intro p l e s m args below meth c H locs ls ad cA D A X
  obtain ⟨hx, hb, hml, hr, hlk, hown, hts, hP, hK, hD, hS, hR, hl⟩ := id X
  exact va_iald hx hb hK hP q 0 (sk_wl_at (S := S) (ad := ad) (cA := cA) (τ := τ) hs) rfl hi hd (k p l e s m args below meth c H locs ls ad cA D A X)
theorem sk_bald {q n : Nat} {rs : List Nat} {i : Int32} (pc2 : Nat) (hd : decode M.2.1 pc = .ok (.baload, 1)) (hp : pc + 1 = pc2) (hs : S[q]? = some (2, n, rs)) (hi : vp_in i n) (k : sk_G S d M pc2 lv (.int (vp_nar .byte (τ q i.toNatClampNeg)) :: st) τ K) : sk_G S d M pc lv (.int i :: .ref q :: st) τ K := by
  subst hp
  intro p l e s m args below meth c H locs ls ad cA D A X
  obtain ⟨hx, hb, hml, hr, hlk, hown, hts, hP, hK, hD, hS, hR, hl⟩ := id X
  exact va_bald hx hb hK hP q 1 (sk_wl_at (S := S) (ad := ad) (cA := cA) (τ := τ) hs) rfl hi hd (k p l e s m args below meth c H locs ls ad cA D A X)
theorem sk_aald {q n t r : Nat} {rs : List Nat} {i : Int32} (pc2 : Nat) (hd : decode M.2.1 pc = .ok (.aaload, 1)) (hp : pc + 1 = pc2) (hs : S[q]? = some (t + 3, n, rs)) (ht : t < 3) (hi : vp_in i n) (hr2 : rs[i.toNatClampNeg]? = some r) (k : sk_G S d M pc2 lv (.ref r :: st) τ K) : sk_G S d M pc lv (.int i :: .ref q :: st) τ K := by
  subst hp
  intro p l e s m args below meth c H locs ls ad cA D A X
  obtain ⟨hx, hb, hml, hr, hlk, hown, hts, hP, hK, hD, hS, hR, hl⟩ := id X
  have k := k p l e s m args below meth c H locs ls ad cA D A X
  have he := sk_wl_at (S := S) (ad := ad) (cA := cA) (τ := τ) hs
  have e1 : va_rf ((fun j => (rs[j]?).map ad) i.toNatClampNeg) = .ref (ad r) := by
    show va_rf ((rs[i.toNatClampNeg]?).map ad) = _
    rw [hr2]; rfl
  match t, ht, he with
  | 0, _, he => exact va_aldq (C := "SlateKin$Tile") hx hb hK hP q 2 he rfl hi hd (by rw [e1]; exact k)
  | 1, _, he => exact va_aldq (C := "SlateKin$Law") hx hb hK hP q 3 he rfl hi hd (by rw [e1]; exact k)
  | 2, _, he => exact va_aldq (C := "SlateKin$Sheet") hx hb hK hP q 4 he rfl hi hd (by rw [e1]; exact k)
theorem sk_iast {q n : Nat} {rs : List Nat} {i x : Int32} (pc2 : Nat) (hd : decode M.2.1 pc = .ok (.iastore, 1)) (hp : pc + 1 = pc2) (hs : S[q]? = some (1, n, rs)) (hi : vp_in i n) (k : sk_G S d M pc2 lv st (sk_u τ q i.toNatClampNeg x) K) : sk_G S d M pc lv (.int x :: .int i :: .ref q :: st) τ K := by
  subst hp
  intro p l e s m args below meth c H locs ls ad cA D A X
  obtain ⟨hx, hb, hml, hr, hlk, hown, hts, hP, hK, hD, hS, hR, hl⟩ := id X
  refine va_iast hx hb hK hP hD hS q 0 (sk_wl_at (S := S) (ad := ad) (cA := cA) (τ := τ) hs) rfl hi hd (fun H1 locs1 hP1 hD1 hS1 => ?_)
  have hset : (sk_wl S ad cA τ).set q (ad q, .inl (cA 0, n, .inl (upd (τ q) i.toNatClampNeg x))) = sk_wl S ad cA (sk_u τ q i.toNatClampNeg x) := sk_wl_set hs _
  rw [hset] at hP1 hD1
  exact k p l e s m args below meth c H1 locs1 ls ad cA D A ⟨hx, hb, hml, hr, hlk, hown, hts, hP1, hK, hD1, hS1, hR, hl⟩
theorem sk_bast {q n : Nat} {rs : List Nat} {i x : Int32} (pc2 : Nat) (hd : decode M.2.1 pc = .ok (.bastore, 1)) (hp : pc + 1 = pc2) (hs : S[q]? = some (2, n, rs)) (hi : vp_in i n) (k : sk_G S d M pc2 lv st (sk_u τ q i.toNatClampNeg x) K) : sk_G S d M pc lv (.int x :: .int i :: .ref q :: st) τ K := by
  subst hp
  intro p l e s m args below meth c H locs ls ad cA D A X
  obtain ⟨hx, hb, hml, hr, hlk, hown, hts, hP, hK, hD, hS, hR, hl⟩ := id X
  refine va_bast hx hb hK hP hD hS q 1 (sk_wl_at (S := S) (ad := ad) (cA := cA) (τ := τ) hs) rfl hi hd (fun H1 locs1 hP1 hD1 hS1 => ?_)
  have hset : (sk_wl S ad cA τ).set q (ad q, .inl (cA 1, n, .inl (upd (fun j => vp_nar .byte (τ q j)) i.toNatClampNeg (vp_nar .byte x)))) = sk_wl S ad cA (sk_u τ q i.toNatClampNeg x) := by
    have e2 : upd (fun j => vp_nar .byte (τ q j)) i.toNatClampNeg (vp_nar .byte x) = fun j => vp_nar .byte (upd (τ q) i.toNatClampNeg x j) := by
      funext j
      unfold upd
      split <;> rfl
    rw [e2]
    exact sk_wl_set hs _
  rw [hset] at hP1 hD1
  exact k p l e s m args below meth c H1 locs1 ls ad cA D A ⟨hx, hb, hml, hr, hlk, hown, hts, hP1, hK, hD1, hS1, hR, hl⟩
theorem sk_alenI {q n : Nat} {rs : List Nat} {v : Int32} (pc2 : Nat) (hd : decode M.2.1 pc = .ok (.arraylength, 1)) (hp : pc + 1 = pc2) (hs : S[q]? = some (1, n, rs)) (hv : Int32.ofNat n = v) (k : sk_G S d M pc2 lv (.int v :: st) τ K) : sk_G S d M pc lv (.ref q :: st) τ K := by
  subst hp
  intro p l e s m args below meth c H locs ls ad cA D A X
  obtain ⟨hx, hb, hml, hr, hlk, hown, hts, hP, hK, hD, hS, hR, hl⟩ := id X
  exact va_alen hx hb hK hP q 0 (sk_wl_at (S := S) (ad := ad) (cA := cA) (τ := τ) hs) rfl hv hd (k p l e s m args below meth c H locs ls ad cA D A X)
theorem sk_dup {v : Value} (pc2 : Nat) (hd : decode M.2.1 pc = .ok (.dup, 1)) (hp : pc + 1 = pc2) (hv : v.category = 1) (k : sk_G S d M pc2 lv (v :: v :: st) τ K) : sk_G S d M pc lv (v :: st) τ K := by
  subst hp
  intro p l e s m args below meth c H locs ls ad cA D A X
  obtain ⟨hx, hb, hml, hr, hlk, hown, hts, hP, hK, hD, hS, hR, hl⟩ := id X
  exact lv_dup hx hb hd (by rw [sk_vm_cat]; exact hv) (k p l e s m args below meth c H locs ls ad cA D A X)
theorem sk_dup2 {v w : Value} (pc2 : Nat) (hd : decode M.2.1 pc = .ok (.dup2, 1)) (hp : pc + 1 = pc2) (hv : v.category = 1) (hw : w.category = 1) (k : sk_G S d M pc2 lv (v :: w :: v :: w :: st) τ K) : sk_G S d M pc lv (v :: w :: st) τ K := by
  subst hp
  intro p l e s m args below meth c H locs ls ad cA D A X
  obtain ⟨hx, hb, hml, hr, hlk, hown, hts, hP, hK, hD, hS, hR, hl⟩ := id X
  exact lv_dup2_11 hx hb hd (by rw [sk_vm_cat]; exact hv) (by rw [sk_vm_cat]; exact hw) (k p l e s m args below meth c H locs ls ad cA D A X)
theorem sk_nm {x : Int32} (k : ∀ y : Int32, y = x → sk_G S d M pc lv (.int y :: st) τ K) : sk_G S d M pc lv (.int x :: st) τ K := k x rfl
theorem sk_nmL {x : Int64} (k : ∀ y : Int64, y = x → sk_G S d M pc lv (.long y :: st) τ K) : sk_G S d M pc lv (.long x :: st) τ K := k x rfl
theorem sk_gsA {idx : Nat} (pc2 : Nat) (hd : decode M.2.1 pc = .ok (.getstatic idx, 3)) (hp : pc + 3 = pc2) (hc : Cond.fieldLink M.1.cls idx "SlateKin$Tile" "ABOVE" "[I" ∈ sk_ALL) (k : sk_G S d M pc2 lv (.ref 1000 :: st) τ K) : sk_G S d M pc lv st τ K := by
  subst hp
  intro p l e s m args below meth c H locs ls ad cA D A X
  obtain ⟨hx, hb, hml, hr, hlk, hown, hts, hP, hK, hD, hS, hR, hl⟩ := id X
  exact va_gets hx hb hR.1.1.1 hS hown (hts _ hc) (fun _ z => z) hd (k p l e s m args below meth c H locs ls ad cA D A X)
theorem sk_gsN {idx : Nat} (pc2 : Nat) (hd : decode M.2.1 pc = .ok (.getstatic idx, 3)) (hp : pc + 3 = pc2) (hc : Cond.fieldLink M.1.cls idx "SlateKin$Reader" "NAMES" "[C" ∈ sk_ALL) (k : sk_G S d M pc2 lv (.ref 1001 :: st) τ K) : sk_G S d M pc lv st τ K := by
  subst hp
  intro p l e s m args below meth c H locs ls ad cA D A X
  obtain ⟨hx, hb, hml, hr, hlk, hown, hts, hP, hK, hD, hS, hR, hl⟩ := id X
  exact va_gets hx hb hR.1.2.1.1 hS hown (hts _ hc) (fun _ z => z) hd (k p l e s m args below meth c H locs ls ad cA D A X)
theorem sk_gsB {idx : Nat} (pc2 : Nat) (hd : decode M.2.1 pc = .ok (.getstatic idx, 3)) (hp : pc + 3 = pc2) (hc : Cond.fieldLink M.1.cls idx "SlateKin$Choir" "BODIES" "[I" ∈ sk_ALL) (k : sk_G S d M pc2 lv (.ref 1002 :: st) τ K) : sk_G S d M pc lv st τ K := by
  subst hp
  intro p l e s m args below meth c H locs ls ad cA D A X
  obtain ⟨hx, hb, hml, hr, hlk, hown, hts, hP, hK, hD, hS, hR, hl⟩ := id X
  exact va_gets hx hb hR.1.2.2.1 hS hown (hts _ hc) (fun _ z => z) hd (k p l e s m args below meth c H locs ls ad cA D A X)
theorem sk_ldA {i : Int32} (pc2 : Nat) (hd : decode M.2.1 pc = .ok (.iaload, 1)) (hp : pc + 1 = pc2) (hi : vp_in i 7) (k : sk_G S d M pc2 lv (.int (sk_above i.toNatClampNeg) :: st) τ K) : sk_G S d M pc lv (.int i :: .ref 1000 :: st) τ K := by
  subst hp
  intro p l e s m args below meth c H locs ls ad cA D A X
  obtain ⟨hx, hb, hml, hr, hlk, hown, hts, hP, hK, hD, hS, hR, hl⟩ := id X
  exact va_ti hx hb hR.1.1.2 hS hi rfl hd (k p l e s m args below meth c H locs ls ad cA D A X)
theorem sk_lenA {v : Int32} (pc2 : Nat) (hd : decode M.2.1 pc = .ok (.arraylength, 1)) (hp : pc + 1 = pc2) (hv : 7 = v) (k : sk_G S d M pc2 lv (.int v :: st) τ K) : sk_G S d M pc lv (.ref 1000 :: st) τ K := by
  subst hp
  subst hv
  intro p l e s m args below meth c H locs ls ad cA D A X
  obtain ⟨hx, hb, hml, hr, hlk, hown, hts, hP, hK, hD, hS, hR, hl⟩ := id X
  exact va_tlen hx hb hR.1.1.2 hS rfl hd (k p l e s m args below meth c H locs ls ad cA D A X)
theorem sk_ldN {i : Int32} (pc2 : Nat) (hd : decode M.2.1 pc = .ok (.caload, 1)) (hp : pc + 1 = pc2) (hi : vp_in i 6) (k : sk_G S d M pc2 lv (.int (sk_names i.toNatClampNeg) :: st) τ K) : sk_G S d M pc lv (.int i :: .ref 1001 :: st) τ K := by
  subst hp
  intro p l e s m args below meth c H locs ls ad cA D A X
  obtain ⟨hx, hb, hml, hr, hlk, hown, hts, hP, hK, hD, hS, hR, hl⟩ := id X
  exact va_tc hx hb hR.1.2.1.2 hS hi rfl hd (k p l e s m args below meth c H locs ls ad cA D A X)
theorem sk_ldB {i : Int32} (pc2 : Nat) (hd : decode M.2.1 pc = .ok (.iaload, 1)) (hp : pc + 1 = pc2) (hi : vp_in i 28) (k : sk_G S d M pc2 lv (.int (sk_bodies i.toNatClampNeg) :: st) τ K) : sk_G S d M pc lv (.int i :: .ref 1002 :: st) τ K := by
  subst hp
  intro p l e s m args below meth c H locs ls ad cA D A X
  obtain ⟨hx, hb, hml, hr, hlk, hown, hts, hP, hK, hD, hS, hR, hl⟩ := id X
  exact va_ti hx hb hR.1.2.2.2 hS hi rfl hd (k p l e s m args below meth c H locs ls ad cA D A X)
def sk_sw (G : Nat → Prop) (x : Int32) : Int → List Nat → Prop
  | _, [] => True
  | n, t :: ts => (x = Int32.ofInt n → G t) ∧ sk_sw G x (n + 1) ts
theorem sk_sw_at {G : Nat → Prop} {x : Int32} : ∀ {ts : List Nat} {n : Int} {k t : Nat}, sk_sw G x n ts → ts[k]? = some t → x = Int32.ofInt (n + k) → G t
  | [], n, k, t, _, h, _ => by simp at h
  | t0 :: ts, n, 0, t, hs, h, hx => by simp at h; subst h; exact hs.1 (by simpa using hx)
  | t0 :: ts, n, k + 1, t, hs, h, hx => sk_sw_at (n := n + 1) (k := k) hs.2 (by simpa using h) (by rw [hx]; congr 1; omega)
theorem sk_table {x : Int32} {dflt lo hi : Int} {offs : Array Int} {len : Nat} (tg : List Nat) (td : Nat) (hd : decode M.2.1 pc = .ok (.tableswitch dflt lo hi offs, len)) (h1 : hi = lo + tg.length - 1) (h2 : -100000 ≤ lo ∧ hi ≤ 100000) (h3 : offs.toList = tg.map (fun t : Nat => (t : Int) - (pc : Int))) (h4 : (pc : Int) + dflt = (td : Int))
    (k : sk_sw (fun t => sk_G S d M t lv st τ K) x lo tg) (kd : (∀ i : Nat, i < tg.length → ¬ x = Int32.ofInt (lo + i)) → sk_G S d M td lv st τ K) : sk_G S d M pc lv (.int x :: st) τ K := by
  intro p l e s m args below meth c H locs ls ad cA D A X
  obtain ⟨hx, hb, hml, hr, hlk, hown, hts, hP, hK, hD, hS, hR, hl⟩ := id X
  by_cases hlo : x.toInt < lo
  · exact lv_tableOut hx hb hd (Or.inl hlo) h4 (kd (fun i hi e => by
      rw [e, Int32.toInt_ofInt_of_le (by omega) (by omega)] at hlo; omega) p l e s m args below meth c H locs ls ad cA D A X)
  · by_cases hhi : hi < x.toInt
    · exact lv_tableOut hx hb hd (Or.inr hhi) h4 (kd (fun i hi e => by
        rw [e, Int32.toInt_ofInt_of_le (by omega) (by omega)] at hhi; omega) p l e s m args below meth c H locs ls ad cA D A X)
    · have hk : (x.toInt - lo).toNat < tg.length := by omega
      obtain ⟨t, ht⟩ : ∃ t, tg[(x.toInt - lo).toNat]? = some t := ⟨_, List.getElem?_eq_getElem hk⟩
      have ho : offs[(x.toInt - lo).toNat]? = some ((t : Int) - pc) := by
        rw [← Array.getElem?_toList, h3, List.getElem?_map, ht]; rfl
      refine lv_tableIn hx hb hd hlo hhi ho (tgt := t) (by omega) (sk_sw_at k ht ?_ p l e s m args below meth c H locs ls ad cA D A X)
      have : lo + ((x.toInt - lo).toNat : Int) = x.toInt := by omega
      rw [this]; exact (Int32.ofInt_toInt x).symm
def sk_lk (G : Nat → Prop) (x : Int32) : List (Int × Nat) → Prop
  | [] => True
  | (n, t) :: ts => (x = Int32.ofInt n → G t) ∧ sk_lk G x ts
theorem sk_lk_go {G : Nat → Prop} {x : Int32} {pc : Nat} {dflt : Int} {td : Nat} (h4 : (pc : Int) + dflt = (td : Int)) : ∀ (tg : List (Int × Nat)), (∀ q ∈ tg, (Int32.ofInt q.1).toInt = q.1) → sk_lk G x tg → ((∀ q ∈ tg, ¬ x = Int32.ofInt q.1) → G td) → ∃ t : Nat, (pc : Int) + Op.lookupswitch.offset (tg.map (fun q : Int × Nat => (q.1, (q.2 : Int) - (pc : Int)))) dflt x.toInt = (t : Int) ∧ G t
  | [], _, _, hd => ⟨td, h4, hd (fun q h => by cases h)⟩
  | (n, t) :: ts, hN, h, hd => by
    by_cases e : x.toInt = n
    · refine ⟨t, ?_, h.1 (by rw [← e, Int32.ofInt_toInt])⟩
      simp [Op.lookupswitch.offset, e]; omega
    · obtain ⟨t2, h1, h2⟩ := sk_lk_go h4 ts (fun q hm => hN q (List.mem_cons_of_mem _ hm)) h.2 (fun hq => hd (fun q hm => by
        rcases List.mem_cons.mp hm with rfl | hm
        · exact fun e2 => e (by rw [e2]; exact hN _ List.mem_cons_self)
        · exact hq q hm))
      refine ⟨t2, ?_, h2⟩
      rw [← h1]
      have e3 : ¬ n = x.toInt := fun z => e z.symm
      simp [Op.lookupswitch.offset, e, e3]
theorem sk_look {x : Int32} {dflt : Int} {ps : Array (Int × Int)} {len : Nat} (tg : List (Int × Nat)) (td : Nat) (hd : decode M.2.1 pc = .ok (.lookupswitch dflt ps, len)) (h1 : (ps.toList.zip (ps.toList.drop 1)).all (fun (a, next) => a.1 < next.1) = true) (h2 : ∀ q ∈ tg, (Int32.ofInt q.1).toInt = q.1) (h3 : ps.toList = tg.map (fun q : Int × Nat => (q.1, (q.2 : Int) - (pc : Int)))) (h4 : (pc : Int) + dflt = (td : Int))
    (k : sk_lk (fun t => sk_G S d M t lv st τ K) x tg) (kd : (∀ q ∈ tg, ¬ x = Int32.ofInt q.1) → sk_G S d M td lv st τ K) : sk_G S d M pc lv (.int x :: st) τ K := by
  intro p l e s m args below meth c H locs ls ad cA D A X
  obtain ⟨hx, hb, hml, hr, hlk, hown, hts, hP, hK, hD, hS, hR, hl⟩ := id X
  obtain ⟨t, ht, hG⟩ := sk_lk_go h4 tg h2 k kd
  rw [← h3] at ht
  exact lv_lookup hx hb hd h1 rfl ht (hG p l e s m args below meth c H locs ls ad cA D A X)
theorem sk_iret {x : Int32} {ty : FieldType} (hd : decode M.2.1 pc = .ok (.ireturn, 1)) (hrt : M.2.2.2 = some ty) (hn : narrow ty (.int x) = .int x) (k : K (some (.int x)) τ) : sk_G S d M pc lv [.int x] τ K := by
  intro p l e s m args below meth c H locs ls ad cA D A X
  obtain ⟨hx, hb, hml, hr, hlk, hown, hts, hP, hK, hD, hS, hR, hl⟩ := id X
  exact W.zret hx hb (hr.trans hrt) hn (fun t ht hW => ⟨some (.int x), τ, rfl, k, ⟨by rw [ht]; exact hP, va_K.moved hW.alike hK, hD, (hR.1.moved hW.alike).kept (fun a h1 h2 => by rw [ht]; exact hS.2.1 a h1 h2)⟩, hS.F ht⟩) hS.2.2 hd hlk
theorem sk_lret {x : Int64} (hd : decode M.2.1 pc = .ok (.lreturn, 1)) (hrt : M.2.2.2 = some .long) (k : K (some (.long x)) τ) : sk_G S d M pc lv [.long x] τ K := by
  intro p l e s m args below meth c H locs ls ad cA D A X
  obtain ⟨hx, hb, hml, hr, hlk, hown, hts, hP, hK, hD, hS, hR, hl⟩ := id X
  exact W.lret hx hb (hr.trans hrt) (fun t ht hW => ⟨some (.long x), τ, rfl, k, ⟨by rw [ht]; exact hP, va_K.moved hW.alike hK, hD, (hR.1.moved hW.alike).kept (fun a h1 h2 => by rw [ht]; exact hS.2.1 a h1 h2)⟩, hS.F ht⟩) hS.2.2 hd hlk
theorem sk_vret (hd : decode M.2.1 pc = .ok (.return_, 1)) (hrt : M.2.2.2 = none) (k : K none τ) : sk_G S d M pc lv [] τ K := by
  intro p l e s m args below meth c H locs ls ad cA D A X
  obtain ⟨hx, hb, hml, hr, hlk, hown, hts, hP, hK, hD, hS, hR, hl⟩ := id X
  exact W.vret hx hb (hr.trans hrt) (fun t ht hW => ⟨none, τ, rfl, k, ⟨by rw [ht]; exact hP, va_K.moved hW.alike hK, hD, (hR.1.moved hW.alike).kept (fun a h1 h2 => by rw [ht]; exact hS.2.1 a h1 h2)⟩, hS.F ht⟩) hS.2.2 hd hlk
end
/-- what a call says, to the caller's own walk -/
theorem sk_run {p : Program} {l : Launch} {e : Env} {R : Room} {s : State} {m : MethodId} {args : Array Value} {below : List Frame} {meth : Method} {c : Code} {H : Heap} {locs : List Loc} {cells slots : Nat} {Q : State → Prop} {pc : Nat} {ls : Array Slot} {rest st0 : List Value} {a : Array Value} {A : Nat → Prop} {S : List sk_Sh} {ad : Nat → Nat} {cA : Nat → ClassId} {D : va_G} {K : sk_K} {H0 : Heap} {A0 : Nat → Prop}
    (hr : va_Run p l e R s m args below meth c H locs cells slots 0 0 (F0 m pc ls st0) rest (sk_Qc S ad cA D A K a) A) (hS : va_S A0 H0 H locs) (hA : ∀ q, A q → A0 q)
    (kk : ∀ (v : Option Value) (τ2 : sk_T) (t : State) (H1 : Heap) (locs1 : List Loc), t.heap = H1 → s.vm.Alike t.vm → K v τ2 → sk_Wd S ad cA D A τ2 t → (∀ q : Nat, q < H.size → ¬ A q → H1[q]? = H[q]?) → va_S A0 H0 H1 locs1 → W p l e R s m args below meth c H1 locs1 cells slots Q (F0 m (pc + 3) ls ((v.map (sk_vm ad)).toList ++ rest))) : W p l e R s m args below meth c H locs cells slots Q (F0 m pc ls st0) := by
  intro T hT X
  obtain ⟨v, st₀, t, T', L, h0, X', hL, e1, e2, ⟨v2, τ2, hv, hk, hw, hz, hq⟩, st⟩ := hr T hT X
  cases hv
  rw [h0] at hz hq
  obtain ⟨t2, a1, b1⟩ := kk v2 τ2 t T'.heap (locs ++ L) e1.symm (by rw [← e2]; exact X'.warmed.alike) hk hw (fun q h1 h2 => by rw [e1]; exact hq q h1 h2)
    ⟨Nat.le_trans hS.1 (by rw [e1]; exact hz), fun q h1 h2 => by rw [e1, hq q (Nat.lt_of_lt_of_le h1 hS.1) (fun z => h2 (hA q z))]; exact hS.2.1 q h1 h2, fun q hq => by
      rcases List.mem_append.mp hq with h | h
      · exact hS.2.2 q h
      · exact hA _ (hL q h)⟩ T' rfl X'
  exact ⟨t2, st t2 a1, b1⟩
theorem sk_pre {S : List sk_Sh} {ad : Nat → Nat} {cA : Nat → ClassId} {D : va_G} {A : Nat → Prop} {τ : sk_T} {vs : List Value} {s : State} {H : Heap} {locs : List Loc} (hP : va_P D vwCl (sk_wl S ad cA τ) H) (hK : va_K D vwCl (sk_tys cA) s) (hD : va_D A (sk_wl S ad cA τ)) (hq : ∀ q : Nat, q < s.heap.size → ¬ A q → H[q]? = s.heap[q]?) (hR : sk_Ro ad A s s.heap) (hN : sk_NW s) :
    FrameBlind (va_Pc (vs.map (sk_vm ad)) (fun U => sk_Wd S ad cA D A τ U ∧ sk_NW U)) ∧ ∀ U : State, U.heap = H → s.WarmedH U.vm → va_Pc (vs.map (sk_vm ad)) (fun U => sk_Wd S ad cA D A τ U ∧ sk_NW U) (vs.map (sk_vm ad)).toArray U := by
  refine ⟨fun a U g mk q => ?_, fun U hU hW => ?_⟩
  · obtain ⟨q0, ⟨qP, qK, qD, qR⟩, qN⟩ := q
    exact ⟨q0, ⟨qP, va_K.moved (u := U) (U := U.calling g mk a) (Vm.Alike.refl U.vm) qK, qD, sk_Ro.moved (u := U) (U := U.calling g mk a) (Vm.Alike.refl U.vm) qR⟩, sk_NW.same (u := U) (U := U.calling g mk a) rfl qN⟩
  · exact ⟨rfl, ⟨by rw [hU]; exact hP, va_K.moved hW.alike hK, hD, (hR.moved hW.alike).kept (fun a h1 h2 => by rw [hU]; exact hq a h1 h2)⟩, hN.warm hW⟩
theorem sk_goodM {M : sk_M} {n : Nat} (mf : sk_MF M n) : GoodIn sk_ALL (sk_ws M) := by
  intro w h
  rcases List.mem_cons.mp h with rfl | h
  · exact ⟨mf.1, good_of_word (sk_good _ mf.1)⟩
  · exact sk_goodIn w h
theorem sk_rmL {d n : Nat} (h0 : 0 < d) (h : n ≤ 21) : (sk_rm (d - 1)).frames + 1 ≤ (sk_rm d).frames ∧ 8 + (n + 11) + (sk_rm (d - 1)).locals ≤ (sk_rm d).locals := by
  refine ⟨?_, ?_⟩
  · show d - 1 + 1 ≤ d
    omega
  · show 8 + (n + 11) + 40 * (d - 1) ≤ 40 * d
    omega
def sk_LV (own : String) (idx : Nat) (y : MethodName) : Prop := Cond.methodLink own idx y ∈ sk_ALL ∨ ∃ host, Cond.methodLinkNest own idx y host ∈ sk_NL
section
variable {S : List sk_Sh} {d : Nat} {M : sk_M} {pc : Nat} {lv : sk_L} {st : List Value} {τ : sk_T} {K : sk_K}
theorem sk_callV {M2 : sk_M} {n idx q ci : Nat} {cs : List Nat} {r : vw_C} (As rest : List Value) (pc2 : Nat) (hd : decode M.2.1 pc = .ok (.invokevirtual idx, 3)) (hp : pc + 3 = pc2) (mf : sk_MF M2 n) (hl : sk_LV M.1.cls idx M2.1) (hi : Cond.instanceMethod M2.1 ∈ sk_ALL) (hse : Cond.selects M2.1.cls M2.1 M2.1 ∈ sk_ALL)
    (hs : S[q]? = some (0, ci, cs)) (hci : vwCl[ci]? = some r) (hrc : r.1 = M2.1.cls) (hn : As.length = n) (hst : st = As.reverse ++ .ref q :: rest) (hcat : (rest.map fun v => v.category).sum ≤ 8) (h0 : 0 < d)
    (k : sk_C S (d - 1) M2 (.ref q :: As) τ (fun v τ2 => sk_G S d M pc2 lv (v.toList ++ rest) τ2 K)) : sk_G S d M pc lv st τ K := by
  subst hp
  subst hst
  intro p l e s m args below meth c H locs ls ad cA D A X
  obtain ⟨hx, hb, hml, hr, hlk, hown, hts, hP, hK, hD, hS, hR, hl9⟩ := id X
  have hfr := sk_rmL (d := d) (n := M2.2.2.1) h0 mf.2.2.2.2.2.2
  have hpre := sk_pre (vs := .ref q :: As) (locs := locs) hP hK hD hS.2.1 hR.1 hR.2
  have hst2 : List.map (sk_vm ad) (As.reverse ++ Value.ref q :: rest) = (As.map (sk_vm ad)).reverse ++ .ref (ad q) :: rest.map (sk_vm ad) := by rw [List.map_append, List.map_reverse]; rfl
  have hrun : va_Run p l e (sk_rm d) s m args below meth c H locs 0 0 0 0 (F0 m pc ls ((As.reverse ++ Value.ref q :: rest).map (sk_vm ad))) (rest.map (sk_vm ad)) (sk_Qc S ad cA D A (fun v τ2 => sk_G S d M (pc + 3) lv (v.toList ++ rest) τ2 K) (Value.ref (ad q) :: As.map (sk_vm ad)).toArray) A := by
    rcases hl with hl | ⟨host, hl⟩
    · exact va_runV (C := M2.1.cls) (As := As.map (sk_vm ad)) ⟨hx, hb, hml, hown, hts⟩ (k l ad cA D A) ⟨callB_of (index := idx) n hts (sk_goodM mf) rfl rfl rfl (hts _ mf.2.1) (hts _ hl) ⟨mf.2.2.2.1, mf.2.2.2.2.1, mf.2.2.2.2.2.1⟩ hfr, hts _ hi, hts _ hse⟩ ⟨hpre.1, hrc ▸ va_recv hK hP hci (sk_wl_at (S := S) (ad := ad) (cA := cA) (τ := τ) hs), hpre.2⟩ rfl (by rw [List.length_map]; exact hn) hl9.1 hst2 (lv_room (by rw [sk_cat_m]; exact hcat)) hd ⟨Nat.le_refl _, Nat.le_refl _⟩
    · exact va_runVN (C := M2.1.cls) (host := host) (As := As.map (sk_vm ad)) ⟨hx, hb, hml, hown, hts⟩ (k l ad cA D A) ⟨va_cnB (index := idx) n hts (sk_goodM mf) rfl rfl rfl (hR.2 _ hl) (hts _ mf.2.1) ⟨mf.2.2.2.1, mf.2.2.2.2.1, mf.2.2.2.2.2.1⟩ hfr, hts _ hi, hts _ hse⟩ ⟨hpre.1, hrc ▸ va_recv hK hP hci (sk_wl_at (S := S) (ad := ad) (cA := cA) (τ := τ) hs), hpre.2⟩ rfl (by rw [List.length_map]; exact hn) hl9.1 hst2 (lv_room (by rw [sk_cat_m]; exact hcat)) hd ⟨Nat.le_refl _, Nat.le_refl _⟩
  refine sk_run hrun hS (fun _ h => h) (fun v τ2 t H1 locs1 ht hvm hk hw hq hS1 => ?_)
  obtain ⟨hP1, hK1, hD1, hR1⟩ := hw
  rw [ht] at hP1
  have hkk := hk p l e s m args below meth c H1 locs1 ls ad cA D A ⟨hx, hb, hml, hr, hlk, hown, hts, hP1, hK, hD1, hS1, hR, hl9⟩
  have e5 : (v.toList ++ rest).map (sk_vm ad) = (v.map (sk_vm ad)).toList ++ rest.map (sk_vm ad) := by cases v <;> simp
  rw [e5] at hkk
  exact hkk
theorem sk_callS {M2 : sk_M} {n idx : Nat} (As rest : List Value) (pc2 : Nat) (hd : decode M.2.1 pc = .ok (.invokestatic idx, 3)) (hp : pc + 3 = pc2) (mf : sk_MF M2 n) (hl : sk_LV M.1.cls idx M2.1) (hi : Cond.static M2.1 ∈ sk_ALL)
    (hn : As.length = n) (hst : st = As.reverse ++ rest) (hcat : (rest.map fun v => v.category).sum ≤ 8) (h0 : 0 < d)
    (k : sk_C S (d - 1) M2 As τ (fun v τ2 => sk_G S d M pc2 lv (v.toList ++ rest) τ2 K)) : sk_G S d M pc lv st τ K := by
  subst hp
  subst hst
  intro p l e s m args below meth c H locs ls ad cA D A X
  obtain ⟨hx, hb, hml, hr, hlk, hown, hts, hP, hK, hD, hS, hR, hl9⟩ := id X
  have hfr := sk_rmL (d := d) (n := M2.2.2.1) h0 mf.2.2.2.2.2.2
  have hpre := sk_pre (vs := As) (locs := locs) hP hK hD hS.2.1 hR.1 hR.2
  have hst2 : List.map (sk_vm ad) (As.reverse ++ rest) = (As.map (sk_vm ad)).reverse ++ rest.map (sk_vm ad) := by rw [List.map_append, List.map_reverse]
  have hrun : va_Run p l e (sk_rm d) s m args below meth c H locs 0 0 0 0 (F0 m pc ls ((As.reverse ++ rest).map (sk_vm ad))) (rest.map (sk_vm ad)) (sk_Qc S ad cA D A (fun v τ2 => sk_G S d M (pc + 3) lv (v.toList ++ rest) τ2 K) (As.map (sk_vm ad)).toArray) A := by
    rcases hl with hl | ⟨host, hl⟩
    · exact va_runS (As := As.map (sk_vm ad)) ⟨hx, hb, hml, hown, hts⟩ (k l ad cA D A) ⟨callB_of (index := idx) n hts (sk_goodM mf) rfl rfl rfl (hts _ mf.2.1) (hts _ hl) ⟨mf.2.2.2.1, mf.2.2.2.2.1, mf.2.2.2.2.2.1⟩ hfr, hts _ hi⟩ ⟨hpre.1, hpre.2⟩ rfl (by rw [List.length_map]; exact hn) hl9.1 hst2 (lv_room (by rw [sk_cat_m]; exact hcat)) hd ⟨Nat.le_refl _, Nat.le_refl _⟩
    · exact va_runSN (host := host) (As := As.map (sk_vm ad)) ⟨hx, hb, hml, hown, hts⟩ (k l ad cA D A) ⟨va_cnB (index := idx) n hts (sk_goodM mf) rfl rfl rfl (hR.2 _ hl) (hts _ mf.2.1) ⟨mf.2.2.2.1, mf.2.2.2.2.1, mf.2.2.2.2.2.1⟩ hfr, hts _ hi, trivial⟩ ⟨hpre.1, hpre.2⟩ rfl (by rw [List.length_map]; exact hn) hl9.1 hst2 (lv_room (by rw [sk_cat_m]; exact hcat)) hd ⟨Nat.le_refl _, Nat.le_refl _⟩
  refine sk_run hrun hS (fun _ h => h) (fun v τ2 t H1 locs1 ht hvm hk hw hq hS1 => ?_)
  obtain ⟨hP1, hK1, hD1, hR1⟩ := hw
  rw [ht] at hP1
  have hkk := hk p l e s m args below meth c H1 locs1 ls ad cA D A ⟨hx, hb, hml, hr, hlk, hown, hts, hP1, hK, hD1, hS1, hR, hl9⟩
  have e5 : (v.toList ++ rest).map (sk_vm ad) = (v.map (sk_vm ad)).toList ++ rest.map (sk_vm ad) := by cases v <;> simp
  rw [e5] at hkk
  exact hkk
theorem sk_copyI {idx q0 q1 n0 n1 : Nat} {r0 r1 : List Nat} {sp dp n : Int32} (pc2 : Nat) (hd : decode M.2.1 pc = .ok (.invokestatic idx, 3)) (hp : pc + 3 = pc2) (hl : Cond.methodLink M.1.cls idx arraycopyName ∈ sk_ALL) (hw : Cond.native arraycopyName ∈ sk_ALL ∧ Cond.static arraycopyName ∈ sk_ALL ∧ Cond.initialized "java/lang/System" ∈ sk_ALL)
    (hs0 : S[q0]? = some (1, n0, r0)) (hs1 : S[q1]? = some (1, n1, r1)) (h1 : ¬ sp < 0) (h2 : ¬ dp < 0) (h3 : ¬ n < 0) (h4 : sp.toNatClampNeg + n.toNatClampNeg ≤ n0) (h5 : dp.toNatClampNeg + n.toNatClampNeg ≤ n1) (hcat : (st.map fun v => v.category).sum ≤ 8) (h0 : 0 < d)
    (k : sk_G S d M pc2 lv st (sk_w τ q1 (va_cpy (τ q0) (τ q1) sp.toNatClampNeg dp.toNatClampNeg n.toNatClampNeg)) K) : sk_G S d M pc lv (.int n :: .int dp :: .ref q1 :: .int sp :: .ref q0 :: st) τ K := by
  subst hp
  intro p l e s m args below meth c H locs ls ad cA D A X
  obtain ⟨hx, hb, hml, hr, hlk, hown, hts, hP, hK, hD, hS, hR, hl9⟩ := id X
  refine va_copyi hx hb (hml.trans hl9.1.symm) hown (hts _ hl) (hts _ hw.1) (hts _ hw.2.1) (hts _ hw.2.2) hK hP hD hS q0 q1 0 0 (sk_wl_at (S := S) (ad := ad) (cA := cA) (τ := τ) hs0) (sk_wl_at (S := S) (ad := ad) (cA := cA) (τ := τ) hs1) rfl rfl rfl h1 h2 h3 h4 h5 (fun i hi => rfl) (show 1 ≤ d from h0) (by rw [sk_cat_m]; show _ + (7 + 11) ≤ 40 * d; omega) hd (fun H1 locs1 hP1 hD1 hS1 => ?_)
  have hset : (sk_wl S ad cA τ).set q1 (ad q1, .inl (cA 0, n1, .inl (va_cpy (τ q0) (τ q1) sp.toNatClampNeg dp.toNatClampNeg n.toNatClampNeg))) = sk_wl S ad cA (sk_w τ q1 (va_cpy (τ q0) (τ q1) sp.toNatClampNeg dp.toNatClampNeg n.toNatClampNeg)) := sk_wl_set hs1 _
  rw [hset] at hP1 hD1
  exact k p l e s m args below meth c H1 locs1 ls ad cA D A ⟨hx, hb, hml, hr, hlk, hown, hts, hP1, hK, hD1, hS1, hR, hl9⟩
theorem sk_copyB {idx q0 q1 n0 n1 : Nat} {r0 r1 : List Nat} {sp dp n : Int32} (pc2 : Nat) (hd : decode M.2.1 pc = .ok (.invokestatic idx, 3)) (hp : pc + 3 = pc2) (hl : Cond.methodLink M.1.cls idx arraycopyName ∈ sk_ALL) (hw : Cond.native arraycopyName ∈ sk_ALL ∧ Cond.static arraycopyName ∈ sk_ALL ∧ Cond.initialized "java/lang/System" ∈ sk_ALL)
    (hs0 : S[q0]? = some (2, n0, r0)) (hs1 : S[q1]? = some (2, n1, r1)) (h1 : ¬ sp < 0) (h2 : ¬ dp < 0) (h3 : ¬ n < 0) (h4 : sp.toNatClampNeg + n.toNatClampNeg ≤ n0) (h5 : dp.toNatClampNeg + n.toNatClampNeg ≤ n1) (hcat : (st.map fun v => v.category).sum ≤ 8) (h0 : 0 < d)
    (k : sk_G S d M pc2 lv st (sk_w τ q1 (va_cpy (τ q0) (τ q1) sp.toNatClampNeg dp.toNatClampNeg n.toNatClampNeg)) K) : sk_G S d M pc lv (.int n :: .int dp :: .ref q1 :: .int sp :: .ref q0 :: st) τ K := by
  subst hp
  intro p l e s m args below meth c H locs ls ad cA D A X
  obtain ⟨hx, hb, hml, hr, hlk, hown, hts, hP, hK, hD, hS, hR, hl9⟩ := id X
  refine va_copyi hx hb (hml.trans hl9.1.symm) hown (hts _ hl) (hts _ hw.1) (hts _ hw.2.1) (hts _ hw.2.2) hK hP hD hS q0 q1 1 1 (sk_wl_at (S := S) (ad := ad) (cA := cA) (τ := τ) hs0) (sk_wl_at (S := S) (ad := ad) (cA := cA) (τ := τ) hs1) rfl rfl rfl h1 h2 h3 h4 h5 (fun i hi => pk_fb _) (show 1 ≤ d from h0) (by rw [sk_cat_m]; show _ + (7 + 11) ≤ 40 * d; omega) hd (fun H1 locs1 hP1 hD1 hS1 => ?_)
  have hset : (sk_wl S ad cA τ).set q1 (ad q1, .inl (cA 1, n1, .inl (va_cpy (fun j => vp_nar .byte (τ q0 j)) (fun j => vp_nar .byte (τ q1 j)) sp.toNatClampNeg dp.toNatClampNeg n.toNatClampNeg))) = sk_wl S ad cA (sk_w τ q1 (va_cpy (τ q0) (τ q1) sp.toNatClampNeg dp.toNatClampNeg n.toNatClampNeg)) := by
    have e2 : va_cpy (fun j => vp_nar .byte (τ q0 j)) (fun j => vp_nar .byte (τ q1 j)) sp.toNatClampNeg dp.toNatClampNeg n.toNatClampNeg = fun j => vp_nar .byte (va_cpy (τ q0) (τ q1) sp.toNatClampNeg dp.toNatClampNeg n.toNatClampNeg j) := by
      funext j
      unfold va_cpy
      split <;> rfl
    rw [e2]
    exact sk_wl_set hs1 _
  rw [hset] at hP1 hD1
  exact k p l e s m args below meth c H1 locs1 ls ad cA D A ⟨hx, hb, hml, hr, hlk, hown, hts, hP1, hK, hD1, hS1, hR, hl9⟩
theorem sk_enter {n : Nat} {vs : List Value} (mf : sk_MF M n) (hlen : (lg_sl vs).length ≤ M.2.2.1) (k : sk_G S d M 0 (lv_args 0 vs) [] τ K) : sk_C S d M vs τ K := by
  intro l ad cA D A
  refine Met.ofW (cc := M.2.1) (maxL := M.2.2.1) (ret := M.2.2.2) mf.2.2.1 rfl ?_
  intro p e s m args below meth c s₁ B hml hv
  obtain ⟨rfl, ⟨hP, hK, hD, hR⟩, hN⟩ := hv
  have hts := atoms_spec (ws := sk_ws M) B.pre
  rw [lg_entry_eq, sk_sl_len]
  have hl := lv_entry (vs.map (sk_vm ad)) (n := M.2.2.1) (by rw [sk_sl_len]; exact hlen)
  rw [sk_args_m, sk_sl_len] at hl
  exact k p l e s m _ below meth c s.heap [] _ ad cA D A ⟨B.exec, B.bytes, hml, B.returns, B.notSynchronized, findClass_of_methodNamed B.named, fun w hw => hts w (List.mem_cons_of_mem _ hw), hP, hK, hD, va_S.rf, ⟨hR, hN⟩, hl⟩
theorem sk_Cm {M2 : sk_M} {vs : List Value} {K2 : sk_K} (h : sk_C S d M2 vs τ K) (hk : ∀ v τ2, K v τ2 → K2 v τ2) : sk_C S d M2 vs τ K2 := by
  intro l ad cA D A
  have h1 := h l ad cA D A
  intro p e ha hc hk2 s m args below hf hpre hP hcalls
  obtain ⟨t, o, a1, a2, a3, ⟨⟨v, τ2, b1, b2, b3⟩, b4⟩⟩ := h1 p e ha hc hk2 s m args below hf hpre hP hcalls
  exact ⟨t, o, a1, a2, a3, ⟨⟨v, τ2, b1, hk v τ2 b2, b3⟩, b4⟩⟩
end
end
