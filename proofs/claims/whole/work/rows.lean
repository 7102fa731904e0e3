section
-- ===== PART A: goes FIRST, ahead of the names: the tables' words, and 'selects' of the private methods out of them =====
/-- a private method of a class that the tables say can be made, by its rows of tables_1 -/
def lw_okq (q : MethodName × Nat) : Prop := (q.1.cls ≠ "java/lang/invoke/MethodHandle" ∧ q.1.cls ≠ "java/lang/invoke/VarHandle") ∧ Cond.instantiable q.1.cls q.2 ∈ tables_1 ∧ Cond.privateMethod q.1 ∈ tables_1 ∧ Cond.instanceMethod q.1 ∈ tables_1
theorem lw_p0 : lw_okq (⟨"CardPasses", "found", "(I)I"⟩, 12) := ⟨⟨by decide +kernel, by decide +kernel⟩, List.mem_of_getElem? (i := 10) (by decide +kernel), List.mem_of_getElem? (i := 193) (by decide +kernel), List.mem_of_getElem? (i := 194) (by decide +kernel)⟩
theorem lw_p1 : lw_okq (⟨"CardPasses$Shelf", "make", "(III)V"⟩, 3) := ⟨⟨by decide +kernel, by decide +kernel⟩, List.mem_of_getElem? (i := 18) (by decide +kernel), List.mem_of_getElem? (i := 197) (by decide +kernel), List.mem_of_getElem? (i := 198) (by decide +kernel)⟩
theorem lw_p2 : lw_okq (⟨"CardPasses", "refusedPlace", "(II)I"⟩, 12) := ⟨⟨by decide +kernel, by decide +kernel⟩, List.mem_of_getElem? (i := 10) (by decide +kernel), List.mem_of_getElem? (i := 205) (by decide +kernel), List.mem_of_getElem? (i := 206) (by decide +kernel)⟩
theorem lw_p3 : lw_okq (⟨"CardPasses", "refusedRow", "(I)I"⟩, 12) := ⟨⟨by decide +kernel, by decide +kernel⟩, List.mem_of_getElem? (i := 10) (by decide +kernel), List.mem_of_getElem? (i := 209) (by decide +kernel), List.mem_of_getElem? (i := 210) (by decide +kernel)⟩
theorem lw_p4 : lw_okq (⟨"CardPasses$Shelf", "holds", "(I)Z"⟩, 3) := ⟨⟨by decide +kernel, by decide +kernel⟩, List.mem_of_getElem? (i := 18) (by decide +kernel), List.mem_of_getElem? (i := 213) (by decide +kernel), List.mem_of_getElem? (i := 214) (by decide +kernel)⟩
theorem lw_p5 : lw_okq (⟨"CardPasses$Shelf", "sizeOf", "(I)I"⟩, 3) := ⟨⟨by decide +kernel, by decide +kernel⟩, List.mem_of_getElem? (i := 18) (by decide +kernel), List.mem_of_getElem? (i := 217) (by decide +kernel), List.mem_of_getElem? (i := 218) (by decide +kernel)⟩
theorem lw_p6 : lw_okq (⟨"CardPasses$Shelf", "spans", "(III)Z"⟩, 3) := ⟨⟨by decide +kernel, by decide +kernel⟩, List.mem_of_getElem? (i := 18) (by decide +kernel), List.mem_of_getElem? (i := 221) (by decide +kernel), List.mem_of_getElem? (i := 222) (by decide +kernel)⟩
theorem lw_p7 : lw_okq (⟨"CardPasses$Shelf", "get", "(II)I"⟩, 3) := ⟨⟨by decide +kernel, by decide +kernel⟩, List.mem_of_getElem? (i := 18) (by decide +kernel), List.mem_of_getElem? (i := 225) (by decide +kernel), List.mem_of_getElem? (i := 226) (by decide +kernel)⟩
theorem lw_p8 : lw_okq (⟨"CardPasses$Shelf", "set", "(III)V"⟩, 3) := ⟨⟨by decide +kernel, by decide +kernel⟩, List.mem_of_getElem? (i := 18) (by decide +kernel), List.mem_of_getElem? (i := 230) (by decide +kernel), List.mem_of_getElem? (i := 231) (by decide +kernel)⟩
theorem lw_p9 : lw_okq (⟨"CardPasses$Shelf", "remove", "(I)V"⟩, 3) := ⟨⟨by decide +kernel, by decide +kernel⟩, List.mem_of_getElem? (i := 18) (by decide +kernel), List.mem_of_getElem? (i := 242) (by decide +kernel), List.mem_of_getElem? (i := 243) (by decide +kernel)⟩
theorem lw_p10 : lw_okq (⟨"CardPasses", "refusedText", "(I)I"⟩, 12) := ⟨⟨by decide +kernel, by decide +kernel⟩, List.mem_of_getElem? (i := 10) (by decide +kernel), List.mem_of_getElem? (i := 266) (by decide +kernel), List.mem_of_getElem? (i := 267) (by decide +kernel)⟩
theorem lw_p11 : lw_okq (⟨"CardPasses$Reader", "faultOf", "(LCardPasses$Shelf;I)I"⟩, 3) := ⟨⟨by decide +kernel, by decide +kernel⟩, List.mem_of_getElem? (i := 35) (by decide +kernel), List.mem_of_getElem? (i := 274) (by decide +kernel), List.mem_of_getElem? (i := 275) (by decide +kernel)⟩
theorem lw_p12 : lw_okq (⟨"CardPasses$Deck", "begin", "(LCardPasses$Reader;)V"⟩, 10) := ⟨⟨by decide +kernel, by decide +kernel⟩, List.mem_of_getElem? (i := 54) (by decide +kernel), List.mem_of_getElem? (i := 289) (by decide +kernel), List.mem_of_getElem? (i := 290) (by decide +kernel)⟩
theorem lw_p13 : lw_okq (⟨"CardPasses$Deck", "redo", "(I)V"⟩, 10) := ⟨⟨by decide +kernel, by decide +kernel⟩, List.mem_of_getElem? (i := 54) (by decide +kernel), List.mem_of_getElem? (i := 293) (by decide +kernel), List.mem_of_getElem? (i := 294) (by decide +kernel)⟩
theorem lw_p14 : lw_okq (⟨"CardPasses$Deck", "carryOut", "(I)V"⟩, 10) := ⟨⟨by decide +kernel, by decide +kernel⟩, List.mem_of_getElem? (i := 54) (by decide +kernel), List.mem_of_getElem? (i := 297) (by decide +kernel), List.mem_of_getElem? (i := 298) (by decide +kernel)⟩
theorem lw_p15 : lw_okq (⟨"CardPasses$Deck", "sift", "([I[IIII)V"⟩, 10) := ⟨⟨by decide +kernel, by decide +kernel⟩, List.mem_of_getElem? (i := 54) (by decide +kernel), List.mem_of_getElem? (i := 301) (by decide +kernel), List.mem_of_getElem? (i := 302) (by decide +kernel)⟩
def lw_privs_1 : List (MethodName × Nat) := [(⟨"CardPasses", "found", "(I)I"⟩, 12), (⟨"CardPasses$Shelf", "make", "(III)V"⟩, 3), (⟨"CardPasses", "refusedPlace", "(II)I"⟩, 12), (⟨"CardPasses", "refusedRow", "(I)I"⟩, 12), (⟨"CardPasses$Shelf", "holds", "(I)Z"⟩, 3), (⟨"CardPasses$Shelf", "sizeOf", "(I)I"⟩, 3), (⟨"CardPasses$Shelf", "spans", "(III)Z"⟩, 3), (⟨"CardPasses$Shelf", "get", "(II)I"⟩, 3), (⟨"CardPasses$Shelf", "set", "(III)V"⟩, 3), (⟨"CardPasses$Shelf", "remove", "(I)V"⟩, 3), (⟨"CardPasses", "refusedText", "(I)I"⟩, 12), (⟨"CardPasses$Reader", "faultOf", "(LCardPasses$Shelf;I)I"⟩, 3), (⟨"CardPasses$Deck", "begin", "(LCardPasses$Reader;)V"⟩, 10), (⟨"CardPasses$Deck", "redo", "(I)V"⟩, 10), (⟨"CardPasses$Deck", "carryOut", "(I)V"⟩, 10), (⟨"CardPasses$Deck", "sift", "([I[IIII)V"⟩, 10)]
theorem lw_r1 : ∀ q ∈ lw_privs_1, lw_okq q := List.forall_mem_cons.mpr ⟨lw_p0, List.forall_mem_cons.mpr ⟨lw_p1, List.forall_mem_cons.mpr ⟨lw_p2, List.forall_mem_cons.mpr ⟨lw_p3, List.forall_mem_cons.mpr ⟨lw_p4, List.forall_mem_cons.mpr ⟨lw_p5, List.forall_mem_cons.mpr ⟨lw_p6, List.forall_mem_cons.mpr ⟨lw_p7, List.forall_mem_cons.mpr ⟨lw_p8, List.forall_mem_cons.mpr ⟨lw_p9, List.forall_mem_cons.mpr ⟨lw_p10, List.forall_mem_cons.mpr ⟨lw_p11, List.forall_mem_cons.mpr ⟨lw_p12, List.forall_mem_cons.mpr ⟨lw_p13, List.forall_mem_cons.mpr ⟨lw_p14, List.forall_mem_cons.mpr ⟨lw_p15, fun _ h => absurd h List.not_mem_nil⟩⟩⟩⟩⟩⟩⟩⟩⟩⟩⟩⟩⟩⟩⟩⟩
theorem lw_p16 : lw_okq (⟨"CardPasses$Deck", "turnOver", "()V"⟩, 10) := ⟨⟨by decide +kernel, by decide +kernel⟩, List.mem_of_getElem? (i := 54) (by decide +kernel), List.mem_of_getElem? (i := 323) (by decide +kernel), List.mem_of_getElem? (i := 324) (by decide +kernel)⟩
theorem lw_p17 : lw_okq (⟨"CardPasses$Deck", "liftOff", "(I)V"⟩, 10) := ⟨⟨by decide +kernel, by decide +kernel⟩, List.mem_of_getElem? (i := 54) (by decide +kernel), List.mem_of_getElem? (i := 327) (by decide +kernel), List.mem_of_getElem? (i := 328) (by decide +kernel)⟩
theorem lw_p18 : lw_okq (⟨"CardPasses", "isCard", "(I)Z"⟩, 12) := ⟨⟨by decide +kernel, by decide +kernel⟩, List.mem_of_getElem? (i := 10) (by decide +kernel), List.mem_of_getElem? (i := 335) (by decide +kernel), List.mem_of_getElem? (i := 336) (by decide +kernel)⟩
theorem lw_p19 : lw_okq (⟨"CardPasses", "cardFact", "(II)I"⟩, 12) := ⟨⟨by decide +kernel, by decide +kernel⟩, List.mem_of_getElem? (i := 10) (by decide +kernel), List.mem_of_getElem? (i := 339) (by decide +kernel), List.mem_of_getElem? (i := 340) (by decide +kernel)⟩
theorem lw_p20 : lw_okq (⟨"CardPasses$Deck", "figureOf", "(II)I"⟩, 10) := ⟨⟨by decide +kernel, by decide +kernel⟩, List.mem_of_getElem? (i := 54) (by decide +kernel), List.mem_of_getElem? (i := 343) (by decide +kernel), List.mem_of_getElem? (i := 344) (by decide +kernel)⟩
theorem lw_p21 : lw_okq (⟨"CardPasses$Deck", "placeOf", "(I)I"⟩, 10) := ⟨⟨by decide +kernel, by decide +kernel⟩, List.mem_of_getElem? (i := 54) (by decide +kernel), List.mem_of_getElem? (i := 347) (by decide +kernel), List.mem_of_getElem? (i := 348) (by decide +kernel)⟩
theorem lw_p22 : lw_okq (⟨"CardPasses$Deck", "readsBehind", "(III)I"⟩, 10) := ⟨⟨by decide +kernel, by decide +kernel⟩, List.mem_of_getElem? (i := 54) (by decide +kernel), List.mem_of_getElem? (i := 354) (by decide +kernel), List.mem_of_getElem? (i := 355) (by decide +kernel)⟩
theorem lw_p23 : lw_okq (⟨"CardPasses", "markedColumns", "(II)I"⟩, 12) := ⟨⟨by decide +kernel, by decide +kernel⟩, List.mem_of_getElem? (i := 10) (by decide +kernel), List.mem_of_getElem? (i := 367) (by decide +kernel), List.mem_of_getElem? (i := 368) (by decide +kernel)⟩
theorem lw_p24 : lw_okq (⟨"CardPasses", "refusedDeeds", "(I)I"⟩, 12) := ⟨⟨by decide +kernel, by decide +kernel⟩, List.mem_of_getElem? (i := 10) (by decide +kernel), List.mem_of_getElem? (i := 378) (by decide +kernel), List.mem_of_getElem? (i := 379) (by decide +kernel)⟩
theorem lw_p25 : lw_okq (⟨"CardPasses$Deck", "add", "(I)I"⟩, 10) := ⟨⟨by decide +kernel, by decide +kernel⟩, List.mem_of_getElem? (i := 54) (by decide +kernel), List.mem_of_getElem? (i := 385) (by decide +kernel), List.mem_of_getElem? (i := 386) (by decide +kernel)⟩
theorem lw_p26 : lw_okq (⟨"CardPasses", "allColumns", "(I)Z"⟩, 12) := ⟨⟨by decide +kernel, by decide +kernel⟩, List.mem_of_getElem? (i := 10) (by decide +kernel), List.mem_of_getElem? (i := 422) (by decide +kernel), List.mem_of_getElem? (i := 423) (by decide +kernel)⟩
theorem lw_p27 : lw_okq (⟨"CardPasses$Trial", "passAll", "(LCardPasses$Deck;LCardPasses$Shelf;I)[I"⟩, 8) := ⟨⟨by decide +kernel, by decide +kernel⟩, List.mem_of_getElem? (i := 102) (by decide +kernel), List.mem_of_getElem? (i := 426) (by decide +kernel), List.mem_of_getElem? (i := 427) (by decide +kernel)⟩
theorem lw_p28 : lw_okq (⟨"CardPasses$Trial", "start", "(LCardPasses$Deck;)V"⟩, 8) := ⟨⟨by decide +kernel, by decide +kernel⟩, List.mem_of_getElem? (i := 102) (by decide +kernel), List.mem_of_getElem? (i := 430) (by decide +kernel), List.mem_of_getElem? (i := 431) (by decide +kernel)⟩
theorem lw_p29 : lw_okq (⟨"CardPasses$Shelf", "fill", "(I[II)V"⟩, 3) := ⟨⟨by decide +kernel, by decide +kernel⟩, List.mem_of_getElem? (i := 18) (by decide +kernel), List.mem_of_getElem? (i := 441) (by decide +kernel), List.mem_of_getElem? (i := 442) (by decide +kernel)⟩
theorem lw_p30 : lw_okq (⟨"CardPasses$Trial", "wantPlace", "(II)V"⟩, 8) := ⟨⟨by decide +kernel, by decide +kernel⟩, List.mem_of_getElem? (i := 102) (by decide +kernel), List.mem_of_getElem? (i := 451) (by decide +kernel), List.mem_of_getElem? (i := 452) (by decide +kernel)⟩
theorem lw_p31 : lw_okq (⟨"CardPasses", "soughtInto", "(I)I"⟩, 12) := ⟨⟨by decide +kernel, by decide +kernel⟩, List.mem_of_getElem? (i := 10) (by decide +kernel), List.mem_of_getElem? (i := 455) (by decide +kernel), List.mem_of_getElem? (i := 456) (by decide +kernel)⟩
def lw_privs_2 : List (MethodName × Nat) := [(⟨"CardPasses$Deck", "turnOver", "()V"⟩, 10), (⟨"CardPasses$Deck", "liftOff", "(I)V"⟩, 10), (⟨"CardPasses", "isCard", "(I)Z"⟩, 12), (⟨"CardPasses", "cardFact", "(II)I"⟩, 12), (⟨"CardPasses$Deck", "figureOf", "(II)I"⟩, 10), (⟨"CardPasses$Deck", "placeOf", "(I)I"⟩, 10), (⟨"CardPasses$Deck", "readsBehind", "(III)I"⟩, 10), (⟨"CardPasses", "markedColumns", "(II)I"⟩, 12), (⟨"CardPasses", "refusedDeeds", "(I)I"⟩, 12), (⟨"CardPasses$Deck", "add", "(I)I"⟩, 10), (⟨"CardPasses", "allColumns", "(I)Z"⟩, 12), (⟨"CardPasses$Trial", "passAll", "(LCardPasses$Deck;LCardPasses$Shelf;I)[I"⟩, 8), (⟨"CardPasses$Trial", "start", "(LCardPasses$Deck;)V"⟩, 8), (⟨"CardPasses$Shelf", "fill", "(I[II)V"⟩, 3), (⟨"CardPasses$Trial", "wantPlace", "(II)V"⟩, 8), (⟨"CardPasses", "soughtInto", "(I)I"⟩, 12)]
theorem lw_r2 : ∀ q ∈ lw_privs_2, lw_okq q := List.forall_mem_cons.mpr ⟨lw_p16, List.forall_mem_cons.mpr ⟨lw_p17, List.forall_mem_cons.mpr ⟨lw_p18, List.forall_mem_cons.mpr ⟨lw_p19, List.forall_mem_cons.mpr ⟨lw_p20, List.forall_mem_cons.mpr ⟨lw_p21, List.forall_mem_cons.mpr ⟨lw_p22, List.forall_mem_cons.mpr ⟨lw_p23, List.forall_mem_cons.mpr ⟨lw_p24, List.forall_mem_cons.mpr ⟨lw_p25, List.forall_mem_cons.mpr ⟨lw_p26, List.forall_mem_cons.mpr ⟨lw_p27, List.forall_mem_cons.mpr ⟨lw_p28, List.forall_mem_cons.mpr ⟨lw_p29, List.forall_mem_cons.mpr ⟨lw_p30, List.forall_mem_cons.mpr ⟨lw_p31, fun _ h => absurd h List.not_mem_nil⟩⟩⟩⟩⟩⟩⟩⟩⟩⟩⟩⟩⟩⟩⟩⟩
theorem lw_p32 : lw_okq (⟨"CardPasses$Trial", "seek", "(LCardPasses$Deck;)I"⟩, 8) := ⟨⟨by decide +kernel, by decide +kernel⟩, List.mem_of_getElem? (i := 102) (by decide +kernel), List.mem_of_getElem? (i := 459) (by decide +kernel), List.mem_of_getElem? (i := 460) (by decide +kernel)⟩
theorem lw_p33 : lw_okq (⟨"CardPasses$Trial", "reaches", "(LCardPasses$Deck;III)Z"⟩, 8) := ⟨⟨by decide +kernel, by decide +kernel⟩, List.mem_of_getElem? (i := 102) (by decide +kernel), List.mem_of_getElem? (i := 463) (by decide +kernel), List.mem_of_getElem? (i := 464) (by decide +kernel)⟩
theorem lw_p34 : lw_okq (⟨"CardPasses$Trial", "inOrder", "(LCardPasses$Deck;[II)Z"⟩, 8) := ⟨⟨by decide +kernel, by decide +kernel⟩, List.mem_of_getElem? (i := 102) (by decide +kernel), List.mem_of_getElem? (i := 467) (by decide +kernel), List.mem_of_getElem? (i := 468) (by decide +kernel)⟩
theorem lw_p35 : lw_okq (⟨"CardPasses$Trial", "wantOrder", "(I)V"⟩, 8) := ⟨⟨by decide +kernel, by decide +kernel⟩, List.mem_of_getElem? (i := 102) (by decide +kernel), List.mem_of_getElem? (i := 476) (by decide +kernel), List.mem_of_getElem? (i := 477) (by decide +kernel)⟩
theorem lw_p36 : lw_okq (⟨"CardPasses", "eachCardOnce", "(I)Z"⟩, 12) := ⟨⟨by decide +kernel, by decide +kernel⟩, List.mem_of_getElem? (i := 10) (by decide +kernel), List.mem_of_getElem? (i := 484) (by decide +kernel), List.mem_of_getElem? (i := 485) (by decide +kernel)⟩
theorem lw_p37 : lw_okq (⟨"CardPasses$Trial", "passOnce", "(LCardPasses$Deck;II)[I"⟩, 8) := ⟨⟨by decide +kernel, by decide +kernel⟩, List.mem_of_getElem? (i := 102) (by decide +kernel), List.mem_of_getElem? (i := 488) (by decide +kernel), List.mem_of_getElem? (i := 489) (by decide +kernel)⟩
theorem lw_p38 : lw_okq (⟨"CardPasses", "liesAs", "(I[I)Z"⟩, 12) := ⟨⟨by decide +kernel, by decide +kernel⟩, List.mem_of_getElem? (i := 10) (by decide +kernel), List.mem_of_getElem? (i := 492) (by decide +kernel), List.mem_of_getElem? (i := 493) (by decide +kernel)⟩
theorem lw_p39 : lw_okq (⟨"CardPasses", "refusedClues", "(III)I"⟩, 12) := ⟨⟨by decide +kernel, by decide +kernel⟩, List.mem_of_getElem? (i := 10) (by decide +kernel), List.mem_of_getElem? (i := 500) (by decide +kernel), List.mem_of_getElem? (i := 501) (by decide +kernel)⟩
theorem lw_p40 : lw_okq (⟨"CardPasses$Clues", "kindsOf", "(LCardPasses$Deck;ILCardPasses$Shelf;I)I"⟩, 2) := ⟨⟨by decide +kernel, by decide +kernel⟩, List.mem_of_getElem? (i := 136) (by decide +kernel), List.mem_of_getElem? (i := 504) (by decide +kernel), List.mem_of_getElem? (i := 505) (by decide +kernel)⟩
theorem lw_p41 : lw_okq (⟨"CardPasses$Clues", "suppose", "(LCardPasses$Deck;I)V"⟩, 2) := ⟨⟨by decide +kernel, by decide +kernel⟩, List.mem_of_getElem? (i := 136) (by decide +kernel), List.mem_of_getElem? (i := 508) (by decide +kernel), List.mem_of_getElem? (i := 509) (by decide +kernel)⟩
theorem lw_p42 : lw_okq (⟨"CardPasses$Clues", "fits", "(IILCardPasses$Shelf;I)Z"⟩, 2) := ⟨⟨by decide +kernel, by decide +kernel⟩, List.mem_of_getElem? (i := 136) (by decide +kernel), List.mem_of_getElem? (i := 513) (by decide +kernel), List.mem_of_getElem? (i := 514) (by decide +kernel)⟩
theorem lw_p43 : lw_okq (⟨"CardPasses$Clues", "figuresOf", "(LCardPasses$Deck;IILCardPasses$Shelf;I)I"⟩, 2) := ⟨⟨by decide +kernel, by decide +kernel⟩, List.mem_of_getElem? (i := 136) (by decide +kernel), List.mem_of_getElem? (i := 524) (by decide +kernel), List.mem_of_getElem? (i := 525) (by decide +kernel)⟩
theorem lw_p44 : lw_okq (⟨"CardPasses$Clues", "greatestPart", "(LCardPasses$Deck;III)I"⟩, 2) := ⟨⟨by decide +kernel, by decide +kernel⟩, List.mem_of_getElem? (i := 136) (by decide +kernel), List.mem_of_getElem? (i := 532) (by decide +kernel), List.mem_of_getElem? (i := 533) (by decide +kernel)⟩
theorem lw_p45 : lw_okq (⟨"CardPasses", "refusedSum", "(II)I"⟩, 12) := ⟨⟨by decide +kernel, by decide +kernel⟩, List.mem_of_getElem? (i := 10) (by decide +kernel), List.mem_of_getElem? (i := 541) (by decide +kernel), List.mem_of_getElem? (i := 542) (by decide +kernel)⟩
theorem lw_p46 : lw_okq (⟨"CardPasses$Deck", "sumOf", "(II)I"⟩, 10) := ⟨⟨by decide +kernel, by decide +kernel⟩, List.mem_of_getElem? (i := 54) (by decide +kernel), List.mem_of_getElem? (i := 545) (by decide +kernel), List.mem_of_getElem? (i := 546) (by decide +kernel)⟩
theorem lw_p47 : lw_okq (⟨"CardPasses", "tellParts", "(JJ)V"⟩, 12) := ⟨⟨by decide +kernel, by decide +kernel⟩, List.mem_of_getElem? (i := 10) (by decide +kernel), List.mem_of_getElem? (i := 550) (by decide +kernel), List.mem_of_getElem? (i := 551) (by decide +kernel)⟩
def lw_privs_3 : List (MethodName × Nat) := [(⟨"CardPasses$Trial", "seek", "(LCardPasses$Deck;)I"⟩, 8), (⟨"CardPasses$Trial", "reaches", "(LCardPasses$Deck;III)Z"⟩, 8), (⟨"CardPasses$Trial", "inOrder", "(LCardPasses$Deck;[II)Z"⟩, 8), (⟨"CardPasses$Trial", "wantOrder", "(I)V"⟩, 8), (⟨"CardPasses", "eachCardOnce", "(I)Z"⟩, 12), (⟨"CardPasses$Trial", "passOnce", "(LCardPasses$Deck;II)[I"⟩, 8), (⟨"CardPasses", "liesAs", "(I[I)Z"⟩, 12), (⟨"CardPasses", "refusedClues", "(III)I"⟩, 12), (⟨"CardPasses$Clues", "kindsOf", "(LCardPasses$Deck;ILCardPasses$Shelf;I)I"⟩, 2), (⟨"CardPasses$Clues", "suppose", "(LCardPasses$Deck;I)V"⟩, 2), (⟨"CardPasses$Clues", "fits", "(IILCardPasses$Shelf;I)Z"⟩, 2), (⟨"CardPasses$Clues", "figuresOf", "(LCardPasses$Deck;IILCardPasses$Shelf;I)I"⟩, 2), (⟨"CardPasses$Clues", "greatestPart", "(LCardPasses$Deck;III)I"⟩, 2), (⟨"CardPasses", "refusedSum", "(II)I"⟩, 12), (⟨"CardPasses$Deck", "sumOf", "(II)I"⟩, 10), (⟨"CardPasses", "tellParts", "(JJ)V"⟩, 12)]
theorem lw_r3 : ∀ q ∈ lw_privs_3, lw_okq q := List.forall_mem_cons.mpr ⟨lw_p32, List.forall_mem_cons.mpr ⟨lw_p33, List.forall_mem_cons.mpr ⟨lw_p34, List.forall_mem_cons.mpr ⟨lw_p35, List.forall_mem_cons.mpr ⟨lw_p36, List.forall_mem_cons.mpr ⟨lw_p37, List.forall_mem_cons.mpr ⟨lw_p38, List.forall_mem_cons.mpr ⟨lw_p39, List.forall_mem_cons.mpr ⟨lw_p40, List.forall_mem_cons.mpr ⟨lw_p41, List.forall_mem_cons.mpr ⟨lw_p42, List.forall_mem_cons.mpr ⟨lw_p43, List.forall_mem_cons.mpr ⟨lw_p44, List.forall_mem_cons.mpr ⟨lw_p45, List.forall_mem_cons.mpr ⟨lw_p46, List.forall_mem_cons.mpr ⟨lw_p47, fun _ h => absurd h List.not_mem_nil⟩⟩⟩⟩⟩⟩⟩⟩⟩⟩⟩⟩⟩⟩⟩⟩
theorem lw_p48 : lw_okq (⟨"CardPasses$Trial", "duelOf", "(LCardPasses$Deck;III)I"⟩, 8) := ⟨⟨by decide +kernel, by decide +kernel⟩, List.mem_of_getElem? (i := 102) (by decide +kernel), List.mem_of_getElem? (i := 565) (by decide +kernel), List.mem_of_getElem? (i := 566) (by decide +kernel)⟩
theorem lw_p49 : lw_okq (⟨"CardPasses$Trial", "outcome", "(LCardPasses$Deck;IIII)I"⟩, 8) := ⟨⟨by decide +kernel, by decide +kernel⟩, List.mem_of_getElem? (i := 102) (by decide +kernel), List.mem_of_getElem? (i := 569) (by decide +kernel), List.mem_of_getElem? (i := 570) (by decide +kernel)⟩
theorem lw_p50 : lw_okq (⟨"CardPasses$Trial", "step", "(LCardPasses$Deck;III)I"⟩, 8) := ⟨⟨by decide +kernel, by decide +kernel⟩, List.mem_of_getElem? (i := 102) (by decide +kernel), List.mem_of_getElem? (i := 574) (by decide +kernel), List.mem_of_getElem? (i := 575) (by decide +kernel)⟩
theorem lw_p51 : lw_okq (⟨"CardPasses", "isChance", "(III)Z"⟩, 12) := ⟨⟨by decide +kernel, by decide +kernel⟩, List.mem_of_getElem? (i := 10) (by decide +kernel), List.mem_of_getElem? (i := 584) (by decide +kernel), List.mem_of_getElem? (i := 585) (by decide +kernel)⟩
theorem lw_p52 : lw_okq (⟨"CardPasses", "weightOf", "(II)J"⟩, 12) := ⟨⟨by decide +kernel, by decide +kernel⟩, List.mem_of_getElem? (i := 10) (by decide +kernel), List.mem_of_getElem? (i := 588) (by decide +kernel), List.mem_of_getElem? (i := 589) (by decide +kernel)⟩
theorem lw_p53 : lw_okq (⟨"CardPasses", "allWeights", "()J"⟩, 12) := ⟨⟨by decide +kernel, by decide +kernel⟩, List.mem_of_getElem? (i := 10) (by decide +kernel), List.mem_of_getElem? (i := 592) (by decide +kernel), List.mem_of_getElem? (i := 593) (by decide +kernel)⟩
theorem lw_p54 : lw_okq (⟨"CardPasses", "counted", "(I)I"⟩, 12) := ⟨⟨by decide +kernel, by decide +kernel⟩, List.mem_of_getElem? (i := 10) (by decide +kernel), List.mem_of_getElem? (i := 627) (by decide +kernel), List.mem_of_getElem? (i := 628) (by decide +kernel)⟩
theorem lw_p55 : lw_okq (⟨"CardPasses$Deck", "sumOfAll", "()I"⟩, 10) := ⟨⟨by decide +kernel, by decide +kernel⟩, List.mem_of_getElem? (i := 54) (by decide +kernel), List.mem_of_getElem? (i := 631) (by decide +kernel), List.mem_of_getElem? (i := 632) (by decide +kernel)⟩
theorem lw_p56 : lw_okq (⟨"CardPasses$Deck", "manyOf", "(I)I"⟩, 10) := ⟨⟨by decide +kernel, by decide +kernel⟩, List.mem_of_getElem? (i := 54) (by decide +kernel), List.mem_of_getElem? (i := 636) (by decide +kernel), List.mem_of_getElem? (i := 637) (by decide +kernel)⟩
theorem lw_p57 : lw_okq (⟨"CardPasses$Shelf", "held", "()I"⟩, 3) := ⟨⟨by decide +kernel, by decide +kernel⟩, List.mem_of_getElem? (i := 18) (by decide +kernel), List.mem_of_getElem? (i := 641) (by decide +kernel), List.mem_of_getElem? (i := 642) (by decide +kernel)⟩
theorem lw_p58 : lw_okq (⟨"CardPasses$Shelf", "digestOn", "(J)J"⟩, 3) := ⟨⟨by decide +kernel, by decide +kernel⟩, List.mem_of_getElem? (i := 18) (by decide +kernel), List.mem_of_getElem? (i := 659) (by decide +kernel), List.mem_of_getElem? (i := 660) (by decide +kernel)⟩
theorem lw_p59 : lw_okq (⟨"CardPassesModel", "found", "(I)I"⟩, 22) := ⟨⟨by decide +kernel, by decide +kernel⟩, List.mem_of_getElem? (i := 665) (by decide +kernel), List.mem_of_getElem? (i := 750) (by decide +kernel), List.mem_of_getElem? (i := 751) (by decide +kernel)⟩
theorem lw_p60 : lw_okq (⟨"CardPassesModel", "tell", "(I)I"⟩, 22) := ⟨⟨by decide +kernel, by decide +kernel⟩, List.mem_of_getElem? (i := 665) (by decide +kernel), List.mem_of_getElem? (i := 758) (by decide +kernel), List.mem_of_getElem? (i := 759) (by decide +kernel)⟩
theorem lw_p61 : lw_okq (⟨"CardPassesModel", "reads", "(I)I"⟩, 22) := ⟨⟨by decide +kernel, by decide +kernel⟩, List.mem_of_getElem? (i := 665) (by decide +kernel), List.mem_of_getElem? (i := 794) (by decide +kernel), List.mem_of_getElem? (i := 795) (by decide +kernel)⟩
theorem lw_p62 : lw_okq (⟨"CardPassesModel", "isCard", "(I)Z"⟩, 22) := ⟨⟨by decide +kernel, by decide +kernel⟩, List.mem_of_getElem? (i := 665) (by decide +kernel), List.mem_of_getElem? (i := 814) (by decide +kernel), List.mem_of_getElem? (i := 815) (by decide +kernel)⟩
theorem lw_p63 : lw_okq (⟨"CardPassesModel", "readOn", "([III)I"⟩, 22) := ⟨⟨by decide +kernel, by decide +kernel⟩, List.mem_of_getElem? (i := 665) (by decide +kernel), List.mem_of_getElem? (i := 822) (by decide +kernel), List.mem_of_getElem? (i := 823) (by decide +kernel)⟩
def lw_privs_4 : List (MethodName × Nat) := [(⟨"CardPasses$Trial", "duelOf", "(LCardPasses$Deck;III)I"⟩, 8), (⟨"CardPasses$Trial", "outcome", "(LCardPasses$Deck;IIII)I"⟩, 8), (⟨"CardPasses$Trial", "step", "(LCardPasses$Deck;III)I"⟩, 8), (⟨"CardPasses", "isChance", "(III)Z"⟩, 12), (⟨"CardPasses", "weightOf", "(II)J"⟩, 12), (⟨"CardPasses", "allWeights", "()J"⟩, 12), (⟨"CardPasses", "counted", "(I)I"⟩, 12), (⟨"CardPasses$Deck", "sumOfAll", "()I"⟩, 10), (⟨"CardPasses$Deck", "manyOf", "(I)I"⟩, 10), (⟨"CardPasses$Shelf", "held", "()I"⟩, 3), (⟨"CardPasses$Shelf", "digestOn", "(J)J"⟩, 3), (⟨"CardPassesModel", "found", "(I)I"⟩, 22), (⟨"CardPassesModel", "tell", "(I)I"⟩, 22), (⟨"CardPassesModel", "reads", "(I)I"⟩, 22), (⟨"CardPassesModel", "isCard", "(I)Z"⟩, 22), (⟨"CardPassesModel", "readOn", "([III)I"⟩, 22)]
theorem lw_r4 : ∀ q ∈ lw_privs_4, lw_okq q := List.forall_mem_cons.mpr ⟨lw_p48, List.forall_mem_cons.mpr ⟨lw_p49, List.forall_mem_cons.mpr ⟨lw_p50, List.forall_mem_cons.mpr ⟨lw_p51, List.forall_mem_cons.mpr ⟨lw_p52, List.forall_mem_cons.mpr ⟨lw_p53, List.forall_mem_cons.mpr ⟨lw_p54, List.forall_mem_cons.mpr ⟨lw_p55, List.forall_mem_cons.mpr ⟨lw_p56, List.forall_mem_cons.mpr ⟨lw_p57, List.forall_mem_cons.mpr ⟨lw_p58, List.forall_mem_cons.mpr ⟨lw_p59, List.forall_mem_cons.mpr ⟨lw_p60, List.forall_mem_cons.mpr ⟨lw_p61, List.forall_mem_cons.mpr ⟨lw_p62, List.forall_mem_cons.mpr ⟨lw_p63, fun _ h => absurd h List.not_mem_nil⟩⟩⟩⟩⟩⟩⟩⟩⟩⟩⟩⟩⟩⟩⟩⟩
theorem lw_p64 : lw_okq (⟨"CardPassesModel", "remembers", "()V"⟩, 22) := ⟨⟨by decide +kernel, by decide +kernel⟩, List.mem_of_getElem? (i := 665) (by decide +kernel), List.mem_of_getElem? (i := 844) (by decide +kernel), List.mem_of_getElem? (i := 845) (by decide +kernel)⟩
theorem lw_p65 : lw_okq (⟨"CardPassesModel", "passes", "([II)V"⟩, 22) := ⟨⟨by decide +kernel, by decide +kernel⟩, List.mem_of_getElem? (i := 665) (by decide +kernel), List.mem_of_getElem? (i := 848) (by decide +kernel), List.mem_of_getElem? (i := 849) (by decide +kernel)⟩
theorem lw_p66 : lw_okq (⟨"CardPassesModel", "falls", "([III)V"⟩, 22) := ⟨⟨by decide +kernel, by decide +kernel⟩, List.mem_of_getElem? (i := 665) (by decide +kernel), List.mem_of_getElem? (i := 852) (by decide +kernel), List.mem_of_getElem? (i := 853) (by decide +kernel)⟩
theorem lw_p67 : lw_okq (⟨"CardPassesModel", "turns", "()V"⟩, 22) := ⟨⟨by decide +kernel, by decide +kernel⟩, List.mem_of_getElem? (i := 665) (by decide +kernel), List.mem_of_getElem? (i := 863) (by decide +kernel), List.mem_of_getElem? (i := 864) (by decide +kernel)⟩
theorem lw_p68 : lw_okq (⟨"CardPassesModel", "lifts", "(I)V"⟩, 22) := ⟨⟨by decide +kernel, by decide +kernel⟩, List.mem_of_getElem? (i := 665) (by decide +kernel), List.mem_of_getElem? (i := 871) (by decide +kernel), List.mem_of_getElem? (i := 872) (by decide +kernel)⟩
theorem lw_p69 : lw_okq (⟨"CardPassesModel", "laysAside", "()V"⟩, 22) := ⟨⟨by decide +kernel, by decide +kernel⟩, List.mem_of_getElem? (i := 665) (by decide +kernel), List.mem_of_getElem? (i := 904) (by decide +kernel), List.mem_of_getElem? (i := 905) (by decide +kernel)⟩
theorem lw_p70 : lw_okq (⟨"CardPassesModel", "lays", "(II)V"⟩, 22) := ⟨⟨by decide +kernel, by decide +kernel⟩, List.mem_of_getElem? (i := 665) (by decide +kernel), List.mem_of_getElem? (i := 908) (by decide +kernel), List.mem_of_getElem? (i := 909) (by decide +kernel)⟩
theorem lw_p71 : lw_okq (⟨"CardPassesModel", "firstRow", "(III)I"⟩, 22) := ⟨⟨by decide +kernel, by decide +kernel⟩, List.mem_of_getElem? (i := 665) (by decide +kernel), List.mem_of_getElem? (i := 916) (by decide +kernel), List.mem_of_getElem? (i := 917) (by decide +kernel)⟩
theorem lw_p72 : lw_okq (⟨"CardPassesModel", "isOrdered", "([II)Z"⟩, 22) := ⟨⟨by decide +kernel, by decide +kernel⟩, List.mem_of_getElem? (i := 665) (by decide +kernel), List.mem_of_getElem? (i := 920) (by decide +kernel), List.mem_of_getElem? (i := 921) (by decide +kernel)⟩
theorem lw_p73 : lw_okq (⟨"CardPassesModel", "pairs", "(I)I"⟩, 22) := ⟨⟨by decide +kernel, by decide +kernel⟩, List.mem_of_getElem? (i := 665) (by decide +kernel), List.mem_of_getElem? (i := 936) (by decide +kernel), List.mem_of_getElem? (i := 937) (by decide +kernel)⟩
theorem lw_p74 : lw_okq (⟨"CardPassesModel", "kindsBy", "(II)I"⟩, 22) := ⟨⟨by decide +kernel, by decide +kernel⟩, List.mem_of_getElem? (i := 665) (by decide +kernel), List.mem_of_getElem? (i := 941) (by decide +kernel), List.mem_of_getElem? (i := 942) (by decide +kernel)⟩
theorem lw_p75 : lw_okq (⟨"CardPassesModel", "comesSo", "(III)Z"⟩, 22) := ⟨⟨by decide +kernel, by decide +kernel⟩, List.mem_of_getElem? (i := 665) (by decide +kernel), List.mem_of_getElem? (i := 945) (by decide +kernel), List.mem_of_getElem? (i := 946) (by decide +kernel)⟩
theorem lw_p76 : lw_okq (⟨"CardPassesModel", "answer", "(II)I"⟩, 22) := ⟨⟨by decide +kernel, by decide +kernel⟩, List.mem_of_getElem? (i := 665) (by decide +kernel), List.mem_of_getElem? (i := 957) (by decide +kernel), List.mem_of_getElem? (i := 958) (by decide +kernel)⟩
theorem lw_p77 : lw_okq (⟨"CardPassesModel", "comesTo", "(III)Z"⟩, 22) := ⟨⟨by decide +kernel, by decide +kernel⟩, List.mem_of_getElem? (i := 665) (by decide +kernel), List.mem_of_getElem? (i := 966) (by decide +kernel), List.mem_of_getElem? (i := 967) (by decide +kernel)⟩
theorem lw_p78 : lw_okq (⟨"CardPassesModel", "leadBy", "(IIII)I"⟩, 22) := ⟨⟨by decide +kernel, by decide +kernel⟩, List.mem_of_getElem? (i := 665) (by decide +kernel), List.mem_of_getElem? (i := 978) (by decide +kernel), List.mem_of_getElem? (i := 979) (by decide +kernel)⟩
theorem lw_p79 : lw_okq (⟨"CardPassesModel", "chance", "(IIIZ)I"⟩, 22) := ⟨⟨by decide +kernel, by decide +kernel⟩, List.mem_of_getElem? (i := 665) (by decide +kernel), List.mem_of_getElem? (i := 986) (by decide +kernel), List.mem_of_getElem? (i := 987) (by decide +kernel)⟩
def lw_privs_5 : List (MethodName × Nat) := [(⟨"CardPassesModel", "remembers", "()V"⟩, 22), (⟨"CardPassesModel", "passes", "([II)V"⟩, 22), (⟨"CardPassesModel", "falls", "([III)V"⟩, 22), (⟨"CardPassesModel", "turns", "()V"⟩, 22), (⟨"CardPassesModel", "lifts", "(I)V"⟩, 22), (⟨"CardPassesModel", "laysAside", "()V"⟩, 22), (⟨"CardPassesModel", "lays", "(II)V"⟩, 22), (⟨"CardPassesModel", "firstRow", "(III)I"⟩, 22), (⟨"CardPassesModel", "isOrdered", "([II)Z"⟩, 22), (⟨"CardPassesModel", "pairs", "(I)I"⟩, 22), (⟨"CardPassesModel", "kindsBy", "(II)I"⟩, 22), (⟨"CardPassesModel", "comesSo", "(III)Z"⟩, 22), (⟨"CardPassesModel", "answer", "(II)I"⟩, 22), (⟨"CardPassesModel", "comesTo", "(III)Z"⟩, 22), (⟨"CardPassesModel", "leadBy", "(IIII)I"⟩, 22), (⟨"CardPassesModel", "chance", "(IIIZ)I"⟩, 22)]
theorem lw_r5 : ∀ q ∈ lw_privs_5, lw_okq q := List.forall_mem_cons.mpr ⟨lw_p64, List.forall_mem_cons.mpr ⟨lw_p65, List.forall_mem_cons.mpr ⟨lw_p66, List.forall_mem_cons.mpr ⟨lw_p67, List.forall_mem_cons.mpr ⟨lw_p68, List.forall_mem_cons.mpr ⟨lw_p69, List.forall_mem_cons.mpr ⟨lw_p70, List.forall_mem_cons.mpr ⟨lw_p71, List.forall_mem_cons.mpr ⟨lw_p72, List.forall_mem_cons.mpr ⟨lw_p73, List.forall_mem_cons.mpr ⟨lw_p74, List.forall_mem_cons.mpr ⟨lw_p75, List.forall_mem_cons.mpr ⟨lw_p76, List.forall_mem_cons.mpr ⟨lw_p77, List.forall_mem_cons.mpr ⟨lw_p78, List.forall_mem_cons.mpr ⟨lw_p79, fun _ h => absurd h List.not_mem_nil⟩⟩⟩⟩⟩⟩⟩⟩⟩⟩⟩⟩⟩⟩⟩⟩
theorem lw_p80 : lw_okq (⟨"CardPassesModel", "weigh", "(II)J"⟩, 22) := ⟨⟨by decide +kernel, by decide +kernel⟩, List.mem_of_getElem? (i := 665) (by decide +kernel), List.mem_of_getElem? (i := 991) (by decide +kernel), List.mem_of_getElem? (i := 992) (by decide +kernel)⟩
theorem lw_p81 : lw_okq (⟨"CardPassesModel", "tellsPart", "(JJ)V"⟩, 22) := ⟨⟨by decide +kernel, by decide +kernel⟩, List.mem_of_getElem? (i := 665) (by decide +kernel), List.mem_of_getElem? (i := 995) (by decide +kernel), List.mem_of_getElem? (i := 996) (by decide +kernel)⟩
theorem lw_p82 : lw_okq (⟨"CardPassesModel", "figuresAll", "()I"⟩, 22) := ⟨⟨by decide +kernel, by decide +kernel⟩, List.mem_of_getElem? (i := 665) (by decide +kernel), List.mem_of_getElem? (i := 1030) (by decide +kernel), List.mem_of_getElem? (i := 1031) (by decide +kernel)⟩
theorem lw_p83 : lw_okq (⟨"CardPassesModel", "of", "(II)I"⟩, 22) := ⟨⟨by decide +kernel, by decide +kernel⟩, List.mem_of_getElem? (i := 665) (by decide +kernel), List.mem_of_getElem? (i := 1034) (by decide +kernel), List.mem_of_getElem? (i := 1035) (by decide +kernel)⟩
def lw_privs_6 : List (MethodName × Nat) := [(⟨"CardPassesModel", "weigh", "(II)J"⟩, 22), (⟨"CardPassesModel", "tellsPart", "(JJ)V"⟩, 22), (⟨"CardPassesModel", "figuresAll", "()I"⟩, 22), (⟨"CardPassesModel", "of", "(II)I"⟩, 22)]
theorem lw_r6 : ∀ q ∈ lw_privs_6, lw_okq q := List.forall_mem_cons.mpr ⟨lw_p80, List.forall_mem_cons.mpr ⟨lw_p81, List.forall_mem_cons.mpr ⟨lw_p82, List.forall_mem_cons.mpr ⟨lw_p83, fun _ h => absurd h List.not_mem_nil⟩⟩⟩⟩
def lw_privs : List (MethodName × Nat) := lw_privs_1 ++ (lw_privs_2 ++ (lw_privs_3 ++ (lw_privs_4 ++ (lw_privs_5 ++ (lw_privs_6)))))
def lw_tbl : List Cond := k2_sels lw_privs ++ tables_1
theorem lw_privs_ok : ∀ q ∈ lw_privs, lw_okq q := by
  show ∀ q ∈ lw_privs_1 ++ (lw_privs_2 ++ (lw_privs_3 ++ (lw_privs_4 ++ (lw_privs_5 ++ (lw_privs_6))))), lw_okq q
  exact List.forall_mem_append.mpr ⟨lw_r1, List.forall_mem_append.mpr ⟨lw_r2, List.forall_mem_append.mpr ⟨lw_r3, List.forall_mem_append.mpr ⟨lw_r4, List.forall_mem_append.mpr ⟨lw_r5, lw_r6⟩⟩⟩⟩⟩
-- ===== end of PART A; then your names; then what follows =====
end
section
/-! ===== BEGIN words of one list among another's, by their places ===== -/
theorem goodIn_r {big : List Cond} (ws : List Cond) (ps : List Nat) (hp : ws = ps.filterMap (fun i => big[i]?)) (h : ws.all goodWord = true) : GoodIn big ws := by
  intro w hw
  have h1 := List.all_eq_true.mp h w hw
  rw [hp] at hw
  obtain ⟨i, -, hi⟩ := List.mem_filterMap.mp hw
  have hm : w ∈ big := by first | exact List.mem_of_getElem? hi | exact List.getElem?_mem hi
  exact ⟨hm, good_of_word h1⟩
theorem goodIn_app {big a b : List Cond} (ha : GoodIn big a) (hb : GoodIn big b) : GoodIn big (a ++ b) := fun w h => (List.mem_append.mp h).elim (ha w) (hb w)
theorem goodIn_ca {big a b : List Cond} {c : Cond} (ha : GoodIn big (c :: a)) (hb : GoodIn big b) : GoodIn big (c :: (a ++ b)) := fun w h => (List.mem_cons.mp h).elim (fun e => ha w (List.mem_cons.mpr (Or.inl e))) (fun h => (List.mem_append.mp h).elim (fun h => ha w (List.mem_cons.mpr (Or.inr h))) (hb w))
theorem goodIn_sub {big ws : List Cond} (hm : ∀ w ∈ ws, w ∈ big) (h : ws.all goodWord = true) : GoodIn big ws := fun w hw => ⟨hm w hw, good_of_word (List.all_eq_true.mp h w hw)⟩
/-! ===== END ===== -/


def RX0 : String := "CardPasses$Clues"
def TX0 : u_T := fun k => match k with
  | 0 => ("CardPasses$Clues", "supposed", "[I", true)
  | _ => ("CardPasses$Clues", "parts", "[I", true)
def tyX0 : Nat → FieldType := fun k => match k with
  | 0 => .array .int
  | _ => .array .int
theorem nmX0 : ∀ a, a < 2 → ∀ b, b < 2 → a ≠ b → (TX0 a).2.1 ≠ (TX0 b).2.1 := by decide +kernel
theorem tyX0_ok : ∀ k, k < 2 → parseFieldDescriptor (TX0 k).2.2.1 = some (tyX0 k) := by decide +kernel
abbrev cX0_init : ByteArray := prog_2_method_1_code
def yX0_init : MethodName := ⟨RX0, "<init>", "()V"⟩
abbrev cX0_kindsOf : ByteArray := prog_2_method_2_code
def yX0_kindsOf : MethodName := ⟨RX0, "kindsOf", "(LCardPasses$Deck;ILCardPasses$Shelf;I)I"⟩
abbrev cX0_figuresOf : ByteArray := prog_2_method_3_code
def yX0_figuresOf : MethodName := ⟨RX0, "figuresOf", "(LCardPasses$Deck;IILCardPasses$Shelf;I)I"⟩
abbrev cX0_greatestPart : ByteArray := prog_2_method_4_code
def yX0_greatestPart : MethodName := ⟨RX0, "greatestPart", "(LCardPasses$Deck;III)I"⟩
abbrev cX0_suppose : ByteArray := prog_2_method_5_code
def yX0_suppose : MethodName := ⟨RX0, "suppose", "(LCardPasses$Deck;I)V"⟩
abbrev cX0_fits : ByteArray := prog_2_method_6_code
def yX0_fits : MethodName := ⟨RX0, "fits", "(IILCardPasses$Shelf;I)Z"⟩
def RX1 : String := "CardPasses$Deck"
def TX1 : u_T := fun k => match k with
  | 0 => ("CardPasses$Deck", "kindOf", "[I", true)
  | 1 => ("CardPasses$Deck", "readFigures", "[I", true)
  | 2 => ("CardPasses$Deck", "figures", "[I", true)
  | 3 => ("CardPasses$Deck", "lie", "[I", true)
  | 4 => ("CardPasses$Deck", "lifted", "[I", true)
  | 5 => ("CardPasses$Deck", "rank", "[I", true)
  | 6 => ("CardPasses$Deck", "deeds", "[I", true)
  | 7 => ("CardPasses$Deck", "size", "I", false)
  | 8 => ("CardPasses$Deck", "passes", "I", false)
  | _ => ("CardPasses$Deck", "done", "I", false)
def tyX1 : Nat → FieldType := fun k => match k with
  | 0 => .array .int
  | 1 => .array .int
  | 2 => .array .int
  | 3 => .array .int
  | 4 => .array .int
  | 5 => .array .int
  | 6 => .array .int
  | 7 => .int
  | 8 => .int
  | _ => .int
theorem nmX1 : ∀ a, a < 10 → ∀ b, b < 10 → a ≠ b → (TX1 a).2.1 ≠ (TX1 b).2.1 := by decide +kernel
theorem tyX1_ok : ∀ k, k < 10 → parseFieldDescriptor (TX1 k).2.2.1 = some (tyX1 k) := by decide +kernel
abbrev cX1_init : ByteArray := prog_3_method_1_code
def yX1_init : MethodName := ⟨RX1, "<init>", "()V"⟩
abbrev cX1_begin : ByteArray := prog_3_method_2_code
def yX1_begin : MethodName := ⟨RX1, "begin", "(LCardPasses$Reader;)V"⟩
abbrev cX1_redo : ByteArray := prog_3_method_3_code
def yX1_redo : MethodName := ⟨RX1, "redo", "(I)V"⟩
abbrev cX1_add : ByteArray := prog_3_method_4_code
def yX1_add : MethodName := ⟨RX1, "add", "(I)I"⟩
abbrev cX1_carryOut : ByteArray := prog_3_method_5_code
def yX1_carryOut : MethodName := ⟨RX1, "carryOut", "(I)V"⟩
abbrev cX1_turnOver : ByteArray := prog_3_method_6_code
def yX1_turnOver : MethodName := ⟨RX1, "turnOver", "()V"⟩
abbrev cX1_liftOff : ByteArray := prog_3_method_7_code
def yX1_liftOff : MethodName := ⟨RX1, "liftOff", "(I)V"⟩
abbrev cX1_sift : ByteArray := prog_3_method_8_code
def yX1_sift : MethodName := ⟨RX1, "sift", "([I[IIII)V"⟩
abbrev cX1_readsBehind : ByteArray := prog_3_method_9_code
def yX1_readsBehind : MethodName := ⟨RX1, "readsBehind", "(III)I"⟩
abbrev cX1_figureOf : ByteArray := prog_3_method_10_code
def yX1_figureOf : MethodName := ⟨RX1, "figureOf", "(II)I"⟩
abbrev cX1_placeOf : ByteArray := prog_3_method_11_code
def yX1_placeOf : MethodName := ⟨RX1, "placeOf", "(I)I"⟩
abbrev cX1_sumOf : ByteArray := prog_3_method_12_code
def yX1_sumOf : MethodName := ⟨RX1, "sumOf", "(II)I"⟩
abbrev cX1_sumOfAll : ByteArray := prog_3_method_13_code
def yX1_sumOfAll : MethodName := ⟨RX1, "sumOfAll", "()I"⟩
abbrev cX1_manyOf : ByteArray := prog_3_method_14_code
def yX1_manyOf : MethodName := ⟨RX1, "manyOf", "(I)I"⟩
def RX2 : String := "CardPasses$Reader"
def TX2 : u_T := fun k => match k with
  | 0 => ("CardPasses$Reader", "kindOf", "[I", true)
  | 1 => ("CardPasses$Reader", "figures", "[I", true)
  | _ => ("CardPasses$Reader", "size", "I", false)
def tyX2 : Nat → FieldType := fun k => match k with
  | 0 => .array .int
  | 1 => .array .int
  | _ => .int
theorem nmX2 : ∀ a, a < 3 → ∀ b, b < 3 → a ≠ b → (TX2 a).2.1 ≠ (TX2 b).2.1 := by decide +kernel
theorem tyX2_ok : ∀ k, k < 3 → parseFieldDescriptor (TX2 k).2.2.1 = some (tyX2 k) := by decide +kernel
abbrev cX2_init : ByteArray := prog_4_method_1_code
def yX2_init : MethodName := ⟨RX2, "<init>", "()V"⟩
abbrev cX2_faultOf : ByteArray := prog_4_method_2_code
def yX2_faultOf : MethodName := ⟨RX2, "faultOf", "(LCardPasses$Shelf;I)I"⟩
abbrev cX2_kindBy : ByteArray := prog_4_method_3_code
def yX2_kindBy : MethodName := ⟨RX2, "kindBy", "(I)I"⟩
def RX3 : String := "CardPasses$Shelf"
def TX3 : u_T := fun k => match k with
  | 0 => ("CardPasses$Shelf", "cells", "[I", true)
  | 1 => ("CardPasses$Shelf", "sizes", "[I", true)
  | _ => ("CardPasses$Shelf", "width", "I", true)
def tyX3 : Nat → FieldType := fun k => match k with
  | 0 => .array .int
  | 1 => .array .int
  | _ => .int
theorem nmX3 : ∀ a, a < 3 → ∀ b, b < 3 → a ≠ b → (TX3 a).2.1 ≠ (TX3 b).2.1 := by decide +kernel
theorem tyX3_ok : ∀ k, k < 3 → parseFieldDescriptor (TX3 k).2.2.1 = some (tyX3 k) := by decide +kernel
abbrev cX3_init : ByteArray := prog_5_method_1_code
def yX3_init : MethodName := ⟨RX3, "<init>", "(II)V"⟩
abbrev cX3_make : ByteArray := prog_5_method_2_code
def yX3_make : MethodName := ⟨RX3, "make", "(III)V"⟩
abbrev cX3_fill : ByteArray := prog_5_method_3_code
def yX3_fill : MethodName := ⟨RX3, "fill", "(I[II)V"⟩
abbrev cX3_remove : ByteArray := prog_5_method_4_code
def yX3_remove : MethodName := ⟨RX3, "remove", "(I)V"⟩
abbrev cX3_sizeOf : ByteArray := prog_5_method_5_code
def yX3_sizeOf : MethodName := ⟨RX3, "sizeOf", "(I)I"⟩
abbrev cX3_holds : ByteArray := prog_5_method_6_code
def yX3_holds : MethodName := ⟨RX3, "holds", "(I)Z"⟩
abbrev cX3_spans : ByteArray := prog_5_method_7_code
def yX3_spans : MethodName := ⟨RX3, "spans", "(III)Z"⟩
abbrev cX3_get : ByteArray := prog_5_method_8_code
def yX3_get : MethodName := ⟨RX3, "get", "(II)I"⟩
abbrev cX3_set : ByteArray := prog_5_method_9_code
def yX3_set : MethodName := ⟨RX3, "set", "(III)V"⟩
abbrev cX3_held : ByteArray := prog_5_method_10_code
def yX3_held : MethodName := ⟨RX3, "held", "()I"⟩
abbrev cX3_digestOn : ByteArray := prog_5_method_11_code
def yX3_digestOn : MethodName := ⟨RX3, "digestOn", "(J)J"⟩
def RX4 : String := "CardPasses$Trial"
def TX4 : u_T := fun k => match k with
  | 0 => ("CardPasses$Trial", "lies", "[[I", true)
  | 1 => ("CardPasses$Trial", "path", "[I", true)
  | 2 => ("CardPasses$Trial", "placeWanted", "Z", false)
  | 3 => ("CardPasses$Trial", "wantedCard", "I", false)
  | 4 => ("CardPasses$Trial", "wantedPlace", "I", false)
  | 5 => ("CardPasses$Trial", "orderedColumn", "I", false)
  | 6 => ("CardPasses$Trial", "otherCard", "I", false)
  | _ => ("CardPasses$Trial", "steps", "I", false)
def tyX4 : Nat → FieldType := fun k => match k with
  | 0 => .array (.array .int)
  | 1 => .array .int
  | 2 => .boolean
  | 3 => .int
  | 4 => .int
  | 5 => .int
  | 6 => .int
  | _ => .int
theorem nmX4 : ∀ a, a < 8 → ∀ b, b < 8 → a ≠ b → (TX4 a).2.1 ≠ (TX4 b).2.1 := by decide +kernel
theorem tyX4_ok : ∀ k, k < 8 → parseFieldDescriptor (TX4 k).2.2.1 = some (tyX4 k) := by decide +kernel
abbrev cX4_init : ByteArray := prog_6_method_1_code
def yX4_init : MethodName := ⟨RX4, "<init>", "()V"⟩
abbrev cX4_start : ByteArray := prog_6_method_2_code
def yX4_start : MethodName := ⟨RX4, "start", "(LCardPasses$Deck;)V"⟩
abbrev cX4_layAs : ByteArray := prog_6_method_3_code
def yX4_layAs : MethodName := ⟨RX4, "layAs", "([I[II)V"⟩
abbrev cX4_passOnce : ByteArray := prog_6_method_4_code
def yX4_passOnce : MethodName := ⟨RX4, "passOnce", "(LCardPasses$Deck;II)[I"⟩
abbrev cX4_passAll : ByteArray := prog_6_method_5_code
def yX4_passAll : MethodName := ⟨RX4, "passAll", "(LCardPasses$Deck;LCardPasses$Shelf;I)[I"⟩
abbrev cX4_wantPlace : ByteArray := prog_6_method_6_code
def yX4_wantPlace : MethodName := ⟨RX4, "wantPlace", "(II)V"⟩
abbrev cX4_wantOrder : ByteArray := prog_6_method_7_code
def yX4_wantOrder : MethodName := ⟨RX4, "wantOrder", "(I)V"⟩
abbrev cX4_seek : ByteArray := prog_6_method_8_code
def yX4_seek : MethodName := ⟨RX4, "seek", "(LCardPasses$Deck;)I"⟩
abbrev cX4_reaches : ByteArray := prog_6_method_9_code
def yX4_reaches : MethodName := ⟨RX4, "reaches", "(LCardPasses$Deck;III)Z"⟩
abbrev cX4_inOrder : ByteArray := prog_6_method_10_code
def yX4_inOrder : MethodName := ⟨RX4, "inOrder", "(LCardPasses$Deck;[II)Z"⟩
abbrev cX4_duelOf : ByteArray := prog_6_method_11_code
def yX4_duelOf : MethodName := ⟨RX4, "duelOf", "(LCardPasses$Deck;III)I"⟩
abbrev cX4_outcome : ByteArray := prog_6_method_12_code
def yX4_outcome : MethodName := ⟨RX4, "outcome", "(LCardPasses$Deck;IIII)I"⟩
abbrev cX4_step : ByteArray := prog_6_method_13_code
def yX4_step : MethodName := ⟨RX4, "step", "(LCardPasses$Deck;III)I"⟩
def RX5 : String := "CardPasses"
def TX5 : u_T := fun k => match k with
  | 0 => ("CardPasses", "rows", "LCardPasses$Shelf;", true)
  | 1 => ("CardPasses", "texts", "LCardPasses$Shelf;", true)
  | 2 => ("CardPasses", "kept", "LCardPasses$Shelf;", true)
  | 3 => ("CardPasses", "reader", "LCardPasses$Reader;", true)
  | 4 => ("CardPasses", "deck", "LCardPasses$Deck;", true)
  | 5 => ("CardPasses", "trial", "LCardPasses$Trial;", true)
  | 6 => ("CardPasses", "clues", "LCardPasses$Clues;", true)
  | 7 => ("CardPasses", "foundOften", "[I", true)
  | 8 => ("CardPasses", "foundLast", "I", false)
  | 9 => ("CardPasses", "told", "I", false)
  | 10 => ("CardPasses", "toldUpper", "J", false)
  | _ => ("CardPasses", "toldLower", "J", false)
def tyX5 : Nat → FieldType := fun k => match k with
  | 0 => .object "CardPasses$Shelf"
  | 1 => .object "CardPasses$Shelf"
  | 2 => .object "CardPasses$Shelf"
  | 3 => .object "CardPasses$Reader"
  | 4 => .object "CardPasses$Deck"
  | 5 => .object "CardPasses$Trial"
  | 6 => .object "CardPasses$Clues"
  | 7 => .array .int
  | 8 => .int
  | 9 => .int
  | 10 => .long
  | _ => .long
theorem nmX5 : ∀ a, a < 12 → ∀ b, b < 12 → a ≠ b → (TX5 a).2.1 ≠ (TX5 b).2.1 := by decide +kernel
theorem tyX5_ok : ∀ k, k < 12 → parseFieldDescriptor (TX5 k).2.2.1 = some (tyX5 k) := by decide +kernel
abbrev cX5_init : ByteArray := prog_1_method_1_code
def yX5_init : MethodName := ⟨RX5, "<init>", "()V"⟩
abbrev cX5_row : ByteArray := prog_1_method_2_code
def yX5_row : MethodName := ⟨RX5, "row", "(II)I"⟩
abbrev cX5_lay : ByteArray := prog_1_method_3_code
def yX5_lay : MethodName := ⟨RX5, "lay", "(III)I"⟩
abbrev cX5_at : ByteArray := prog_1_method_4_code
def yX5_at : MethodName := ⟨RX5, "at", "(II)I"⟩
abbrev cX5_tear : ByteArray := prog_1_method_5_code
def yX5_tear : MethodName := ⟨RX5, "tear", "(I)I"⟩
abbrev cX5_copy : ByteArray := prog_1_method_6_code
def yX5_copy : MethodName := ⟨RX5, "copy", "(IIIII)I"⟩
abbrev cX5_mean : ByteArray := prog_1_method_7_code
def yX5_mean : MethodName := ⟨RX5, "mean", "(I)I"⟩
abbrev cX5_text : ByteArray := prog_1_method_8_code
def yX5_text : MethodName := ⟨RX5, "text", "(II)I"⟩
abbrev cX5_put : ByteArray := prog_1_method_9_code
def yX5_put : MethodName := ⟨RX5, "put", "(III)I"⟩
abbrev cX5_fault : ByteArray := prog_1_method_10_code
def yX5_fault : MethodName := ⟨RX5, "fault", "(I)I"⟩
abbrev cX5_deck : ByteArray := prog_1_method_11_code
def yX5_deck : MethodName := ⟨RX5, "deck", "(I)I"⟩
abbrev cX5_card : ByteArray := prog_1_method_12_code
def yX5_card : MethodName := ⟨RX5, "card", "(II)I"⟩
abbrev cX5_mark : ByteArray := prog_1_method_13_code
def yX5_mark : MethodName := ⟨RX5, "mark", "(II)I"⟩
abbrev cX5_pass : ByteArray := prog_1_method_14_code
def yX5_pass : MethodName := ⟨RX5, "pass", "(I)I"⟩
abbrev cX5_turn : ByteArray := prog_1_method_15_code
def yX5_turn : MethodName := ⟨RX5, "turn", "()I"⟩
abbrev cX5_lift : ByteArray := prog_1_method_16_code
def yX5_lift : MethodName := ⟨RX5, "lift", "(I)I"⟩
abbrev cX5_punch : ByteArray := prog_1_method_17_code
def yX5_punch : MethodName := ⟨RX5, "punch", "(III)I"⟩
abbrev cX5_undo : ByteArray := prog_1_method_18_code
def yX5_undo : MethodName := ⟨RX5, "undo", "(I)I"⟩
abbrev cX5_keep : ByteArray := prog_1_method_19_code
def yX5_keep : MethodName := ⟨RX5, "keep", "(I)I"⟩
abbrev cX5_on : ByteArray := prog_1_method_20_code
def yX5_on : MethodName := ⟨RX5, "on", "(I)I"⟩
abbrev cX5_pocket : ByteArray := prog_1_method_21_code
def yX5_pocket : MethodName := ⟨RX5, "pocket", "(III)I"⟩
abbrev cX5_run : ByteArray := prog_1_method_22_code
def yX5_run : MethodName := ⟨RX5, "run", "(II)I"⟩
abbrev cX5_fewest : ByteArray := prog_1_method_23_code
def yX5_fewest : MethodName := ⟨RX5, "fewest", "(III)I"⟩
abbrev cX5_order : ByteArray := prog_1_method_24_code
def yX5_order : MethodName := ⟨RX5, "order", "(II)I"⟩
abbrev cX5_columns : ByteArray := prog_1_method_25_code
def yX5_columns : MethodName := ⟨RX5, "columns", "(I)I"⟩
abbrev cX5_kinds : ByteArray := prog_1_method_26_code
def yX5_kinds : MethodName := ⟨RX5, "kinds", "(II)I"⟩
abbrev cX5_figures : ByteArray := prog_1_method_27_code
def yX5_figures : MethodName := ⟨RX5, "figures", "(III)I"⟩
abbrev cX5_next : ByteArray := prog_1_method_28_code
def yX5_next : MethodName := ⟨RX5, "next", "(II)I"⟩
abbrev cX5_sets : ByteArray := prog_1_method_29_code
def yX5_sets : MethodName := ⟨RX5, "sets", "(II)I"⟩
abbrev cX5_sure : ByteArray := prog_1_method_30_code
def yX5_sure : MethodName := ⟨RX5, "sure", "(II)I"⟩
abbrev cX5_duel : ByteArray := prog_1_method_31_code
def yX5_duel : MethodName := ⟨RX5, "duel", "(III)I"⟩
abbrev cX5_odds : ByteArray := prog_1_method_32_code
def yX5_odds : MethodName := ⟨RX5, "odds", "(III)I"⟩
abbrev cX5_mid : ByteArray := prog_1_method_33_code
def yX5_mid : MethodName := ⟨RX5, "mid", "(III)I"⟩
abbrev cX5_lots : ByteArray := prog_1_method_34_code
def yX5_lots : MethodName := ⟨RX5, "lots", "(II)I"⟩
abbrev cX5_asked : ByteArray := prog_1_method_35_code
def yX5_asked : MethodName := ⟨RX5, "asked", "()I"⟩
abbrev cX5_upper : ByteArray := prog_1_method_36_code
def yX5_upper : MethodName := ⟨RX5, "upper", "()J"⟩
abbrev cX5_lower : ByteArray := prog_1_method_37_code
def yX5_lower : MethodName := ⟨RX5, "lower", "()J"⟩
abbrev cX5_count : ByteArray := prog_1_method_38_code
def yX5_count : MethodName := ⟨RX5, "count", "(I)I"⟩
abbrev cX5_finding : ByteArray := prog_1_method_39_code
def yX5_finding : MethodName := ⟨RX5, "finding", "()I"⟩
abbrev cX5_findings : ByteArray := prog_1_method_40_code
def yX5_findings : MethodName := ⟨RX5, "findings", "(I)I"⟩
abbrev cX5_digest : ByteArray := prog_1_method_41_code
def yX5_digest : MethodName := ⟨RX5, "digest", "()J"⟩
abbrev cX5_found : ByteArray := prog_1_method_42_code
def yX5_found : MethodName := ⟨RX5, "found", "(I)I"⟩
abbrev cX5_refusedRow : ByteArray := prog_1_method_43_code
def yX5_refusedRow : MethodName := ⟨RX5, "refusedRow", "(I)I"⟩
abbrev cX5_refusedPlace : ByteArray := prog_1_method_44_code
def yX5_refusedPlace : MethodName := ⟨RX5, "refusedPlace", "(II)I"⟩
abbrev cX5_refusedText : ByteArray := prog_1_method_45_code
def yX5_refusedText : MethodName := ⟨RX5, "refusedText", "(I)I"⟩
abbrev cX5_refusedDeeds : ByteArray := prog_1_method_46_code
def yX5_refusedDeeds : MethodName := ⟨RX5, "refusedDeeds", "(I)I"⟩
abbrev cX5_refusedClues : ByteArray := prog_1_method_47_code
def yX5_refusedClues : MethodName := ⟨RX5, "refusedClues", "(III)I"⟩
abbrev cX5_refusedSum : ByteArray := prog_1_method_48_code
def yX5_refusedSum : MethodName := ⟨RX5, "refusedSum", "(II)I"⟩
abbrev cX5_isRow : ByteArray := prog_1_method_49_code
def yX5_isRow : MethodName := ⟨RX5, "isRow", "(I)Z"⟩
abbrev cX5_isText : ByteArray := prog_1_method_50_code
def yX5_isText : MethodName := ⟨RX5, "isText", "(I)Z"⟩
abbrev cX5_isColumn : ByteArray := prog_1_method_51_code
def yX5_isColumn : MethodName := ⟨RX5, "isColumn", "(I)Z"⟩
abbrev cX5_isCard : ByteArray := prog_1_method_52_code
def yX5_isCard : MethodName := ⟨RX5, "isCard", "(I)Z"⟩
abbrev cX5_isChance : ByteArray := prog_1_method_53_code
def yX5_isChance : MethodName := ⟨RX5, "isChance", "(III)Z"⟩
abbrev cX5_allColumns : ByteArray := prog_1_method_54_code
def yX5_allColumns : MethodName := ⟨RX5, "allColumns", "(I)Z"⟩
abbrev cX5_eachCardOnce : ByteArray := prog_1_method_55_code
def yX5_eachCardOnce : MethodName := ⟨RX5, "eachCardOnce", "(I)Z"⟩
abbrev cX5_liesAs : ByteArray := prog_1_method_56_code
def yX5_liesAs : MethodName := ⟨RX5, "liesAs", "(I[I)Z"⟩
abbrev cX5_cardFact : ByteArray := prog_1_method_57_code
def yX5_cardFact : MethodName := ⟨RX5, "cardFact", "(II)I"⟩
abbrev cX5_markedColumns : ByteArray := prog_1_method_58_code
def yX5_markedColumns : MethodName := ⟨RX5, "markedColumns", "(II)I"⟩
abbrev cX5_counted : ByteArray := prog_1_method_59_code
def yX5_counted : MethodName := ⟨RX5, "counted", "(I)I"⟩
abbrev cX5_soughtInto : ByteArray := prog_1_method_60_code
def yX5_soughtInto : MethodName := ⟨RX5, "soughtInto", "(I)I"⟩
abbrev cX5_weightOf : ByteArray := prog_1_method_61_code
def yX5_weightOf : MethodName := ⟨RX5, "weightOf", "(II)J"⟩
abbrev cX5_allWeights : ByteArray := prog_1_method_62_code
def yX5_allWeights : MethodName := ⟨RX5, "allWeights", "()J"⟩
abbrev cX5_tellParts : ByteArray := prog_1_method_63_code
def yX5_tellParts : MethodName := ⟨RX5, "tellParts", "(JJ)V"⟩
abbrev cX5_commonDivisor : ByteArray := prog_1_method_64_code
def yX5_commonDivisor : MethodName := ⟨RX5, "commonDivisor", "(JJ)J"⟩
abbrev cX5_deedOf : ByteArray := prog_1_method_65_code
def yX5_deedOf : MethodName := ⟨RX5, "deedOf", "(IIII)I"⟩
abbrev cX5_deedByLot : ByteArray := prog_1_method_66_code
def yX5_deedByLot : MethodName := ⟨RX5, "deedByLot", "(II)I"⟩
abbrev cX5_isOf : ByteArray := prog_1_method_67_code
def yX5_isOf : MethodName := ⟨RX5, "isOf", "(II)Z"⟩
abbrev cX5_reading : ByteArray := prog_1_method_68_code
def yX5_reading : MethodName := ⟨RX5, "reading", "(I[IIII)I"⟩
abbrev cX5_wornBy : ByteArray := prog_1_method_69_code
def yX5_wornBy : MethodName := ⟨RX5, "wornBy", "(II)I"⟩
abbrev cX5_doubled : ByteArray := prog_1_method_70_code
def yX5_doubled : MethodName := ⟨RX5, "doubled", "([III)I"⟩
abbrev cX5_placeIn : ByteArray := prog_1_method_71_code
def yX5_placeIn : MethodName := ⟨RX5, "placeIn", "([III)I"⟩
abbrev cX5_onePassMore : ByteArray := prog_1_method_72_code
def yX5_onePassMore : MethodName := ⟨RX5, "onePassMore", "(I)I"⟩
def RX6 : String := "CardPassesModel"
def TX6 : u_T := fun k => match k with
  | 0 => ("CardPassesModel", "rowSizes", "[I", true)
  | 1 => ("CardPassesModel", "rows", "[I", true)
  | 2 => ("CardPassesModel", "textSizes", "[I", true)
  | 3 => ("CardPassesModel", "texts", "[I", true)
  | 4 => ("CardPassesModel", "cards", "I", false)
  | 5 => ("CardPassesModel", "kinds", "[I", true)
  | 6 => ("CardPassesModel", "now", "[I", true)
  | 7 => ("CardPassesModel", "aside", "[I", true)
  | 8 => ("CardPassesModel", "past", "[I", true)
  | 9 => ("CardPassesModel", "deeds", "I", false)
  | 10 => ("CardPassesModel", "kept", "[I", true)
  | 11 => ("CardPassesModel", "isKept", "[Z", true)
  | 12 => ("CardPassesModel", "asked", "I", false)
  | 13 => ("CardPassesModel", "upper", "J", false)
  | 14 => ("CardPassesModel", "lower", "J", false)
  | 15 => ("CardPassesModel", "finding", "I", false)
  | 16 => ("CardPassesModel", "findings", "[I", true)
  | 17 => ("CardPassesModel", "readCards", "I", false)
  | 18 => ("CardPassesModel", "readKinds", "[I", true)
  | 19 => ("CardPassesModel", "readFigures", "[I", true)
  | 20 => ("CardPassesModel", "taken", "[I", true)
  | _ => ("CardPassesModel", "comes", "[I", true)
def tyX6 : Nat → FieldType := fun k => match k with
  | 0 => .array .int
  | 1 => .array .int
  | 2 => .array .int
  | 3 => .array .int
  | 4 => .int
  | 5 => .array .int
  | 6 => .array .int
  | 7 => .array .int
  | 8 => .array .int
  | 9 => .int
  | 10 => .array .int
  | 11 => .array .boolean
  | 12 => .int
  | 13 => .long
  | 14 => .long
  | 15 => .int
  | 16 => .array .int
  | 17 => .int
  | 18 => .array .int
  | 19 => .array .int
  | 20 => .array .int
  | _ => .array .int
theorem nmX6 : ∀ a, a < 22 → ∀ b, b < 22 → a ≠ b → (TX6 a).2.1 ≠ (TX6 b).2.1 := by decide +kernel
theorem tyX6_ok : ∀ k, k < 22 → parseFieldDescriptor (TX6 k).2.2.1 = some (tyX6 k) := by decide +kernel
abbrev cX6_init : ByteArray := prog_8_method_1_code
def yX6_init : MethodName := ⟨RX6, "<init>", "()V"⟩
abbrev cX6_in : ByteArray := prog_8_method_3_code
def yX6_in : MethodName := ⟨RX6, "in", "(JJJ)Z"⟩
abbrev cX6_has : ByteArray := prog_8_method_4_code
def yX6_has : MethodName := ⟨RX6, "has", "(II)Z"⟩
abbrev cX6_found : ByteArray := prog_8_method_6_code
def yX6_found : MethodName := ⟨RX6, "found", "(I)I"⟩
abbrev cX6_tell : ByteArray := prog_8_method_7_code
def yX6_tell : MethodName := ⟨RX6, "tell", "(I)I"⟩
abbrev cX6_answer : ByteArray := prog_8_method_8_code
def yX6_answer : MethodName := ⟨RX6, "answer", "(II)I"⟩
abbrev cX6_isRow : ByteArray := prog_8_method_9_code
def yX6_isRow : MethodName := ⟨RX6, "isRow", "(I)Z"⟩
abbrev cX6_isText : ByteArray := prog_8_method_10_code
def yX6_isText : MethodName := ⟨RX6, "isText", "(I)Z"⟩
abbrev cX6_row : ByteArray := prog_8_method_11_code
def yX6_row : MethodName := ⟨RX6, "row", "(II)I"⟩
abbrev cX6_lay : ByteArray := prog_8_method_12_code
def yX6_lay : MethodName := ⟨RX6, "lay", "(III)I"⟩
abbrev cX6_at : ByteArray := prog_8_method_13_code
def yX6_at : MethodName := ⟨RX6, "at", "(II)I"⟩
abbrev cX6_tear : ByteArray := prog_8_method_14_code
def yX6_tear : MethodName := ⟨RX6, "tear", "(I)I"⟩
abbrev cX6_copy : ByteArray := prog_8_method_15_code
def yX6_copy : MethodName := ⟨RX6, "copy", "(IIIII)I"⟩
abbrev cX6_mean : ByteArray := prog_8_method_16_code
def yX6_mean : MethodName := ⟨RX6, "mean", "(I)I"⟩
abbrev cX6_text : ByteArray := prog_8_method_17_code
def yX6_text : MethodName := ⟨RX6, "text", "(II)I"⟩
abbrev cX6_put : ByteArray := prog_8_method_18_code
def yX6_put : MethodName := ⟨RX6, "put", "(III)I"⟩
abbrev cX6_copies : ByteArray := prog_8_method_19_code
def yX6_copies : MethodName := ⟨RX6, "copies", "([II[III)V"⟩
abbrev cX6_kindOf : ByteArray := prog_8_method_20_code
def yX6_kindOf : MethodName := ⟨RX6, "kindOf", "(I)I"⟩
abbrev cX6_reads : ByteArray := prog_8_method_21_code
def yX6_reads : MethodName := ⟨RX6, "reads", "(I)I"⟩
abbrev cX6_fault : ByteArray := prog_8_method_22_code
def yX6_fault : MethodName := ⟨RX6, "fault", "(I)I"⟩
abbrev cX6_deck : ByteArray := prog_8_method_23_code
def yX6_deck : MethodName := ⟨RX6, "deck", "(I)I"⟩
abbrev cX6_isCard : ByteArray := prog_8_method_24_code
def yX6_isCard : MethodName := ⟨RX6, "isCard", "(I)Z"⟩
abbrev cX6_isColumn : ByteArray := prog_8_method_25_code
def yX6_isColumn : MethodName := ⟨RX6, "isColumn", "(I)Z"⟩
abbrev cX6_more : ByteArray := prog_8_method_26_code
def yX6_more : MethodName := ⟨RX6, "more", "(II)I"⟩
abbrev cX6_readsBy : ByteArray := prog_8_method_27_code
def yX6_readsBy : MethodName := ⟨RX6, "readsBy", "([IIIII)I"⟩
abbrev cX6_readOn : ByteArray := prog_8_method_28_code
def yX6_readOn : MethodName := ⟨RX6, "readOn", "([III)I"⟩
abbrev cX6_placeOf : ByteArray := prog_8_method_29_code
def yX6_placeOf : MethodName := ⟨RX6, "placeOf", "([II)I"⟩
abbrev cX6_falls : ByteArray := prog_8_method_30_code
def yX6_falls : MethodName := ⟨RX6, "falls", "([III)V"⟩
abbrev cX6_passes : ByteArray := prog_8_method_31_code
def yX6_passes : MethodName := ⟨RX6, "passes", "([II)V"⟩
abbrev cX6_card : ByteArray := prog_8_method_32_code
def yX6_card : MethodName := ⟨RX6, "card", "(II)I"⟩
abbrev cX6_mark : ByteArray := prog_8_method_33_code
def yX6_mark : MethodName := ⟨RX6, "mark", "(II)I"⟩
abbrev cX6_remembers : ByteArray := prog_8_method_34_code
def yX6_remembers : MethodName := ⟨RX6, "remembers", "()V"⟩
abbrev cX6_pass : ByteArray := prog_8_method_35_code
def yX6_pass : MethodName := ⟨RX6, "pass", "(I)I"⟩
abbrev cX6_turns : ByteArray := prog_8_method_36_code
def yX6_turns : MethodName := ⟨RX6, "turns", "()V"⟩
abbrev cX6_turn : ByteArray := prog_8_method_37_code
def yX6_turn : MethodName := ⟨RX6, "turn", "()I"⟩
abbrev cX6_lifts : ByteArray := prog_8_method_38_code
def yX6_lifts : MethodName := ⟨RX6, "lifts", "(I)V"⟩
abbrev cX6_lift : ByteArray := prog_8_method_39_code
def yX6_lift : MethodName := ⟨RX6, "lift", "(I)I"⟩
abbrev cX6_punch : ByteArray := prog_8_method_40_code
def yX6_punch : MethodName := ⟨RX6, "punch", "(III)I"⟩
abbrev cX6_undo : ByteArray := prog_8_method_41_code
def yX6_undo : MethodName := ⟨RX6, "undo", "(I)I"⟩
abbrev cX6_isPlace : ByteArray := prog_8_method_42_code
def yX6_isPlace : MethodName := ⟨RX6, "isPlace", "(I)Z"⟩
abbrev cX6_keep : ByteArray := prog_8_method_43_code
def yX6_keep : MethodName := ⟨RX6, "keep", "(I)I"⟩
abbrev cX6_on : ByteArray := prog_8_method_44_code
def yX6_on : MethodName := ⟨RX6, "on", "(I)I"⟩
abbrev cX6_laysAside : ByteArray := prog_8_method_45_code
def yX6_laysAside : MethodName := ⟨RX6, "laysAside", "()V"⟩
abbrev cX6_pocket : ByteArray := prog_8_method_46_code
def yX6_pocket : MethodName := ⟨RX6, "pocket", "(III)I"⟩
abbrev cX6_run : ByteArray := prog_8_method_47_code
def yX6_run : MethodName := ⟨RX6, "run", "(II)I"⟩
abbrev cX6_lays : ByteArray := prog_8_method_48_code
def yX6_lays : MethodName := ⟨RX6, "lays", "(II)V"⟩
abbrev cX6_isOrdered : ByteArray := prog_8_method_49_code
def yX6_isOrdered : MethodName := ⟨RX6, "isOrdered", "([II)Z"⟩
abbrev cX6_firstRow : ByteArray := prog_8_method_50_code
def yX6_firstRow : MethodName := ⟨RX6, "firstRow", "(III)I"⟩
abbrev cX6_fewest : ByteArray := prog_8_method_51_code
def yX6_fewest : MethodName := ⟨RX6, "fewest", "(III)I"⟩
abbrev cX6_order : ByteArray := prog_8_method_52_code
def yX6_order : MethodName := ⟨RX6, "order", "(II)I"⟩
abbrev cX6_columns : ByteArray := prog_8_method_53_code
def yX6_columns : MethodName := ⟨RX6, "columns", "(I)I"⟩
abbrev cX6_pairs : ByteArray := prog_8_method_54_code
def yX6_pairs : MethodName := ⟨RX6, "pairs", "(I)I"⟩
abbrev cX6_comesSo : ByteArray := prog_8_method_55_code
def yX6_comesSo : MethodName := ⟨RX6, "comesSo", "(III)Z"⟩
abbrev cX6_kindsBy : ByteArray := prog_8_method_56_code
def yX6_kindsBy : MethodName := ⟨RX6, "kindsBy", "(II)I"⟩
abbrev cX6_kinds : ByteArray := prog_8_method_57_code
def yX6_kinds : MethodName := ⟨RX6, "kinds", "(II)I"⟩
abbrev cX6_figures : ByteArray := prog_8_method_58_code
def yX6_figures : MethodName := ⟨RX6, "figures", "(III)I"⟩
abbrev cX6_next : ByteArray := prog_8_method_59_code
def yX6_next : MethodName := ⟨RX6, "next", "(II)I"⟩
abbrev cX6_comesTo : ByteArray := prog_8_method_60_code
def yX6_comesTo : MethodName := ⟨RX6, "comesTo", "(III)Z"⟩
abbrev cX6_sets : ByteArray := prog_8_method_61_code
def yX6_sets : MethodName := ⟨RX6, "sets", "(II)I"⟩
abbrev cX6_sure : ByteArray := prog_8_method_62_code
def yX6_sure : MethodName := ⟨RX6, "sure", "(II)I"⟩
abbrev cX6_leadBy : ByteArray := prog_8_method_63_code
def yX6_leadBy : MethodName := ⟨RX6, "leadBy", "(IIII)I"⟩
abbrev cX6_duel : ByteArray := prog_8_method_64_code
def yX6_duel : MethodName := ⟨RX6, "duel", "(III)I"⟩
abbrev cX6_tellsPart : ByteArray := prog_8_method_65_code
def yX6_tellsPart : MethodName := ⟨RX6, "tellsPart", "(JJ)V"⟩
abbrev cX6_weigh : ByteArray := prog_8_method_66_code
def yX6_weigh : MethodName := ⟨RX6, "weigh", "(II)J"⟩
abbrev cX6_chance : ByteArray := prog_8_method_67_code
def yX6_chance : MethodName := ⟨RX6, "chance", "(IIIZ)I"⟩
abbrev cX6_odds : ByteArray := prog_8_method_68_code
def yX6_odds : MethodName := ⟨RX6, "odds", "(III)I"⟩
abbrev cX6_mid : ByteArray := prog_8_method_69_code
def yX6_mid : MethodName := ⟨RX6, "mid", "(III)I"⟩
abbrev cX6_lots : ByteArray := prog_8_method_70_code
def yX6_lots : MethodName := ⟨RX6, "lots", "(II)I"⟩
abbrev cX6_asked : ByteArray := prog_8_method_71_code
def yX6_asked : MethodName := ⟨RX6, "asked", "()I"⟩
abbrev cX6_upper : ByteArray := prog_8_method_72_code
def yX6_upper : MethodName := ⟨RX6, "upper", "()J"⟩
abbrev cX6_lower : ByteArray := prog_8_method_73_code
def yX6_lower : MethodName := ⟨RX6, "lower", "()J"⟩
abbrev cX6_figuresAll : ByteArray := prog_8_method_74_code
def yX6_figuresAll : MethodName := ⟨RX6, "figuresAll", "()I"⟩
abbrev cX6_of : ByteArray := prog_8_method_75_code
def yX6_of : MethodName := ⟨RX6, "of", "(II)I"⟩
abbrev cX6_there : ByteArray := prog_8_method_76_code
def yX6_there : MethodName := ⟨RX6, "there", "([II)I"⟩
abbrev cX6_count : ByteArray := prog_8_method_77_code
def yX6_count : MethodName := ⟨RX6, "count", "(I)I"⟩
abbrev cX6_finding : ByteArray := prog_8_method_78_code
def yX6_finding : MethodName := ⟨RX6, "finding", "()I"⟩
abbrev cX6_findings : ByteArray := prog_8_method_79_code
def yX6_findings : MethodName := ⟨RX6, "findings", "(I)I"⟩
abbrev cX6_digest : ByteArray := prog_8_method_80_code
def yX6_digest : MethodName := ⟨RX6, "digest", "()J"⟩
def RL : String := "CardPassesLaw"
abbrev cL_law : ByteArray := code
def yL_law : MethodName := ⟨RL, "law", "([I)Z"⟩
abbrev vwCl : List vw_C := [(RX0, TX0, 2), (RX1, TX1, 10), (RX2, TX2, 3), (RX3, TX3, 3), (RX4, TX4, 8), (RX5, TX5, 12), (RX6, TX6, 22)]
end
section
theorem dX0_init_0 : decode cX0_init 0 = .ok (.aload_n 0, 1) := by decide +kernel
theorem dX0_init_1 : decode cX0_init 1 = .ok (.invokespecial 3, 3) := by decide +kernel
theorem dX0_init_4 : decode cX0_init 4 = .ok (.aload_n 0, 1) := by decide +kernel
theorem dX0_init_5 : decode cX0_init 5 = .ok (.iconst 3, 1) := by decide +kernel
theorem dX0_init_6 : decode cX0_init 6 = .ok (.newarray .int, 2) := by decide +kernel
theorem dX0_init_8 : decode cX0_init 8 = .ok (.putfield 9, 3) := by decide +kernel
theorem dX0_init_11 : decode cX0_init 11 = .ok (.aload_n 0, 1) := by decide +kernel
theorem dX0_init_12 : decode cX0_init 12 = .ok (.bipush 11, 2) := by decide +kernel
theorem dX0_init_14 : decode cX0_init 14 = .ok (.newarray .int, 2) := by decide +kernel
theorem dX0_init_16 : decode cX0_init 16 = .ok (.putfield 15, 3) := by decide +kernel
theorem dX0_init_19 : decode cX0_init 19 = .ok (.return_, 1) := by decide +kernel
theorem dX0_kindsOf_0 : decode cX0_kindsOf 0 = .ok (.aload_n 0, 1) := by decide +kernel
theorem dX0_kindsOf_1 : decode cX0_kindsOf 1 = .ok (.aload_n 1, 1) := by decide +kernel
theorem dX0_kindsOf_2 : decode cX0_kindsOf 2 = .ok (.iload_n 2, 1) := by decide +kernel
theorem dX0_kindsOf_3 : decode cX0_kindsOf 3 = .ok (.invokevirtual 18, 3) := by decide +kernel
theorem dX0_kindsOf_6 : decode cX0_kindsOf 6 = .ok (.iconst 0, 1) := by decide +kernel
theorem dX0_kindsOf_7 : decode cX0_kindsOf 7 = .ok (.istore 5, 2) := by decide +kernel
theorem dX0_kindsOf_9 : decode cX0_kindsOf 9 = .ok (.iconst 0, 1) := by decide +kernel
theorem dX0_kindsOf_10 : decode cX0_kindsOf 10 = .ok (.istore 6, 2) := by decide +kernel
theorem dX0_kindsOf_12 : decode cX0_kindsOf 12 = .ok (.iload 6, 2) := by decide +kernel
theorem dX0_kindsOf_14 : decode cX0_kindsOf 14 = .ok (.bipush 6, 2) := by decide +kernel
theorem dX0_kindsOf_16 : decode cX0_kindsOf 16 = .ok (.if_icmp .ge 34, 3) := by decide +kernel
theorem dX0_kindsOf_19 : decode cX0_kindsOf 19 = .ok (.aload_n 0, 1) := by decide +kernel
theorem dX0_kindsOf_20 : decode cX0_kindsOf 20 = .ok (.iload 6, 2) := by decide +kernel
theorem dX0_kindsOf_22 : decode cX0_kindsOf 22 = .ok (.aload_n 1, 1) := by decide +kernel
theorem dX0_kindsOf_23 : decode cX0_kindsOf 23 = .ok (.getfield 22, 3) := by decide +kernel
theorem dX0_kindsOf_26 : decode cX0_kindsOf 26 = .ok (.aload_n 3, 1) := by decide +kernel
theorem dX0_kindsOf_27 : decode cX0_kindsOf 27 = .ok (.iload 4, 2) := by decide +kernel
theorem dX0_kindsOf_29 : decode cX0_kindsOf 29 = .ok (.invokevirtual 28, 3) := by decide +kernel
theorem dX0_kindsOf_32 : decode cX0_kindsOf 32 = .ok (.ifCond .eq 12, 3) := by decide +kernel
theorem dX0_kindsOf_35 : decode cX0_kindsOf 35 = .ok (.iload 5, 2) := by decide +kernel
theorem dX0_kindsOf_37 : decode cX0_kindsOf 37 = .ok (.iconst 1, 1) := by decide +kernel
theorem dX0_kindsOf_38 : decode cX0_kindsOf 38 = .ok (.iload 6, 2) := by decide +kernel
theorem dX0_kindsOf_40 : decode cX0_kindsOf 40 = .ok (.ishl, 1) := by decide +kernel
theorem dX0_kindsOf_41 : decode cX0_kindsOf 41 = .ok (.ior, 1) := by decide +kernel
theorem dX0_kindsOf_42 : decode cX0_kindsOf 42 = .ok (.istore 5, 2) := by decide +kernel
theorem dX0_kindsOf_44 : decode cX0_kindsOf 44 = .ok (.iinc 6 1, 3) := by decide +kernel
theorem dX0_kindsOf_47 : decode cX0_kindsOf 47 = .ok (.goto (-35), 3) := by decide +kernel
theorem dX0_kindsOf_50 : decode cX0_kindsOf 50 = .ok (.iload 5, 2) := by decide +kernel
theorem dX0_kindsOf_52 : decode cX0_kindsOf 52 = .ok (.ireturn, 1) := by decide +kernel
theorem dX0_figuresOf_0 : decode cX0_figuresOf 0 = .ok (.aload_n 0, 1) := by decide +kernel
theorem dX0_figuresOf_1 : decode cX0_figuresOf 1 = .ok (.aload_n 1, 1) := by decide +kernel
theorem dX0_figuresOf_2 : decode cX0_figuresOf 2 = .ok (.iload_n 2, 1) := by decide +kernel
theorem dX0_figuresOf_3 : decode cX0_figuresOf 3 = .ok (.invokevirtual 18, 3) := by decide +kernel
theorem dX0_figuresOf_6 : decode cX0_figuresOf 6 = .ok (.iconst 0, 1) := by decide +kernel
theorem dX0_figuresOf_7 : decode cX0_figuresOf 7 = .ok (.istore 6, 2) := by decide +kernel
theorem dX0_figuresOf_9 : decode cX0_figuresOf 9 = .ok (.iconst 0, 1) := by decide +kernel
theorem dX0_figuresOf_10 : decode cX0_figuresOf 10 = .ok (.istore 7, 2) := by decide +kernel
theorem dX0_figuresOf_12 : decode cX0_figuresOf 12 = .ok (.iload 7, 2) := by decide +kernel
theorem dX0_figuresOf_14 : decode cX0_figuresOf 14 = .ok (.bipush 10, 2) := by decide +kernel
theorem dX0_figuresOf_16 : decode cX0_figuresOf 16 = .ok (.if_icmp .ge 47, 3) := by decide +kernel
theorem dX0_figuresOf_19 : decode cX0_figuresOf 19 = .ok (.aload_n 0, 1) := by decide +kernel
theorem dX0_figuresOf_20 : decode cX0_figuresOf 20 = .ok (.getfield 9, 3) := by decide +kernel
theorem dX0_figuresOf_23 : decode cX0_figuresOf 23 = .ok (.iload_n 3, 1) := by decide +kernel
theorem dX0_figuresOf_24 : decode cX0_figuresOf 24 = .ok (.iload 7, 2) := by decide +kernel
theorem dX0_figuresOf_26 : decode cX0_figuresOf 26 = .ok (.iastore, 1) := by decide +kernel
theorem dX0_figuresOf_27 : decode cX0_figuresOf 27 = .ok (.aload_n 0, 1) := by decide +kernel
theorem dX0_figuresOf_28 : decode cX0_figuresOf 28 = .ok (.aload_n 1, 1) := by decide +kernel
theorem dX0_figuresOf_29 : decode cX0_figuresOf 29 = .ok (.getfield 32, 3) := by decide +kernel
theorem dX0_figuresOf_32 : decode cX0_figuresOf 32 = .ok (.iload_n 2, 1) := by decide +kernel
theorem dX0_figuresOf_33 : decode cX0_figuresOf 33 = .ok (.iaload, 1) := by decide +kernel
theorem dX0_figuresOf_34 : decode cX0_figuresOf 34 = .ok (.aload_n 1, 1) := by decide +kernel
theorem dX0_figuresOf_35 : decode cX0_figuresOf 35 = .ok (.getfield 22, 3) := by decide +kernel
theorem dX0_figuresOf_38 : decode cX0_figuresOf 38 = .ok (.aload 4, 2) := by decide +kernel
theorem dX0_figuresOf_40 : decode cX0_figuresOf 40 = .ok (.iload 5, 2) := by decide +kernel
theorem dX0_figuresOf_42 : decode cX0_figuresOf 42 = .ok (.invokevirtual 28, 3) := by decide +kernel
theorem dX0_figuresOf_45 : decode cX0_figuresOf 45 = .ok (.ifCond .eq 12, 3) := by decide +kernel
theorem dX0_figuresOf_48 : decode cX0_figuresOf 48 = .ok (.iload 6, 2) := by decide +kernel
theorem dX0_figuresOf_50 : decode cX0_figuresOf 50 = .ok (.iconst 1, 1) := by decide +kernel
theorem dX0_figuresOf_51 : decode cX0_figuresOf 51 = .ok (.iload 7, 2) := by decide +kernel
theorem dX0_figuresOf_53 : decode cX0_figuresOf 53 = .ok (.ishl, 1) := by decide +kernel
theorem dX0_figuresOf_54 : decode cX0_figuresOf 54 = .ok (.ior, 1) := by decide +kernel
theorem dX0_figuresOf_55 : decode cX0_figuresOf 55 = .ok (.istore 6, 2) := by decide +kernel
theorem dX0_figuresOf_57 : decode cX0_figuresOf 57 = .ok (.iinc 7 1, 3) := by decide +kernel
theorem dX0_figuresOf_60 : decode cX0_figuresOf 60 = .ok (.goto (-48), 3) := by decide +kernel
theorem dX0_figuresOf_63 : decode cX0_figuresOf 63 = .ok (.iload 6, 2) := by decide +kernel
theorem dX0_figuresOf_65 : decode cX0_figuresOf 65 = .ok (.ireturn, 1) := by decide +kernel
theorem dX0_greatestPart_0 : decode cX0_greatestPart 0 = .ok (.aload_n 0, 1) := by decide +kernel
theorem dX0_greatestPart_1 : decode cX0_greatestPart 1 = .ok (.aload_n 1, 1) := by decide +kernel
theorem dX0_greatestPart_2 : decode cX0_greatestPart 2 = .ok (.iload_n 2, 1) := by decide +kernel
theorem dX0_greatestPart_3 : decode cX0_greatestPart 3 = .ok (.invokevirtual 18, 3) := by decide +kernel
theorem dX0_greatestPart_6 : decode cX0_greatestPart 6 = .ok (.iconst 0, 1) := by decide +kernel
theorem dX0_greatestPart_7 : decode cX0_greatestPart 7 = .ok (.istore 5, 2) := by decide +kernel
theorem dX0_greatestPart_9 : decode cX0_greatestPart 9 = .ok (.iload 5, 2) := by decide +kernel
theorem dX0_greatestPart_11 : decode cX0_greatestPart 11 = .ok (.bipush 11, 2) := by decide +kernel
theorem dX0_greatestPart_13 : decode cX0_greatestPart 13 = .ok (.if_icmp .ge 17, 3) := by decide +kernel
theorem dX0_greatestPart_16 : decode cX0_greatestPart 16 = .ok (.aload_n 0, 1) := by decide +kernel
theorem dX0_greatestPart_17 : decode cX0_greatestPart 17 = .ok (.getfield 15, 3) := by decide +kernel
theorem dX0_greatestPart_20 : decode cX0_greatestPart 20 = .ok (.iload 5, 2) := by decide +kernel
theorem dX0_greatestPart_22 : decode cX0_greatestPart 22 = .ok (.iconst 0, 1) := by decide +kernel
theorem dX0_greatestPart_23 : decode cX0_greatestPart 23 = .ok (.iastore, 1) := by decide +kernel
theorem dX0_greatestPart_24 : decode cX0_greatestPart 24 = .ok (.iinc 5 1, 3) := by decide +kernel
theorem dX0_greatestPart_27 : decode cX0_greatestPart 27 = .ok (.goto (-18), 3) := by decide +kernel
theorem dX0_greatestPart_30 : decode cX0_greatestPart 30 = .ok (.iconst 0, 1) := by decide +kernel
theorem dX0_greatestPart_31 : decode cX0_greatestPart 31 = .ok (.istore 5, 2) := by decide +kernel
theorem dX0_greatestPart_33 : decode cX0_greatestPart 33 = .ok (.iconst 0, 1) := by decide +kernel
theorem dX0_greatestPart_34 : decode cX0_greatestPart 34 = .ok (.istore 6, 2) := by decide +kernel
theorem dX0_greatestPart_36 : decode cX0_greatestPart 36 = .ok (.iload 6, 2) := by decide +kernel
theorem dX0_greatestPart_38 : decode cX0_greatestPart 38 = .ok (.bipush 6, 2) := by decide +kernel
theorem dX0_greatestPart_40 : decode cX0_greatestPart 40 = .ok (.if_icmp .ge 61, 3) := by decide +kernel
theorem dX0_greatestPart_43 : decode cX0_greatestPart 43 = .ok (.iload 4, 2) := by decide +kernel
theorem dX0_greatestPart_45 : decode cX0_greatestPart 45 = .ok (.iload 6, 2) := by decide +kernel
theorem dX0_greatestPart_47 : decode cX0_greatestPart 47 = .ok (.ishr, 1) := by decide +kernel
theorem dX0_greatestPart_48 : decode cX0_greatestPart 48 = .ok (.iconst 1, 1) := by decide +kernel
theorem dX0_greatestPart_49 : decode cX0_greatestPart 49 = .ok (.iand, 1) := by decide +kernel
theorem dX0_greatestPart_50 : decode cX0_greatestPart 50 = .ok (.ifCond .eq 45, 3) := by decide +kernel
theorem dX0_greatestPart_53 : decode cX0_greatestPart 53 = .ok (.iload 6, 2) := by decide +kernel
theorem dX0_greatestPart_55 : decode cX0_greatestPart 55 = .ok (.aload_n 0, 1) := by decide +kernel
theorem dX0_greatestPart_56 : decode cX0_greatestPart 56 = .ok (.getfield 9, 3) := by decide +kernel
theorem dX0_greatestPart_59 : decode cX0_greatestPart 59 = .ok (.iconst 0, 1) := by decide +kernel
theorem dX0_greatestPart_60 : decode cX0_greatestPart 60 = .ok (.iload_n 3, 1) := by decide +kernel
theorem dX0_greatestPart_61 : decode cX0_greatestPart 61 = .ok (.aload_n 1, 1) := by decide +kernel
theorem dX0_greatestPart_62 : decode cX0_greatestPart 62 = .ok (.getfield 22, 3) := by decide +kernel
theorem dX0_greatestPart_65 : decode cX0_greatestPart 65 = .ok (.invokestatic 35, 3) := by decide +kernel
theorem dX0_greatestPart_68 : decode cX0_greatestPart 68 = .ok (.istore 7, 2) := by decide +kernel
theorem dX0_greatestPart_70 : decode cX0_greatestPart 70 = .ok (.aload_n 0, 1) := by decide +kernel
theorem dX0_greatestPart_71 : decode cX0_greatestPart 71 = .ok (.getfield 15, 3) := by decide +kernel
theorem dX0_greatestPart_74 : decode cX0_greatestPart 74 = .ok (.iload 7, 2) := by decide +kernel
theorem dX0_greatestPart_76 : decode cX0_greatestPart 76 = .ok (.dup2, 1) := by decide +kernel
theorem dX0_greatestPart_77 : decode cX0_greatestPart 77 = .ok (.iaload, 1) := by decide +kernel
theorem dX0_greatestPart_78 : decode cX0_greatestPart 78 = .ok (.iconst 1, 1) := by decide +kernel
theorem dX0_greatestPart_79 : decode cX0_greatestPart 79 = .ok (.iadd, 1) := by decide +kernel
theorem dX0_greatestPart_80 : decode cX0_greatestPart 80 = .ok (.iastore, 1) := by decide +kernel
theorem dX0_greatestPart_81 : decode cX0_greatestPart 81 = .ok (.iload 5, 2) := by decide +kernel
theorem dX0_greatestPart_83 : decode cX0_greatestPart 83 = .ok (.aload_n 0, 1) := by decide +kernel
theorem dX0_greatestPart_84 : decode cX0_greatestPart 84 = .ok (.getfield 15, 3) := by decide +kernel
theorem dX0_greatestPart_87 : decode cX0_greatestPart 87 = .ok (.iload 7, 2) := by decide +kernel
theorem dX0_greatestPart_89 : decode cX0_greatestPart 89 = .ok (.iaload, 1) := by decide +kernel
theorem dX0_greatestPart_90 : decode cX0_greatestPart 90 = .ok (.invokestatic 39, 3) := by decide +kernel
theorem dX0_greatestPart_93 : decode cX0_greatestPart 93 = .ok (.istore 5, 2) := by decide +kernel
theorem dX0_greatestPart_95 : decode cX0_greatestPart 95 = .ok (.iinc 6 1, 3) := by decide +kernel
theorem dX0_greatestPart_98 : decode cX0_greatestPart 98 = .ok (.goto (-62), 3) := by decide +kernel
theorem dX0_greatestPart_101 : decode cX0_greatestPart 101 = .ok (.iload 5, 2) := by decide +kernel
theorem dX0_greatestPart_103 : decode cX0_greatestPart 103 = .ok (.ireturn, 1) := by decide +kernel
theorem dX0_suppose_0 : decode cX0_suppose 0 = .ok (.iconst 0, 1) := by decide +kernel
theorem dX0_suppose_1 : decode cX0_suppose 1 = .ok (.istore_n 3, 1) := by decide +kernel
theorem dX0_suppose_2 : decode cX0_suppose 2 = .ok (.iload_n 3, 1) := by decide +kernel
theorem dX0_suppose_3 : decode cX0_suppose 3 = .ok (.iconst 3, 1) := by decide +kernel
theorem dX0_suppose_4 : decode cX0_suppose 4 = .ok (.if_icmp .ge 21, 3) := by decide +kernel
theorem dX0_suppose_7 : decode cX0_suppose 7 = .ok (.aload_n 0, 1) := by decide +kernel
theorem dX0_suppose_8 : decode cX0_suppose 8 = .ok (.getfield 9, 3) := by decide +kernel
theorem dX0_suppose_11 : decode cX0_suppose 11 = .ok (.iload_n 3, 1) := by decide +kernel
theorem dX0_suppose_12 : decode cX0_suppose 12 = .ok (.aload_n 1, 1) := by decide +kernel
theorem dX0_suppose_13 : decode cX0_suppose 13 = .ok (.iload_n 2, 1) := by decide +kernel
theorem dX0_suppose_14 : decode cX0_suppose 14 = .ok (.iload_n 3, 1) := by decide +kernel
theorem dX0_suppose_15 : decode cX0_suppose 15 = .ok (.invokevirtual 45, 3) := by decide +kernel
theorem dX0_suppose_18 : decode cX0_suppose 18 = .ok (.iastore, 1) := by decide +kernel
theorem dX0_suppose_19 : decode cX0_suppose 19 = .ok (.iinc 3 1, 3) := by decide +kernel
theorem dX0_suppose_22 : decode cX0_suppose 22 = .ok (.goto (-20), 3) := by decide +kernel
theorem dX0_suppose_25 : decode cX0_suppose 25 = .ok (.return_, 1) := by decide +kernel
theorem dX0_fits_0 : decode cX0_fits 0 = .ok (.iconst 0, 1) := by decide +kernel
theorem dX0_fits_1 : decode cX0_fits 1 = .ok (.istore 5, 2) := by decide +kernel
theorem dX0_fits_3 : decode cX0_fits 3 = .ok (.iload 5, 2) := by decide +kernel
theorem dX0_fits_5 : decode cX0_fits 5 = .ok (.iconst 1, 1) := by decide +kernel
theorem dX0_fits_6 : decode cX0_fits 6 = .ok (.iadd, 1) := by decide +kernel
theorem dX0_fits_7 : decode cX0_fits 7 = .ok (.aload_n 3, 1) := by decide +kernel
theorem dX0_fits_8 : decode cX0_fits 8 = .ok (.iload 4, 2) := by decide +kernel
theorem dX0_fits_10 : decode cX0_fits 10 = .ok (.invokevirtual 48, 3) := by decide +kernel
theorem dX0_fits_13 : decode cX0_fits 13 = .ok (.if_icmp .ge 42, 3) := by decide +kernel
theorem dX0_fits_16 : decode cX0_fits 16 = .ok (.iload_n 1, 1) := by decide +kernel
theorem dX0_fits_17 : decode cX0_fits 17 = .ok (.aload_n 0, 1) := by decide +kernel
theorem dX0_fits_18 : decode cX0_fits 18 = .ok (.getfield 9, 3) := by decide +kernel
theorem dX0_fits_21 : decode cX0_fits 21 = .ok (.iconst 0, 1) := by decide +kernel
theorem dX0_fits_22 : decode cX0_fits 22 = .ok (.aload_n 3, 1) := by decide +kernel
theorem dX0_fits_23 : decode cX0_fits 23 = .ok (.iload 4, 2) := by decide +kernel
theorem dX0_fits_25 : decode cX0_fits 25 = .ok (.iload 5, 2) := by decide +kernel
theorem dX0_fits_27 : decode cX0_fits 27 = .ok (.invokevirtual 54, 3) := by decide +kernel
theorem dX0_fits_30 : decode cX0_fits 30 = .ok (.iload_n 2, 1) := by decide +kernel
theorem dX0_fits_31 : decode cX0_fits 31 = .ok (.invokestatic 35, 3) := by decide +kernel
theorem dX0_fits_34 : decode cX0_fits 34 = .ok (.aload_n 3, 1) := by decide +kernel
theorem dX0_fits_35 : decode cX0_fits 35 = .ok (.iload 4, 2) := by decide +kernel
theorem dX0_fits_37 : decode cX0_fits 37 = .ok (.iload 5, 2) := by decide +kernel
theorem dX0_fits_39 : decode cX0_fits 39 = .ok (.iconst 1, 1) := by decide +kernel
theorem dX0_fits_40 : decode cX0_fits 40 = .ok (.iadd, 1) := by decide +kernel
theorem dX0_fits_41 : decode cX0_fits 41 = .ok (.invokevirtual 54, 3) := by decide +kernel
theorem dX0_fits_44 : decode cX0_fits 44 = .ok (.if_icmp .eq 5, 3) := by decide +kernel
theorem dX0_fits_47 : decode cX0_fits 47 = .ok (.iconst 0, 1) := by decide +kernel
theorem dX0_fits_48 : decode cX0_fits 48 = .ok (.ireturn, 1) := by decide +kernel
theorem dX0_fits_49 : decode cX0_fits 49 = .ok (.iinc 5 2, 3) := by decide +kernel
theorem dX0_fits_52 : decode cX0_fits 52 = .ok (.goto (-49), 3) := by decide +kernel
theorem dX0_fits_55 : decode cX0_fits 55 = .ok (.iconst 1, 1) := by decide +kernel
theorem dX0_fits_56 : decode cX0_fits 56 = .ok (.ireturn, 1) := by decide +kernel
theorem dX1_init_0 : decode cX1_init 0 = .ok (.aload_n 0, 1) := by decide +kernel
theorem dX1_init_1 : decode cX1_init 1 = .ok (.invokespecial 3, 3) := by decide +kernel
theorem dX1_init_4 : decode cX1_init 4 = .ok (.aload_n 0, 1) := by decide +kernel
theorem dX1_init_5 : decode cX1_init 5 = .ok (.bipush 6, 2) := by decide +kernel
theorem dX1_init_7 : decode cX1_init 7 = .ok (.newarray .int, 2) := by decide +kernel
theorem dX1_init_9 : decode cX1_init 9 = .ok (.putfield 9, 3) := by decide +kernel
theorem dX1_init_12 : decode cX1_init 12 = .ok (.aload_n 0, 1) := by decide +kernel
theorem dX1_init_13 : decode cX1_init 13 = .ok (.bipush 18, 2) := by decide +kernel
theorem dX1_init_15 : decode cX1_init 15 = .ok (.newarray .int, 2) := by decide +kernel
theorem dX1_init_17 : decode cX1_init 17 = .ok (.putfield 15, 3) := by decide +kernel
theorem dX1_init_20 : decode cX1_init 20 = .ok (.aload_n 0, 1) := by decide +kernel
theorem dX1_init_21 : decode cX1_init 21 = .ok (.bipush 18, 2) := by decide +kernel
theorem dX1_init_23 : decode cX1_init 23 = .ok (.newarray .int, 2) := by decide +kernel
theorem dX1_init_25 : decode cX1_init 25 = .ok (.putfield 18, 3) := by decide +kernel
theorem dX1_init_28 : decode cX1_init 28 = .ok (.aload_n 0, 1) := by decide +kernel
theorem dX1_init_29 : decode cX1_init 29 = .ok (.bipush 6, 2) := by decide +kernel
theorem dX1_init_31 : decode cX1_init 31 = .ok (.newarray .int, 2) := by decide +kernel
theorem dX1_init_33 : decode cX1_init 33 = .ok (.putfield 21, 3) := by decide +kernel
theorem dX1_init_36 : decode cX1_init 36 = .ok (.aload_n 0, 1) := by decide +kernel
theorem dX1_init_37 : decode cX1_init 37 = .ok (.bipush 6, 2) := by decide +kernel
theorem dX1_init_39 : decode cX1_init 39 = .ok (.newarray .int, 2) := by decide +kernel
theorem dX1_init_41 : decode cX1_init 41 = .ok (.putfield 24, 3) := by decide +kernel
theorem dX1_init_44 : decode cX1_init 44 = .ok (.aload_n 0, 1) := by decide +kernel
theorem dX1_init_45 : decode cX1_init 45 = .ok (.bipush 6, 2) := by decide +kernel
theorem dX1_init_47 : decode cX1_init 47 = .ok (.newarray .int, 2) := by decide +kernel
theorem dX1_init_49 : decode cX1_init 49 = .ok (.putfield 27, 3) := by decide +kernel
theorem dX1_init_52 : decode cX1_init 52 = .ok (.aload_n 0, 1) := by decide +kernel
theorem dX1_init_53 : decode cX1_init 53 = .ok (.bipush 40, 2) := by decide +kernel
theorem dX1_init_55 : decode cX1_init 55 = .ok (.newarray .int, 2) := by decide +kernel
theorem dX1_init_57 : decode cX1_init 57 = .ok (.putfield 30, 3) := by decide +kernel
theorem dX1_init_60 : decode cX1_init 60 = .ok (.aload_n 0, 1) := by decide +kernel
theorem dX1_init_61 : decode cX1_init 61 = .ok (.iconst 0, 1) := by decide +kernel
theorem dX1_init_62 : decode cX1_init 62 = .ok (.putfield 33, 3) := by decide +kernel
theorem dX1_init_65 : decode cX1_init 65 = .ok (.aload_n 0, 1) := by decide +kernel
theorem dX1_init_66 : decode cX1_init 66 = .ok (.iconst 0, 1) := by decide +kernel
theorem dX1_init_67 : decode cX1_init 67 = .ok (.putfield 37, 3) := by decide +kernel
theorem dX1_init_70 : decode cX1_init 70 = .ok (.aload_n 0, 1) := by decide +kernel
theorem dX1_init_71 : decode cX1_init 71 = .ok (.iconst 0, 1) := by decide +kernel
theorem dX1_init_72 : decode cX1_init 72 = .ok (.putfield 40, 3) := by decide +kernel
theorem dX1_init_75 : decode cX1_init 75 = .ok (.return_, 1) := by decide +kernel
theorem dX1_begin_0 : decode cX1_begin 0 = .ok (.aload_n 0, 1) := by decide +kernel
theorem dX1_begin_1 : decode cX1_begin 1 = .ok (.aload_n 1, 1) := by decide +kernel
theorem dX1_begin_2 : decode cX1_begin 2 = .ok (.getfield 43, 3) := by decide +kernel
theorem dX1_begin_5 : decode cX1_begin 5 = .ok (.putfield 33, 3) := by decide +kernel
theorem dX1_begin_8 : decode cX1_begin 8 = .ok (.iconst 0, 1) := by decide +kernel
theorem dX1_begin_9 : decode cX1_begin 9 = .ok (.istore_n 2, 1) := by decide +kernel
theorem dX1_begin_10 : decode cX1_begin 10 = .ok (.iload_n 2, 1) := by decide +kernel
theorem dX1_begin_11 : decode cX1_begin 11 = .ok (.aload_n 0, 1) := by decide +kernel
theorem dX1_begin_12 : decode cX1_begin 12 = .ok (.getfield 33, 3) := by decide +kernel
theorem dX1_begin_15 : decode cX1_begin 15 = .ok (.if_icmp .ge 21, 3) := by decide +kernel
theorem dX1_begin_18 : decode cX1_begin 18 = .ok (.aload_n 0, 1) := by decide +kernel
theorem dX1_begin_19 : decode cX1_begin 19 = .ok (.getfield 9, 3) := by decide +kernel
theorem dX1_begin_22 : decode cX1_begin 22 = .ok (.iload_n 2, 1) := by decide +kernel
theorem dX1_begin_23 : decode cX1_begin 23 = .ok (.aload_n 1, 1) := by decide +kernel
theorem dX1_begin_24 : decode cX1_begin 24 = .ok (.getfield 46, 3) := by decide +kernel
theorem dX1_begin_27 : decode cX1_begin 27 = .ok (.iload_n 2, 1) := by decide +kernel
theorem dX1_begin_28 : decode cX1_begin 28 = .ok (.iaload, 1) := by decide +kernel
theorem dX1_begin_29 : decode cX1_begin 29 = .ok (.iastore, 1) := by decide +kernel
theorem dX1_begin_30 : decode cX1_begin 30 = .ok (.iinc 2 1, 3) := by decide +kernel
theorem dX1_begin_33 : decode cX1_begin 33 = .ok (.goto (-23), 3) := by decide +kernel
theorem dX1_begin_36 : decode cX1_begin 36 = .ok (.iconst 0, 1) := by decide +kernel
theorem dX1_begin_37 : decode cX1_begin 37 = .ok (.istore_n 2, 1) := by decide +kernel
theorem dX1_begin_38 : decode cX1_begin 38 = .ok (.iload_n 2, 1) := by decide +kernel
theorem dX1_begin_39 : decode cX1_begin 39 = .ok (.aload_n 0, 1) := by decide +kernel
theorem dX1_begin_40 : decode cX1_begin 40 = .ok (.getfield 33, 3) := by decide +kernel
theorem dX1_begin_43 : decode cX1_begin 43 = .ok (.iconst 3, 1) := by decide +kernel
theorem dX1_begin_44 : decode cX1_begin 44 = .ok (.imul, 1) := by decide +kernel
theorem dX1_begin_45 : decode cX1_begin 45 = .ok (.if_icmp .ge 21, 3) := by decide +kernel
theorem dX1_begin_48 : decode cX1_begin 48 = .ok (.aload_n 0, 1) := by decide +kernel
theorem dX1_begin_49 : decode cX1_begin 49 = .ok (.getfield 15, 3) := by decide +kernel
theorem dX1_begin_52 : decode cX1_begin 52 = .ok (.iload_n 2, 1) := by decide +kernel
theorem dX1_begin_53 : decode cX1_begin 53 = .ok (.aload_n 1, 1) := by decide +kernel
theorem dX1_begin_54 : decode cX1_begin 54 = .ok (.getfield 47, 3) := by decide +kernel
theorem dX1_begin_57 : decode cX1_begin 57 = .ok (.iload_n 2, 1) := by decide +kernel
theorem dX1_begin_58 : decode cX1_begin 58 = .ok (.iaload, 1) := by decide +kernel
theorem dX1_begin_59 : decode cX1_begin 59 = .ok (.iastore, 1) := by decide +kernel
theorem dX1_begin_60 : decode cX1_begin 60 = .ok (.iinc 2 1, 3) := by decide +kernel
theorem dX1_begin_63 : decode cX1_begin 63 = .ok (.goto (-25), 3) := by decide +kernel
theorem dX1_begin_66 : decode cX1_begin 66 = .ok (.aload_n 0, 1) := by decide +kernel
theorem dX1_begin_67 : decode cX1_begin 67 = .ok (.iconst 0, 1) := by decide +kernel
theorem dX1_begin_68 : decode cX1_begin 68 = .ok (.invokevirtual 48, 3) := by decide +kernel
theorem dX1_begin_71 : decode cX1_begin 71 = .ok (.return_, 1) := by decide +kernel
theorem dX1_redo_0 : decode cX1_redo 0 = .ok (.iconst 0, 1) := by decide +kernel
theorem dX1_redo_1 : decode cX1_redo 1 = .ok (.istore_n 2, 1) := by decide +kernel
theorem dX1_redo_2 : decode cX1_redo 2 = .ok (.iload_n 2, 1) := by decide +kernel
theorem dX1_redo_3 : decode cX1_redo 3 = .ok (.aload_n 0, 1) := by decide +kernel
theorem dX1_redo_4 : decode cX1_redo 4 = .ok (.getfield 33, 3) := by decide +kernel
theorem dX1_redo_7 : decode cX1_redo 7 = .ok (.if_icmp .ge 16, 3) := by decide +kernel
theorem dX1_redo_10 : decode cX1_redo 10 = .ok (.aload_n 0, 1) := by decide +kernel
theorem dX1_redo_11 : decode cX1_redo 11 = .ok (.getfield 21, 3) := by decide +kernel
theorem dX1_redo_14 : decode cX1_redo 14 = .ok (.iload_n 2, 1) := by decide +kernel
theorem dX1_redo_15 : decode cX1_redo 15 = .ok (.iload_n 2, 1) := by decide +kernel
theorem dX1_redo_16 : decode cX1_redo 16 = .ok (.iastore, 1) := by decide +kernel
theorem dX1_redo_17 : decode cX1_redo 17 = .ok (.iinc 2 1, 3) := by decide +kernel
theorem dX1_redo_20 : decode cX1_redo 20 = .ok (.goto (-18), 3) := by decide +kernel
theorem dX1_redo_23 : decode cX1_redo 23 = .ok (.iconst 0, 1) := by decide +kernel
theorem dX1_redo_24 : decode cX1_redo 24 = .ok (.istore_n 2, 1) := by decide +kernel
theorem dX1_redo_25 : decode cX1_redo 25 = .ok (.iload_n 2, 1) := by decide +kernel
theorem dX1_redo_26 : decode cX1_redo 26 = .ok (.aload_n 0, 1) := by decide +kernel
theorem dX1_redo_27 : decode cX1_redo 27 = .ok (.getfield 33, 3) := by decide +kernel
theorem dX1_redo_30 : decode cX1_redo 30 = .ok (.iconst 3, 1) := by decide +kernel
theorem dX1_redo_31 : decode cX1_redo 31 = .ok (.imul, 1) := by decide +kernel
theorem dX1_redo_32 : decode cX1_redo 32 = .ok (.if_icmp .ge 21, 3) := by decide +kernel
theorem dX1_redo_35 : decode cX1_redo 35 = .ok (.aload_n 0, 1) := by decide +kernel
theorem dX1_redo_36 : decode cX1_redo 36 = .ok (.getfield 18, 3) := by decide +kernel
theorem dX1_redo_39 : decode cX1_redo 39 = .ok (.iload_n 2, 1) := by decide +kernel
theorem dX1_redo_40 : decode cX1_redo 40 = .ok (.aload_n 0, 1) := by decide +kernel
theorem dX1_redo_41 : decode cX1_redo 41 = .ok (.getfield 15, 3) := by decide +kernel
theorem dX1_redo_44 : decode cX1_redo 44 = .ok (.iload_n 2, 1) := by decide +kernel
theorem dX1_redo_45 : decode cX1_redo 45 = .ok (.iaload, 1) := by decide +kernel
theorem dX1_redo_46 : decode cX1_redo 46 = .ok (.iastore, 1) := by decide +kernel
theorem dX1_redo_47 : decode cX1_redo 47 = .ok (.iinc 2 1, 3) := by decide +kernel
theorem dX1_redo_50 : decode cX1_redo 50 = .ok (.goto (-25), 3) := by decide +kernel
theorem dX1_redo_53 : decode cX1_redo 53 = .ok (.aload_n 0, 1) := by decide +kernel
theorem dX1_redo_54 : decode cX1_redo 54 = .ok (.iconst 0, 1) := by decide +kernel
theorem dX1_redo_55 : decode cX1_redo 55 = .ok (.putfield 37, 3) := by decide +kernel
theorem dX1_redo_58 : decode cX1_redo 58 = .ok (.aload_n 0, 1) := by decide +kernel
theorem dX1_redo_59 : decode cX1_redo 59 = .ok (.iload_n 1, 1) := by decide +kernel
theorem dX1_redo_60 : decode cX1_redo 60 = .ok (.putfield 40, 3) := by decide +kernel
theorem dX1_redo_63 : decode cX1_redo 63 = .ok (.iconst 0, 1) := by decide +kernel
theorem dX1_redo_64 : decode cX1_redo 64 = .ok (.istore_n 2, 1) := by decide +kernel
theorem dX1_redo_65 : decode cX1_redo 65 = .ok (.iload_n 2, 1) := by decide +kernel
theorem dX1_redo_66 : decode cX1_redo 66 = .ok (.iload_n 1, 1) := by decide +kernel
theorem dX1_redo_67 : decode cX1_redo 67 = .ok (.if_icmp .ge 19, 3) := by decide +kernel
theorem dX1_redo_70 : decode cX1_redo 70 = .ok (.aload_n 0, 1) := by decide +kernel
theorem dX1_redo_71 : decode cX1_redo 71 = .ok (.aload_n 0, 1) := by decide +kernel
theorem dX1_redo_72 : decode cX1_redo 72 = .ok (.getfield 30, 3) := by decide +kernel
theorem dX1_redo_75 : decode cX1_redo 75 = .ok (.iload_n 2, 1) := by decide +kernel
theorem dX1_redo_76 : decode cX1_redo 76 = .ok (.iaload, 1) := by decide +kernel
theorem dX1_redo_77 : decode cX1_redo 77 = .ok (.invokevirtual 52, 3) := by decide +kernel
theorem dX1_redo_80 : decode cX1_redo 80 = .ok (.iinc 2 1, 3) := by decide +kernel
theorem dX1_redo_83 : decode cX1_redo 83 = .ok (.goto (-18), 3) := by decide +kernel
theorem dX1_redo_86 : decode cX1_redo 86 = .ok (.return_, 1) := by decide +kernel
theorem dX1_add_0 : decode cX1_add 0 = .ok (.aload_n 0, 1) := by decide +kernel
theorem dX1_add_1 : decode cX1_add 1 = .ok (.getfield 40, 3) := by decide +kernel
theorem dX1_add_4 : decode cX1_add 4 = .ok (.bipush 40, 2) := by decide +kernel
theorem dX1_add_6 : decode cX1_add 6 = .ok (.if_icmp .ge 28, 3) := by decide +kernel
theorem dX1_add_9 : decode cX1_add 9 = .ok (.aload_n 0, 1) := by decide +kernel
theorem dX1_add_10 : decode cX1_add 10 = .ok (.getfield 30, 3) := by decide +kernel
theorem dX1_add_13 : decode cX1_add 13 = .ok (.aload_n 0, 1) := by decide +kernel
theorem dX1_add_14 : decode cX1_add 14 = .ok (.getfield 40, 3) := by decide +kernel
theorem dX1_add_17 : decode cX1_add 17 = .ok (.iload_n 1, 1) := by decide +kernel
theorem dX1_add_18 : decode cX1_add 18 = .ok (.iastore, 1) := by decide +kernel
theorem dX1_add_19 : decode cX1_add 19 = .ok (.aload_n 0, 1) := by decide +kernel
theorem dX1_add_20 : decode cX1_add 20 = .ok (.dup, 1) := by decide +kernel
theorem dX1_add_21 : decode cX1_add 21 = .ok (.getfield 40, 3) := by decide +kernel
theorem dX1_add_24 : decode cX1_add 24 = .ok (.iconst 1, 1) := by decide +kernel
theorem dX1_add_25 : decode cX1_add 25 = .ok (.iadd, 1) := by decide +kernel
theorem dX1_add_26 : decode cX1_add 26 = .ok (.putfield 40, 3) := by decide +kernel
theorem dX1_add_29 : decode cX1_add 29 = .ok (.aload_n 0, 1) := by decide +kernel
theorem dX1_add_30 : decode cX1_add 30 = .ok (.iload_n 1, 1) := by decide +kernel
theorem dX1_add_31 : decode cX1_add 31 = .ok (.invokevirtual 52, 3) := by decide +kernel
theorem dX1_add_34 : decode cX1_add 34 = .ok (.aload_n 0, 1) := by decide +kernel
theorem dX1_add_35 : decode cX1_add 35 = .ok (.getfield 21, 3) := by decide +kernel
theorem dX1_add_38 : decode cX1_add 38 = .ok (.iconst 0, 1) := by decide +kernel
theorem dX1_add_39 : decode cX1_add 39 = .ok (.iaload, 1) := by decide +kernel
theorem dX1_add_40 : decode cX1_add 40 = .ok (.ireturn, 1) := by decide +kernel
theorem dX1_carryOut_0 : decode cX1_carryOut 0 = .ok (.iload_n 1, 1) := by decide +kernel
theorem dX1_carryOut_1 : decode cX1_carryOut 1 = .ok (.bipush 100, 2) := by decide +kernel
theorem dX1_carryOut_3 : decode cX1_carryOut 3 = .ok (.idiv, 1) := by decide +kernel
theorem dX1_carryOut_4 : decode cX1_carryOut 4 = .ok (.bipush 10, 2) := by decide +kernel
theorem dX1_carryOut_6 : decode cX1_carryOut 6 = .ok (.irem, 1) := by decide +kernel
theorem dX1_carryOut_7 : decode cX1_carryOut 7 = .ok (.istore_n 2, 1) := by decide +kernel
theorem dX1_carryOut_8 : decode cX1_carryOut 8 = .ok (.iload_n 1, 1) := by decide +kernel
theorem dX1_carryOut_9 : decode cX1_carryOut 9 = .ok (.sipush 1000, 3) := by decide +kernel
theorem dX1_carryOut_12 : decode cX1_carryOut 12 = .ok (.idiv, 1) := by decide +kernel
theorem dX1_carryOut_13 : decode cX1_carryOut 13 = .ok (.tableswitch 74 0 2 #[27, 59, 66], 27) := by decide +kernel
theorem dX1_carryOut_40 : decode cX1_carryOut 40 = .ok (.aload_n 0, 1) := by decide +kernel
theorem dX1_carryOut_41 : decode cX1_carryOut 41 = .ok (.aload_n 0, 1) := by decide +kernel
theorem dX1_carryOut_42 : decode cX1_carryOut 42 = .ok (.getfield 21, 3) := by decide +kernel
theorem dX1_carryOut_45 : decode cX1_carryOut 45 = .ok (.aload_n 0, 1) := by decide +kernel
theorem dX1_carryOut_46 : decode cX1_carryOut 46 = .ok (.getfield 21, 3) := by decide +kernel
theorem dX1_carryOut_49 : decode cX1_carryOut 49 = .ok (.iload_n 2, 1) := by decide +kernel
theorem dX1_carryOut_50 : decode cX1_carryOut 50 = .ok (.aload_n 0, 1) := by decide +kernel
theorem dX1_carryOut_51 : decode cX1_carryOut 51 = .ok (.getfield 37, 3) := by decide +kernel
theorem dX1_carryOut_54 : decode cX1_carryOut 54 = .ok (.iconst 0, 1) := by decide +kernel
theorem dX1_carryOut_55 : decode cX1_carryOut 55 = .ok (.invokevirtual 55, 3) := by decide +kernel
theorem dX1_carryOut_58 : decode cX1_carryOut 58 = .ok (.aload_n 0, 1) := by decide +kernel
theorem dX1_carryOut_59 : decode cX1_carryOut 59 = .ok (.aload_n 0, 1) := by decide +kernel
theorem dX1_carryOut_60 : decode cX1_carryOut 60 = .ok (.getfield 37, 3) := by decide +kernel
theorem dX1_carryOut_63 : decode cX1_carryOut 63 = .ok (.invokestatic 59, 3) := by decide +kernel
theorem dX1_carryOut_66 : decode cX1_carryOut 66 = .ok (.putfield 37, 3) := by decide +kernel
theorem dX1_carryOut_69 : decode cX1_carryOut 69 = .ok (.goto 38, 3) := by decide +kernel
theorem dX1_carryOut_72 : decode cX1_carryOut 72 = .ok (.aload_n 0, 1) := by decide +kernel
theorem dX1_carryOut_73 : decode cX1_carryOut 73 = .ok (.invokevirtual 63, 3) := by decide +kernel
theorem dX1_carryOut_76 : decode cX1_carryOut 76 = .ok (.goto 31, 3) := by decide +kernel
theorem dX1_carryOut_79 : decode cX1_carryOut 79 = .ok (.aload_n 0, 1) := by decide +kernel
theorem dX1_carryOut_80 : decode cX1_carryOut 80 = .ok (.iload_n 2, 1) := by decide +kernel
theorem dX1_carryOut_81 : decode cX1_carryOut 81 = .ok (.invokevirtual 66, 3) := by decide +kernel
theorem dX1_carryOut_84 : decode cX1_carryOut 84 = .ok (.goto 23, 3) := by decide +kernel
theorem dX1_carryOut_87 : decode cX1_carryOut 87 = .ok (.aload_n 0, 1) := by decide +kernel
theorem dX1_carryOut_88 : decode cX1_carryOut 88 = .ok (.getfield 18, 3) := by decide +kernel
theorem dX1_carryOut_91 : decode cX1_carryOut 91 = .ok (.iload_n 2, 1) := by decide +kernel
theorem dX1_carryOut_92 : decode cX1_carryOut 92 = .ok (.iconst 3, 1) := by decide +kernel
theorem dX1_carryOut_93 : decode cX1_carryOut 93 = .ok (.imul, 1) := by decide +kernel
theorem dX1_carryOut_94 : decode cX1_carryOut 94 = .ok (.iload_n 1, 1) := by decide +kernel
theorem dX1_carryOut_95 : decode cX1_carryOut 95 = .ok (.bipush 10, 2) := by decide +kernel
theorem dX1_carryOut_97 : decode cX1_carryOut 97 = .ok (.idiv, 1) := by decide +kernel
theorem dX1_carryOut_98 : decode cX1_carryOut 98 = .ok (.bipush 10, 2) := by decide +kernel
theorem dX1_carryOut_100 : decode cX1_carryOut 100 = .ok (.irem, 1) := by decide +kernel
theorem dX1_carryOut_101 : decode cX1_carryOut 101 = .ok (.iadd, 1) := by decide +kernel
theorem dX1_carryOut_102 : decode cX1_carryOut 102 = .ok (.iload_n 1, 1) := by decide +kernel
theorem dX1_carryOut_103 : decode cX1_carryOut 103 = .ok (.bipush 10, 2) := by decide +kernel
theorem dX1_carryOut_105 : decode cX1_carryOut 105 = .ok (.irem, 1) := by decide +kernel
theorem dX1_carryOut_106 : decode cX1_carryOut 106 = .ok (.iastore, 1) := by decide +kernel
theorem dX1_carryOut_107 : decode cX1_carryOut 107 = .ok (.return_, 1) := by decide +kernel
theorem dX1_turnOver_0 : decode cX1_turnOver 0 = .ok (.iconst 0, 1) := by decide +kernel
theorem dX1_turnOver_1 : decode cX1_turnOver 1 = .ok (.istore_n 1, 1) := by decide +kernel
theorem dX1_turnOver_2 : decode cX1_turnOver 2 = .ok (.iload_n 1, 1) := by decide +kernel
theorem dX1_turnOver_3 : decode cX1_turnOver 3 = .ok (.aload_n 0, 1) := by decide +kernel
theorem dX1_turnOver_4 : decode cX1_turnOver 4 = .ok (.getfield 33, 3) := by decide +kernel
theorem dX1_turnOver_7 : decode cX1_turnOver 7 = .ok (.iconst 2, 1) := by decide +kernel
theorem dX1_turnOver_8 : decode cX1_turnOver 8 = .ok (.idiv, 1) := by decide +kernel
theorem dX1_turnOver_9 : decode cX1_turnOver 9 = .ok (.if_icmp .ge 49, 3) := by decide +kernel
theorem dX1_turnOver_12 : decode cX1_turnOver 12 = .ok (.aload_n 0, 1) := by decide +kernel
theorem dX1_turnOver_13 : decode cX1_turnOver 13 = .ok (.getfield 21, 3) := by decide +kernel
theorem dX1_turnOver_16 : decode cX1_turnOver 16 = .ok (.iload_n 1, 1) := by decide +kernel
theorem dX1_turnOver_17 : decode cX1_turnOver 17 = .ok (.iaload, 1) := by decide +kernel
theorem dX1_turnOver_18 : decode cX1_turnOver 18 = .ok (.istore_n 2, 1) := by decide +kernel
theorem dX1_turnOver_19 : decode cX1_turnOver 19 = .ok (.aload_n 0, 1) := by decide +kernel
theorem dX1_turnOver_20 : decode cX1_turnOver 20 = .ok (.getfield 21, 3) := by decide +kernel
theorem dX1_turnOver_23 : decode cX1_turnOver 23 = .ok (.iload_n 1, 1) := by decide +kernel
theorem dX1_turnOver_24 : decode cX1_turnOver 24 = .ok (.aload_n 0, 1) := by decide +kernel
theorem dX1_turnOver_25 : decode cX1_turnOver 25 = .ok (.getfield 21, 3) := by decide +kernel
theorem dX1_turnOver_28 : decode cX1_turnOver 28 = .ok (.aload_n 0, 1) := by decide +kernel
theorem dX1_turnOver_29 : decode cX1_turnOver 29 = .ok (.getfield 33, 3) := by decide +kernel
theorem dX1_turnOver_32 : decode cX1_turnOver 32 = .ok (.iconst 1, 1) := by decide +kernel
theorem dX1_turnOver_33 : decode cX1_turnOver 33 = .ok (.isub, 1) := by decide +kernel
theorem dX1_turnOver_34 : decode cX1_turnOver 34 = .ok (.iload_n 1, 1) := by decide +kernel
theorem dX1_turnOver_35 : decode cX1_turnOver 35 = .ok (.isub, 1) := by decide +kernel
theorem dX1_turnOver_36 : decode cX1_turnOver 36 = .ok (.iaload, 1) := by decide +kernel
theorem dX1_turnOver_37 : decode cX1_turnOver 37 = .ok (.iastore, 1) := by decide +kernel
theorem dX1_turnOver_38 : decode cX1_turnOver 38 = .ok (.aload_n 0, 1) := by decide +kernel
theorem dX1_turnOver_39 : decode cX1_turnOver 39 = .ok (.getfield 21, 3) := by decide +kernel
theorem dX1_turnOver_42 : decode cX1_turnOver 42 = .ok (.aload_n 0, 1) := by decide +kernel
theorem dX1_turnOver_43 : decode cX1_turnOver 43 = .ok (.getfield 33, 3) := by decide +kernel
theorem dX1_turnOver_46 : decode cX1_turnOver 46 = .ok (.iconst 1, 1) := by decide +kernel
theorem dX1_turnOver_47 : decode cX1_turnOver 47 = .ok (.isub, 1) := by decide +kernel
theorem dX1_turnOver_48 : decode cX1_turnOver 48 = .ok (.iload_n 1, 1) := by decide +kernel
theorem dX1_turnOver_49 : decode cX1_turnOver 49 = .ok (.isub, 1) := by decide +kernel
theorem dX1_turnOver_50 : decode cX1_turnOver 50 = .ok (.iload_n 2, 1) := by decide +kernel
theorem dX1_turnOver_51 : decode cX1_turnOver 51 = .ok (.iastore, 1) := by decide +kernel
theorem dX1_turnOver_52 : decode cX1_turnOver 52 = .ok (.iinc 1 1, 3) := by decide +kernel
theorem dX1_turnOver_55 : decode cX1_turnOver 55 = .ok (.goto (-53), 3) := by decide +kernel
theorem dX1_turnOver_58 : decode cX1_turnOver 58 = .ok (.return_, 1) := by decide +kernel
theorem dX1_liftOff_0 : decode cX1_liftOff 0 = .ok (.iconst 0, 1) := by decide +kernel
theorem dX1_liftOff_1 : decode cX1_liftOff 1 = .ok (.istore_n 2, 1) := by decide +kernel
theorem dX1_liftOff_2 : decode cX1_liftOff 2 = .ok (.iload_n 2, 1) := by decide +kernel
theorem dX1_liftOff_3 : decode cX1_liftOff 3 = .ok (.aload_n 0, 1) := by decide +kernel
theorem dX1_liftOff_4 : decode cX1_liftOff 4 = .ok (.getfield 33, 3) := by decide +kernel
theorem dX1_liftOff_7 : decode cX1_liftOff 7 = .ok (.if_icmp .ge 21, 3) := by decide +kernel
theorem dX1_liftOff_10 : decode cX1_liftOff 10 = .ok (.aload_n 0, 1) := by decide +kernel
theorem dX1_liftOff_11 : decode cX1_liftOff 11 = .ok (.getfield 24, 3) := by decide +kernel
theorem dX1_liftOff_14 : decode cX1_liftOff 14 = .ok (.iload_n 2, 1) := by decide +kernel
theorem dX1_liftOff_15 : decode cX1_liftOff 15 = .ok (.aload_n 0, 1) := by decide +kernel
theorem dX1_liftOff_16 : decode cX1_liftOff 16 = .ok (.getfield 21, 3) := by decide +kernel
theorem dX1_liftOff_19 : decode cX1_liftOff 19 = .ok (.iload_n 2, 1) := by decide +kernel
theorem dX1_liftOff_20 : decode cX1_liftOff 20 = .ok (.iaload, 1) := by decide +kernel
theorem dX1_liftOff_21 : decode cX1_liftOff 21 = .ok (.iastore, 1) := by decide +kernel
theorem dX1_liftOff_22 : decode cX1_liftOff 22 = .ok (.iinc 2 1, 3) := by decide +kernel
theorem dX1_liftOff_25 : decode cX1_liftOff 25 = .ok (.goto (-23), 3) := by decide +kernel
theorem dX1_liftOff_28 : decode cX1_liftOff 28 = .ok (.iconst 0, 1) := by decide +kernel
theorem dX1_liftOff_29 : decode cX1_liftOff 29 = .ok (.istore_n 2, 1) := by decide +kernel
theorem dX1_liftOff_30 : decode cX1_liftOff 30 = .ok (.iload_n 2, 1) := by decide +kernel
theorem dX1_liftOff_31 : decode cX1_liftOff 31 = .ok (.aload_n 0, 1) := by decide +kernel
theorem dX1_liftOff_32 : decode cX1_liftOff 32 = .ok (.getfield 33, 3) := by decide +kernel
theorem dX1_liftOff_35 : decode cX1_liftOff 35 = .ok (.if_icmp .ge 28, 3) := by decide +kernel
theorem dX1_liftOff_38 : decode cX1_liftOff 38 = .ok (.aload_n 0, 1) := by decide +kernel
theorem dX1_liftOff_39 : decode cX1_liftOff 39 = .ok (.getfield 21, 3) := by decide +kernel
theorem dX1_liftOff_42 : decode cX1_liftOff 42 = .ok (.iload_n 2, 1) := by decide +kernel
theorem dX1_liftOff_43 : decode cX1_liftOff 43 = .ok (.aload_n 0, 1) := by decide +kernel
theorem dX1_liftOff_44 : decode cX1_liftOff 44 = .ok (.getfield 24, 3) := by decide +kernel
theorem dX1_liftOff_47 : decode cX1_liftOff 47 = .ok (.iload_n 2, 1) := by decide +kernel
theorem dX1_liftOff_48 : decode cX1_liftOff 48 = .ok (.iload_n 1, 1) := by decide +kernel
theorem dX1_liftOff_49 : decode cX1_liftOff 49 = .ok (.iadd, 1) := by decide +kernel
theorem dX1_liftOff_50 : decode cX1_liftOff 50 = .ok (.aload_n 0, 1) := by decide +kernel
theorem dX1_liftOff_51 : decode cX1_liftOff 51 = .ok (.getfield 33, 3) := by decide +kernel
theorem dX1_liftOff_54 : decode cX1_liftOff 54 = .ok (.irem, 1) := by decide +kernel
theorem dX1_liftOff_55 : decode cX1_liftOff 55 = .ok (.iaload, 1) := by decide +kernel
theorem dX1_liftOff_56 : decode cX1_liftOff 56 = .ok (.iastore, 1) := by decide +kernel
theorem dX1_liftOff_57 : decode cX1_liftOff 57 = .ok (.iinc 2 1, 3) := by decide +kernel
theorem dX1_liftOff_60 : decode cX1_liftOff 60 = .ok (.goto (-30), 3) := by decide +kernel
theorem dX1_liftOff_63 : decode cX1_liftOff 63 = .ok (.return_, 1) := by decide +kernel
theorem dX1_sift_0 : decode cX1_sift 0 = .ok (.iconst 0, 1) := by decide +kernel
theorem dX1_sift_1 : decode cX1_sift 1 = .ok (.istore 6, 2) := by decide +kernel
theorem dX1_sift_3 : decode cX1_sift 3 = .ok (.iload 6, 2) := by decide +kernel
theorem dX1_sift_5 : decode cX1_sift 5 = .ok (.aload_n 0, 1) := by decide +kernel
theorem dX1_sift_6 : decode cX1_sift 6 = .ok (.getfield 33, 3) := by decide +kernel
theorem dX1_sift_9 : decode cX1_sift 9 = .ok (.if_icmp .ge 158, 3) := by decide +kernel
theorem dX1_sift_12 : decode cX1_sift 12 = .ok (.aload_n 1, 1) := by decide +kernel
theorem dX1_sift_13 : decode cX1_sift 13 = .ok (.iload 6, 2) := by decide +kernel
theorem dX1_sift_15 : decode cX1_sift 15 = .ok (.iaload, 1) := by decide +kernel
theorem dX1_sift_16 : decode cX1_sift 16 = .ok (.istore 7, 2) := by decide +kernel
theorem dX1_sift_18 : decode cX1_sift 18 = .ok (.iload 5, 2) := by decide +kernel
theorem dX1_sift_20 : decode cX1_sift 20 = .ok (.iload 7, 2) := by decide +kernel
theorem dX1_sift_22 : decode cX1_sift 22 = .ok (.ishr, 1) := by decide +kernel
theorem dX1_sift_23 : decode cX1_sift 23 = .ok (.iconst 1, 1) := by decide +kernel
theorem dX1_sift_24 : decode cX1_sift 24 = .ok (.iand, 1) := by decide +kernel
theorem dX1_sift_25 : decode cX1_sift 25 = .ok (.ifCond .eq 7, 3) := by decide +kernel
theorem dX1_sift_28 : decode cX1_sift 28 = .ok (.iconst 1, 1) := by decide +kernel
theorem dX1_sift_29 : decode cX1_sift 29 = .ok (.goto 4, 3) := by decide +kernel
theorem dX1_sift_32 : decode cX1_sift 32 = .ok (.iconst 0, 1) := by decide +kernel
theorem dX1_sift_33 : decode cX1_sift 33 = .ok (.istore 8, 2) := by decide +kernel
theorem dX1_sift_35 : decode cX1_sift 35 = .ok (.iload 8, 2) := by decide +kernel
theorem dX1_sift_37 : decode cX1_sift 37 = .ok (.ifCond .eq 8, 3) := by decide +kernel
theorem dX1_sift_40 : decode cX1_sift 40 = .ok (.bipush 10, 2) := by decide +kernel
theorem dX1_sift_42 : decode cX1_sift 42 = .ok (.goto 24, 3) := by decide +kernel
theorem dX1_sift_45 : decode cX1_sift 45 = .ok (.aload_n 0, 1) := by decide +kernel
theorem dX1_sift_46 : decode cX1_sift 46 = .ok (.getfield 9, 3) := by decide +kernel
theorem dX1_sift_49 : decode cX1_sift 49 = .ok (.iload 7, 2) := by decide +kernel
theorem dX1_sift_51 : decode cX1_sift 51 = .ok (.iaload, 1) := by decide +kernel
theorem dX1_sift_52 : decode cX1_sift 52 = .ok (.aload_n 0, 1) := by decide +kernel
theorem dX1_sift_53 : decode cX1_sift 53 = .ok (.getfield 18, 3) := by decide +kernel
theorem dX1_sift_56 : decode cX1_sift 56 = .ok (.iload 7, 2) := by decide +kernel
theorem dX1_sift_58 : decode cX1_sift 58 = .ok (.iconst 3, 1) := by decide +kernel
theorem dX1_sift_59 : decode cX1_sift 59 = .ok (.imul, 1) := by decide +kernel
theorem dX1_sift_60 : decode cX1_sift 60 = .ok (.iload_n 3, 1) := by decide +kernel
theorem dX1_sift_61 : decode cX1_sift 61 = .ok (.iload 4, 2) := by decide +kernel
theorem dX1_sift_63 : decode cX1_sift 63 = .ok (.invokestatic 69, 3) := by decide +kernel
theorem dX1_sift_66 : decode cX1_sift 66 = .ok (.istore 9, 2) := by decide +kernel
theorem dX1_sift_68 : decode cX1_sift 68 = .ok (.iconst 2, 1) := by decide +kernel
theorem dX1_sift_69 : decode cX1_sift 69 = .ok (.iload 9, 2) := by decide +kernel
theorem dX1_sift_71 : decode cX1_sift 71 = .ok (.imul, 1) := by decide +kernel
theorem dX1_sift_72 : decode cX1_sift 72 = .ok (.aload_n 0, 1) := by decide +kernel
theorem dX1_sift_73 : decode cX1_sift 73 = .ok (.getfield 9, 3) := by decide +kernel
theorem dX1_sift_76 : decode cX1_sift 76 = .ok (.iload 7, 2) := by decide +kernel
theorem dX1_sift_78 : decode cX1_sift 78 = .ok (.iaload, 1) := by decide +kernel
theorem dX1_sift_79 : decode cX1_sift 79 = .ok (.iconst 5, 1) := by decide +kernel
theorem dX1_sift_80 : decode cX1_sift 80 = .ok (.if_icmp .ne 7, 3) := by decide +kernel
theorem dX1_sift_83 : decode cX1_sift 83 = .ok (.iconst 0, 1) := by decide +kernel
theorem dX1_sift_84 : decode cX1_sift 84 = .ok (.goto 4, 3) := by decide +kernel
theorem dX1_sift_87 : decode cX1_sift 87 = .ok (.iconst 1, 1) := by decide +kernel
theorem dX1_sift_88 : decode cX1_sift 88 = .ok (.iadd, 1) := by decide +kernel
theorem dX1_sift_89 : decode cX1_sift 89 = .ok (.istore 10, 2) := by decide +kernel
theorem dX1_sift_91 : decode cX1_sift 91 = .ok (.iload 6, 2) := by decide +kernel
theorem dX1_sift_93 : decode cX1_sift 93 = .ok (.istore 11, 2) := by decide +kernel
theorem dX1_sift_95 : decode cX1_sift 95 = .ok (.iload 11, 2) := by decide +kernel
theorem dX1_sift_97 : decode cX1_sift 97 = .ok (.ifCond .le 49, 3) := by decide +kernel
theorem dX1_sift_100 : decode cX1_sift 100 = .ok (.aload_n 0, 1) := by decide +kernel
theorem dX1_sift_101 : decode cX1_sift 101 = .ok (.getfield 27, 3) := by decide +kernel
theorem dX1_sift_104 : decode cX1_sift 104 = .ok (.iload 11, 2) := by decide +kernel
theorem dX1_sift_106 : decode cX1_sift 106 = .ok (.iconst 1, 1) := by decide +kernel
theorem dX1_sift_107 : decode cX1_sift 107 = .ok (.isub, 1) := by decide +kernel
theorem dX1_sift_108 : decode cX1_sift 108 = .ok (.iaload, 1) := by decide +kernel
theorem dX1_sift_109 : decode cX1_sift 109 = .ok (.iload 10, 2) := by decide +kernel
theorem dX1_sift_111 : decode cX1_sift 111 = .ok (.if_icmp .le 35, 3) := by decide +kernel
theorem dX1_sift_114 : decode cX1_sift 114 = .ok (.aload_n 0, 1) := by decide +kernel
theorem dX1_sift_115 : decode cX1_sift 115 = .ok (.getfield 27, 3) := by decide +kernel
theorem dX1_sift_118 : decode cX1_sift 118 = .ok (.iload 11, 2) := by decide +kernel
theorem dX1_sift_120 : decode cX1_sift 120 = .ok (.aload_n 0, 1) := by decide +kernel
theorem dX1_sift_121 : decode cX1_sift 121 = .ok (.getfield 27, 3) := by decide +kernel
theorem dX1_sift_124 : decode cX1_sift 124 = .ok (.iload 11, 2) := by decide +kernel
theorem dX1_sift_126 : decode cX1_sift 126 = .ok (.iconst 1, 1) := by decide +kernel
theorem dX1_sift_127 : decode cX1_sift 127 = .ok (.isub, 1) := by decide +kernel
theorem dX1_sift_128 : decode cX1_sift 128 = .ok (.iaload, 1) := by decide +kernel
theorem dX1_sift_129 : decode cX1_sift 129 = .ok (.iastore, 1) := by decide +kernel
theorem dX1_sift_130 : decode cX1_sift 130 = .ok (.aload_n 2, 1) := by decide +kernel
theorem dX1_sift_131 : decode cX1_sift 131 = .ok (.iload 11, 2) := by decide +kernel
theorem dX1_sift_133 : decode cX1_sift 133 = .ok (.aload_n 2, 1) := by decide +kernel
theorem dX1_sift_134 : decode cX1_sift 134 = .ok (.iload 11, 2) := by decide +kernel
theorem dX1_sift_136 : decode cX1_sift 136 = .ok (.iconst 1, 1) := by decide +kernel
theorem dX1_sift_137 : decode cX1_sift 137 = .ok (.isub, 1) := by decide +kernel
theorem dX1_sift_138 : decode cX1_sift 138 = .ok (.iaload, 1) := by decide +kernel
theorem dX1_sift_139 : decode cX1_sift 139 = .ok (.iastore, 1) := by decide +kernel
theorem dX1_sift_140 : decode cX1_sift 140 = .ok (.iinc 11 (-1), 3) := by decide +kernel
theorem dX1_sift_143 : decode cX1_sift 143 = .ok (.goto (-48), 3) := by decide +kernel
theorem dX1_sift_146 : decode cX1_sift 146 = .ok (.aload_n 0, 1) := by decide +kernel
theorem dX1_sift_147 : decode cX1_sift 147 = .ok (.getfield 27, 3) := by decide +kernel
theorem dX1_sift_150 : decode cX1_sift 150 = .ok (.iload 11, 2) := by decide +kernel
theorem dX1_sift_152 : decode cX1_sift 152 = .ok (.iload 10, 2) := by decide +kernel
theorem dX1_sift_154 : decode cX1_sift 154 = .ok (.iastore, 1) := by decide +kernel
theorem dX1_sift_155 : decode cX1_sift 155 = .ok (.aload_n 2, 1) := by decide +kernel
theorem dX1_sift_156 : decode cX1_sift 156 = .ok (.iload 11, 2) := by decide +kernel
theorem dX1_sift_158 : decode cX1_sift 158 = .ok (.iload 7, 2) := by decide +kernel
theorem dX1_sift_160 : decode cX1_sift 160 = .ok (.iastore, 1) := by decide +kernel
theorem dX1_sift_161 : decode cX1_sift 161 = .ok (.iinc 6 1, 3) := by decide +kernel
theorem dX1_sift_164 : decode cX1_sift 164 = .ok (.goto (-161), 3) := by decide +kernel
theorem dX1_sift_167 : decode cX1_sift 167 = .ok (.return_, 1) := by decide +kernel
theorem dX1_readsBehind_0 : decode cX1_readsBehind 0 = .ok (.aload_n 0, 1) := by decide +kernel
theorem dX1_readsBehind_1 : decode cX1_readsBehind 1 = .ok (.getfield 9, 3) := by decide +kernel
theorem dX1_readsBehind_4 : decode cX1_readsBehind 4 = .ok (.iload_n 1, 1) := by decide +kernel
theorem dX1_readsBehind_5 : decode cX1_readsBehind 5 = .ok (.iaload, 1) := by decide +kernel
theorem dX1_readsBehind_6 : decode cX1_readsBehind 6 = .ok (.aload_n 0, 1) := by decide +kernel
theorem dX1_readsBehind_7 : decode cX1_readsBehind 7 = .ok (.getfield 18, 3) := by decide +kernel
theorem dX1_readsBehind_10 : decode cX1_readsBehind 10 = .ok (.iload_n 1, 1) := by decide +kernel
theorem dX1_readsBehind_11 : decode cX1_readsBehind 11 = .ok (.iconst 3, 1) := by decide +kernel
theorem dX1_readsBehind_12 : decode cX1_readsBehind 12 = .ok (.imul, 1) := by decide +kernel
theorem dX1_readsBehind_13 : decode cX1_readsBehind 13 = .ok (.iload_n 2, 1) := by decide +kernel
theorem dX1_readsBehind_14 : decode cX1_readsBehind 14 = .ok (.iload_n 3, 1) := by decide +kernel
theorem dX1_readsBehind_15 : decode cX1_readsBehind 15 = .ok (.invokestatic 69, 3) := by decide +kernel
theorem dX1_readsBehind_18 : decode cX1_readsBehind 18 = .ok (.ireturn, 1) := by decide +kernel
theorem dX1_figureOf_0 : decode cX1_figureOf 0 = .ok (.aload_n 0, 1) := by decide +kernel
theorem dX1_figureOf_1 : decode cX1_figureOf 1 = .ok (.getfield 18, 3) := by decide +kernel
theorem dX1_figureOf_4 : decode cX1_figureOf 4 = .ok (.iload_n 1, 1) := by decide +kernel
theorem dX1_figureOf_5 : decode cX1_figureOf 5 = .ok (.iconst 3, 1) := by decide +kernel
theorem dX1_figureOf_6 : decode cX1_figureOf 6 = .ok (.imul, 1) := by decide +kernel
theorem dX1_figureOf_7 : decode cX1_figureOf 7 = .ok (.iload_n 2, 1) := by decide +kernel
theorem dX1_figureOf_8 : decode cX1_figureOf 8 = .ok (.iadd, 1) := by decide +kernel
theorem dX1_figureOf_9 : decode cX1_figureOf 9 = .ok (.iaload, 1) := by decide +kernel
theorem dX1_figureOf_10 : decode cX1_figureOf 10 = .ok (.ireturn, 1) := by decide +kernel
theorem dX1_placeOf_0 : decode cX1_placeOf 0 = .ok (.aload_n 0, 1) := by decide +kernel
theorem dX1_placeOf_1 : decode cX1_placeOf 1 = .ok (.getfield 21, 3) := by decide +kernel
theorem dX1_placeOf_4 : decode cX1_placeOf 4 = .ok (.iload_n 1, 1) := by decide +kernel
theorem dX1_placeOf_5 : decode cX1_placeOf 5 = .ok (.aload_n 0, 1) := by decide +kernel
theorem dX1_placeOf_6 : decode cX1_placeOf 6 = .ok (.getfield 33, 3) := by decide +kernel
theorem dX1_placeOf_9 : decode cX1_placeOf 9 = .ok (.invokestatic 73, 3) := by decide +kernel
theorem dX1_placeOf_12 : decode cX1_placeOf 12 = .ok (.ireturn, 1) := by decide +kernel
theorem dX1_sumOf_0 : decode cX1_sumOf 0 = .ok (.iconst 0, 1) := by decide +kernel
theorem dX1_sumOf_1 : decode cX1_sumOf 1 = .ok (.istore_n 3, 1) := by decide +kernel
theorem dX1_sumOf_2 : decode cX1_sumOf 2 = .ok (.iconst 0, 1) := by decide +kernel
theorem dX1_sumOf_3 : decode cX1_sumOf 3 = .ok (.istore 4, 2) := by decide +kernel
theorem dX1_sumOf_5 : decode cX1_sumOf 5 = .ok (.iload 4, 2) := by decide +kernel
theorem dX1_sumOf_7 : decode cX1_sumOf 7 = .ok (.aload_n 0, 1) := by decide +kernel
theorem dX1_sumOf_8 : decode cX1_sumOf 8 = .ok (.getfield 33, 3) := by decide +kernel
theorem dX1_sumOf_11 : decode cX1_sumOf 11 = .ok (.if_icmp .ge 28, 3) := by decide +kernel
theorem dX1_sumOf_14 : decode cX1_sumOf 14 = .ok (.iload_n 1, 1) := by decide +kernel
theorem dX1_sumOf_15 : decode cX1_sumOf 15 = .ok (.iload 4, 2) := by decide +kernel
theorem dX1_sumOf_17 : decode cX1_sumOf 17 = .ok (.ishr, 1) := by decide +kernel
theorem dX1_sumOf_18 : decode cX1_sumOf 18 = .ok (.iconst 1, 1) := by decide +kernel
theorem dX1_sumOf_19 : decode cX1_sumOf 19 = .ok (.iand, 1) := by decide +kernel
theorem dX1_sumOf_20 : decode cX1_sumOf 20 = .ok (.ifCond .eq 13, 3) := by decide +kernel
theorem dX1_sumOf_23 : decode cX1_sumOf 23 = .ok (.iload_n 3, 1) := by decide +kernel
theorem dX1_sumOf_24 : decode cX1_sumOf 24 = .ok (.aload_n 0, 1) := by decide +kernel
theorem dX1_sumOf_25 : decode cX1_sumOf 25 = .ok (.iload 4, 2) := by decide +kernel
theorem dX1_sumOf_27 : decode cX1_sumOf 27 = .ok (.iload_n 2, 1) := by decide +kernel
theorem dX1_sumOf_28 : decode cX1_sumOf 28 = .ok (.invokevirtual 77, 3) := by decide +kernel
theorem dX1_sumOf_31 : decode cX1_sumOf 31 = .ok (.iadd, 1) := by decide +kernel
theorem dX1_sumOf_32 : decode cX1_sumOf 32 = .ok (.istore_n 3, 1) := by decide +kernel
theorem dX1_sumOf_33 : decode cX1_sumOf 33 = .ok (.iinc 4 1, 3) := by decide +kernel
theorem dX1_sumOf_36 : decode cX1_sumOf 36 = .ok (.goto (-31), 3) := by decide +kernel
theorem dX1_sumOf_39 : decode cX1_sumOf 39 = .ok (.iload_n 3, 1) := by decide +kernel
theorem dX1_sumOf_40 : decode cX1_sumOf 40 = .ok (.ireturn, 1) := by decide +kernel
theorem dX1_sumOfAll_0 : decode cX1_sumOfAll 0 = .ok (.iconst 0, 1) := by decide +kernel
theorem dX1_sumOfAll_1 : decode cX1_sumOfAll 1 = .ok (.istore_n 1, 1) := by decide +kernel
theorem dX1_sumOfAll_2 : decode cX1_sumOfAll 2 = .ok (.iconst 0, 1) := by decide +kernel
theorem dX1_sumOfAll_3 : decode cX1_sumOfAll 3 = .ok (.istore_n 2, 1) := by decide +kernel
theorem dX1_sumOfAll_4 : decode cX1_sumOfAll 4 = .ok (.iload_n 2, 1) := by decide +kernel
theorem dX1_sumOfAll_5 : decode cX1_sumOfAll 5 = .ok (.iconst 3, 1) := by decide +kernel
theorem dX1_sumOfAll_6 : decode cX1_sumOfAll 6 = .ok (.if_icmp .ge 25, 3) := by decide +kernel
theorem dX1_sumOfAll_9 : decode cX1_sumOfAll 9 = .ok (.iload_n 1, 1) := by decide +kernel
theorem dX1_sumOfAll_10 : decode cX1_sumOfAll 10 = .ok (.aload_n 0, 1) := by decide +kernel
theorem dX1_sumOfAll_11 : decode cX1_sumOfAll 11 = .ok (.iconst 1, 1) := by decide +kernel
theorem dX1_sumOfAll_12 : decode cX1_sumOfAll 12 = .ok (.aload_n 0, 1) := by decide +kernel
theorem dX1_sumOfAll_13 : decode cX1_sumOfAll 13 = .ok (.getfield 33, 3) := by decide +kernel
theorem dX1_sumOfAll_16 : decode cX1_sumOfAll 16 = .ok (.ishl, 1) := by decide +kernel
theorem dX1_sumOfAll_17 : decode cX1_sumOfAll 17 = .ok (.iconst 1, 1) := by decide +kernel
theorem dX1_sumOfAll_18 : decode cX1_sumOfAll 18 = .ok (.isub, 1) := by decide +kernel
theorem dX1_sumOfAll_19 : decode cX1_sumOfAll 19 = .ok (.iload_n 2, 1) := by decide +kernel
theorem dX1_sumOfAll_20 : decode cX1_sumOfAll 20 = .ok (.invokevirtual 81, 3) := by decide +kernel
theorem dX1_sumOfAll_23 : decode cX1_sumOfAll 23 = .ok (.iadd, 1) := by decide +kernel
theorem dX1_sumOfAll_24 : decode cX1_sumOfAll 24 = .ok (.istore_n 1, 1) := by decide +kernel
theorem dX1_sumOfAll_25 : decode cX1_sumOfAll 25 = .ok (.iinc 2 1, 3) := by decide +kernel
theorem dX1_sumOfAll_28 : decode cX1_sumOfAll 28 = .ok (.goto (-24), 3) := by decide +kernel
theorem dX1_sumOfAll_31 : decode cX1_sumOfAll 31 = .ok (.iload_n 1, 1) := by decide +kernel
theorem dX1_sumOfAll_32 : decode cX1_sumOfAll 32 = .ok (.ireturn, 1) := by decide +kernel
theorem dX1_manyOf_0 : decode cX1_manyOf 0 = .ok (.iconst 0, 1) := by decide +kernel
theorem dX1_manyOf_1 : decode cX1_manyOf 1 = .ok (.istore_n 2, 1) := by decide +kernel
theorem dX1_manyOf_2 : decode cX1_manyOf 2 = .ok (.iconst 0, 1) := by decide +kernel
theorem dX1_manyOf_3 : decode cX1_manyOf 3 = .ok (.istore_n 3, 1) := by decide +kernel
theorem dX1_manyOf_4 : decode cX1_manyOf 4 = .ok (.iload_n 3, 1) := by decide +kernel
theorem dX1_manyOf_5 : decode cX1_manyOf 5 = .ok (.aload_n 0, 1) := by decide +kernel
theorem dX1_manyOf_6 : decode cX1_manyOf 6 = .ok (.getfield 33, 3) := by decide +kernel
theorem dX1_manyOf_9 : decode cX1_manyOf 9 = .ok (.if_icmp .ge 25, 3) := by decide +kernel
theorem dX1_manyOf_12 : decode cX1_manyOf 12 = .ok (.aload_n 0, 1) := by decide +kernel
theorem dX1_manyOf_13 : decode cX1_manyOf 13 = .ok (.getfield 9, 3) := by decide +kernel
theorem dX1_manyOf_16 : decode cX1_manyOf 16 = .ok (.iload_n 3, 1) := by decide +kernel
theorem dX1_manyOf_17 : decode cX1_manyOf 17 = .ok (.iaload, 1) := by decide +kernel
theorem dX1_manyOf_18 : decode cX1_manyOf 18 = .ok (.iload_n 1, 1) := by decide +kernel
theorem dX1_manyOf_19 : decode cX1_manyOf 19 = .ok (.invokestatic 84, 3) := by decide +kernel
theorem dX1_manyOf_22 : decode cX1_manyOf 22 = .ok (.ifCond .eq 6, 3) := by decide +kernel
theorem dX1_manyOf_25 : decode cX1_manyOf 25 = .ok (.iinc 2 1, 3) := by decide +kernel
theorem dX1_manyOf_28 : decode cX1_manyOf 28 = .ok (.iinc 3 1, 3) := by decide +kernel
theorem dX1_manyOf_31 : decode cX1_manyOf 31 = .ok (.goto (-27), 3) := by decide +kernel
theorem dX1_manyOf_34 : decode cX1_manyOf 34 = .ok (.iload_n 2, 1) := by decide +kernel
theorem dX1_manyOf_35 : decode cX1_manyOf 35 = .ok (.ireturn, 1) := by decide +kernel
theorem dX2_init_0 : decode cX2_init 0 = .ok (.aload_n 0, 1) := by decide +kernel
theorem dX2_init_1 : decode cX2_init 1 = .ok (.invokespecial 3, 3) := by decide +kernel
theorem dX2_init_4 : decode cX2_init 4 = .ok (.aload_n 0, 1) := by decide +kernel
theorem dX2_init_5 : decode cX2_init 5 = .ok (.bipush 6, 2) := by decide +kernel
theorem dX2_init_7 : decode cX2_init 7 = .ok (.newarray .int, 2) := by decide +kernel
theorem dX2_init_9 : decode cX2_init 9 = .ok (.putfield 9, 3) := by decide +kernel
theorem dX2_init_12 : decode cX2_init 12 = .ok (.aload_n 0, 1) := by decide +kernel
theorem dX2_init_13 : decode cX2_init 13 = .ok (.bipush 18, 2) := by decide +kernel
theorem dX2_init_15 : decode cX2_init 15 = .ok (.newarray .int, 2) := by decide +kernel
theorem dX2_init_17 : decode cX2_init 17 = .ok (.putfield 15, 3) := by decide +kernel
theorem dX2_init_20 : decode cX2_init 20 = .ok (.aload_n 0, 1) := by decide +kernel
theorem dX2_init_21 : decode cX2_init 21 = .ok (.iconst 0, 1) := by decide +kernel
theorem dX2_init_22 : decode cX2_init 22 = .ok (.putfield 18, 3) := by decide +kernel
theorem dX2_init_25 : decode cX2_init 25 = .ok (.return_, 1) := by decide +kernel
theorem dX2_faultOf_0 : decode cX2_faultOf 0 = .ok (.aload_n 1, 1) := by decide +kernel
theorem dX2_faultOf_1 : decode cX2_faultOf 1 = .ok (.iload_n 2, 1) := by decide +kernel
theorem dX2_faultOf_2 : decode cX2_faultOf 2 = .ok (.invokevirtual 22, 3) := by decide +kernel
theorem dX2_faultOf_5 : decode cX2_faultOf 5 = .ok (.istore_n 3, 1) := by decide +kernel
theorem dX2_faultOf_6 : decode cX2_faultOf 6 = .ok (.iconst 3, 1) := by decide +kernel
theorem dX2_faultOf_7 : decode cX2_faultOf 7 = .ok (.istore 4, 2) := by decide +kernel
theorem dX2_faultOf_9 : decode cX2_faultOf 9 = .ok (.aload_n 0, 1) := by decide +kernel
theorem dX2_faultOf_10 : decode cX2_faultOf 10 = .ok (.iconst 0, 1) := by decide +kernel
theorem dX2_faultOf_11 : decode cX2_faultOf 11 = .ok (.putfield 18, 3) := by decide +kernel
theorem dX2_faultOf_14 : decode cX2_faultOf 14 = .ok (.iconst 0, 1) := by decide +kernel
theorem dX2_faultOf_15 : decode cX2_faultOf 15 = .ok (.istore 5, 2) := by decide +kernel
theorem dX2_faultOf_17 : decode cX2_faultOf 17 = .ok (.iload 5, 2) := by decide +kernel
theorem dX2_faultOf_19 : decode cX2_faultOf 19 = .ok (.iload_n 3, 1) := by decide +kernel
theorem dX2_faultOf_20 : decode cX2_faultOf 20 = .ok (.if_icmp .ge 127, 3) := by decide +kernel
theorem dX2_faultOf_23 : decode cX2_faultOf 23 = .ok (.aload_n 1, 1) := by decide +kernel
theorem dX2_faultOf_24 : decode cX2_faultOf 24 = .ok (.iload_n 2, 1) := by decide +kernel
theorem dX2_faultOf_25 : decode cX2_faultOf 25 = .ok (.iload 5, 2) := by decide +kernel
theorem dX2_faultOf_27 : decode cX2_faultOf 27 = .ok (.invokevirtual 28, 3) := by decide +kernel
theorem dX2_faultOf_30 : decode cX2_faultOf 30 = .ok (.istore 6, 2) := by decide +kernel
theorem dX2_faultOf_32 : decode cX2_faultOf 32 = .ok (.iload 4, 2) := by decide +kernel
theorem dX2_faultOf_34 : decode cX2_faultOf 34 = .ok (.iconst 3, 1) := by decide +kernel
theorem dX2_faultOf_35 : decode cX2_faultOf 35 = .ok (.if_icmp .ge 49, 3) := by decide +kernel
theorem dX2_faultOf_38 : decode cX2_faultOf 38 = .ok (.iload 6, 2) := by decide +kernel
theorem dX2_faultOf_40 : decode cX2_faultOf 40 = .ok (.bipush 48, 2) := by decide +kernel
theorem dX2_faultOf_42 : decode cX2_faultOf 42 = .ok (.isub, 1) := by decide +kernel
theorem dX2_faultOf_43 : decode cX2_faultOf 43 = .ok (.istore 7, 2) := by decide +kernel
theorem dX2_faultOf_45 : decode cX2_faultOf 45 = .ok (.iload 7, 2) := by decide +kernel
theorem dX2_faultOf_47 : decode cX2_faultOf 47 = .ok (.ifCond .lt 10, 3) := by decide +kernel
theorem dX2_faultOf_50 : decode cX2_faultOf 50 = .ok (.iload 7, 2) := by decide +kernel
theorem dX2_faultOf_52 : decode cX2_faultOf 52 = .ok (.bipush 10, 2) := by decide +kernel
theorem dX2_faultOf_54 : decode cX2_faultOf 54 = .ok (.if_icmp .lt 6, 3) := by decide +kernel
theorem dX2_faultOf_57 : decode cX2_faultOf 57 = .ok (.iload 5, 2) := by decide +kernel
theorem dX2_faultOf_59 : decode cX2_faultOf 59 = .ok (.ireturn, 1) := by decide +kernel
theorem dX2_faultOf_60 : decode cX2_faultOf 60 = .ok (.aload_n 0, 1) := by decide +kernel
theorem dX2_faultOf_61 : decode cX2_faultOf 61 = .ok (.getfield 15, 3) := by decide +kernel
theorem dX2_faultOf_64 : decode cX2_faultOf 64 = .ok (.aload_n 0, 1) := by decide +kernel
theorem dX2_faultOf_65 : decode cX2_faultOf 65 = .ok (.getfield 18, 3) := by decide +kernel
theorem dX2_faultOf_68 : decode cX2_faultOf 68 = .ok (.iconst 1, 1) := by decide +kernel
theorem dX2_faultOf_69 : decode cX2_faultOf 69 = .ok (.isub, 1) := by decide +kernel
theorem dX2_faultOf_70 : decode cX2_faultOf 70 = .ok (.iconst 3, 1) := by decide +kernel
theorem dX2_faultOf_71 : decode cX2_faultOf 71 = .ok (.imul, 1) := by decide +kernel
theorem dX2_faultOf_72 : decode cX2_faultOf 72 = .ok (.iload 4, 2) := by decide +kernel
theorem dX2_faultOf_74 : decode cX2_faultOf 74 = .ok (.iadd, 1) := by decide +kernel
theorem dX2_faultOf_75 : decode cX2_faultOf 75 = .ok (.iload 7, 2) := by decide +kernel
theorem dX2_faultOf_77 : decode cX2_faultOf 77 = .ok (.iastore, 1) := by decide +kernel
theorem dX2_faultOf_78 : decode cX2_faultOf 78 = .ok (.iinc 4 1, 3) := by decide +kernel
theorem dX2_faultOf_81 : decode cX2_faultOf 81 = .ok (.goto 60, 3) := by decide +kernel
theorem dX2_faultOf_84 : decode cX2_faultOf 84 = .ok (.iload 6, 2) := by decide +kernel
theorem dX2_faultOf_86 : decode cX2_faultOf 86 = .ok (.bipush 32, 2) := by decide +kernel
theorem dX2_faultOf_88 : decode cX2_faultOf 88 = .ok (.if_icmp .eq 53, 3) := by decide +kernel
theorem dX2_faultOf_91 : decode cX2_faultOf 91 = .ok (.iload 6, 2) := by decide +kernel
theorem dX2_faultOf_93 : decode cX2_faultOf 93 = .ok (.invokestatic 32, 3) := by decide +kernel
theorem dX2_faultOf_96 : decode cX2_faultOf 96 = .ok (.istore 7, 2) := by decide +kernel
theorem dX2_faultOf_98 : decode cX2_faultOf 98 = .ok (.iload 7, 2) := by decide +kernel
theorem dX2_faultOf_100 : decode cX2_faultOf 100 = .ok (.bipush (-9), 2) := by decide +kernel
theorem dX2_faultOf_102 : decode cX2_faultOf 102 = .ok (.if_icmp .eq 12, 3) := by decide +kernel
theorem dX2_faultOf_105 : decode cX2_faultOf 105 = .ok (.aload_n 0, 1) := by decide +kernel
theorem dX2_faultOf_106 : decode cX2_faultOf 106 = .ok (.getfield 18, 3) := by decide +kernel
theorem dX2_faultOf_109 : decode cX2_faultOf 109 = .ok (.bipush 6, 2) := by decide +kernel
theorem dX2_faultOf_111 : decode cX2_faultOf 111 = .ok (.if_icmp .lt 6, 3) := by decide +kernel
theorem dX2_faultOf_114 : decode cX2_faultOf 114 = .ok (.iload 5, 2) := by decide +kernel
theorem dX2_faultOf_116 : decode cX2_faultOf 116 = .ok (.ireturn, 1) := by decide +kernel
theorem dX2_faultOf_117 : decode cX2_faultOf 117 = .ok (.aload_n 0, 1) := by decide +kernel
theorem dX2_faultOf_118 : decode cX2_faultOf 118 = .ok (.getfield 9, 3) := by decide +kernel
theorem dX2_faultOf_121 : decode cX2_faultOf 121 = .ok (.aload_n 0, 1) := by decide +kernel
theorem dX2_faultOf_122 : decode cX2_faultOf 122 = .ok (.getfield 18, 3) := by decide +kernel
theorem dX2_faultOf_125 : decode cX2_faultOf 125 = .ok (.iload 7, 2) := by decide +kernel
theorem dX2_faultOf_127 : decode cX2_faultOf 127 = .ok (.iastore, 1) := by decide +kernel
theorem dX2_faultOf_128 : decode cX2_faultOf 128 = .ok (.aload_n 0, 1) := by decide +kernel
theorem dX2_faultOf_129 : decode cX2_faultOf 129 = .ok (.dup, 1) := by decide +kernel
theorem dX2_faultOf_130 : decode cX2_faultOf 130 = .ok (.getfield 18, 3) := by decide +kernel
theorem dX2_faultOf_133 : decode cX2_faultOf 133 = .ok (.iconst 1, 1) := by decide +kernel
theorem dX2_faultOf_134 : decode cX2_faultOf 134 = .ok (.iadd, 1) := by decide +kernel
theorem dX2_faultOf_135 : decode cX2_faultOf 135 = .ok (.putfield 18, 3) := by decide +kernel
theorem dX2_faultOf_138 : decode cX2_faultOf 138 = .ok (.iconst 0, 1) := by decide +kernel
theorem dX2_faultOf_139 : decode cX2_faultOf 139 = .ok (.istore 4, 2) := by decide +kernel
theorem dX2_faultOf_141 : decode cX2_faultOf 141 = .ok (.iinc 5 1, 3) := by decide +kernel
theorem dX2_faultOf_144 : decode cX2_faultOf 144 = .ok (.goto (-127), 3) := by decide +kernel
theorem dX2_faultOf_147 : decode cX2_faultOf 147 = .ok (.iload 4, 2) := by decide +kernel
theorem dX2_faultOf_149 : decode cX2_faultOf 149 = .ok (.iconst 3, 1) := by decide +kernel
theorem dX2_faultOf_150 : decode cX2_faultOf 150 = .ok (.if_icmp .lt 11, 3) := by decide +kernel
theorem dX2_faultOf_153 : decode cX2_faultOf 153 = .ok (.aload_n 0, 1) := by decide +kernel
theorem dX2_faultOf_154 : decode cX2_faultOf 154 = .ok (.getfield 18, 3) := by decide +kernel
theorem dX2_faultOf_157 : decode cX2_faultOf 157 = .ok (.iconst 2, 1) := by decide +kernel
theorem dX2_faultOf_158 : decode cX2_faultOf 158 = .ok (.if_icmp .ge 7, 3) := by decide +kernel
theorem dX2_faultOf_161 : decode cX2_faultOf 161 = .ok (.iload_n 3, 1) := by decide +kernel
theorem dX2_faultOf_162 : decode cX2_faultOf 162 = .ok (.goto 5, 3) := by decide +kernel
theorem dX2_faultOf_165 : decode cX2_faultOf 165 = .ok (.bipush (-9), 2) := by decide +kernel
theorem dX2_faultOf_167 : decode cX2_faultOf 167 = .ok (.ireturn, 1) := by decide +kernel
theorem dX2_kindBy_0 : decode cX2_kindBy 0 = .ok (.iconst 0, 1) := by decide +kernel
theorem dX2_kindBy_1 : decode cX2_kindBy 1 = .ok (.istore_n 1, 1) := by decide +kernel
theorem dX2_kindBy_2 : decode cX2_kindBy 2 = .ok (.iload_n 1, 1) := by decide +kernel
theorem dX2_kindBy_3 : decode cX2_kindBy 3 = .ok (.bipush 6, 2) := by decide +kernel
theorem dX2_kindBy_5 : decode cX2_kindBy 5 = .ok (.if_icmp .ge 20, 3) := by decide +kernel
theorem dX2_kindBy_8 : decode cX2_kindBy 8 = .ok (.getstatic 35, 3) := by decide +kernel
theorem dX2_kindBy_11 : decode cX2_kindBy 11 = .ok (.iload_n 1, 1) := by decide +kernel
theorem dX2_kindBy_12 : decode cX2_kindBy 12 = .ok (.iaload, 1) := by decide +kernel
theorem dX2_kindBy_13 : decode cX2_kindBy 13 = .ok (.iload_n 0, 1) := by decide +kernel
theorem dX2_kindBy_14 : decode cX2_kindBy 14 = .ok (.if_icmp .ne 5, 3) := by decide +kernel
theorem dX2_kindBy_17 : decode cX2_kindBy 17 = .ok (.iload_n 1, 1) := by decide +kernel
theorem dX2_kindBy_18 : decode cX2_kindBy 18 = .ok (.ireturn, 1) := by decide +kernel
theorem dX2_kindBy_19 : decode cX2_kindBy 19 = .ok (.iinc 1 1, 3) := by decide +kernel
theorem dX2_kindBy_22 : decode cX2_kindBy 22 = .ok (.goto (-20), 3) := by decide +kernel
theorem dX2_kindBy_25 : decode cX2_kindBy 25 = .ok (.bipush (-9), 2) := by decide +kernel
theorem dX2_kindBy_27 : decode cX2_kindBy 27 = .ok (.ireturn, 1) := by decide +kernel
theorem dX3_init_0 : decode cX3_init 0 = .ok (.aload_n 0, 1) := by decide +kernel
theorem dX3_init_1 : decode cX3_init 1 = .ok (.invokespecial 1, 3) := by decide +kernel
theorem dX3_init_4 : decode cX3_init 4 = .ok (.aload_n 0, 1) := by decide +kernel
theorem dX3_init_5 : decode cX3_init 5 = .ok (.iload_n 2, 1) := by decide +kernel
theorem dX3_init_6 : decode cX3_init 6 = .ok (.putfield 7, 3) := by decide +kernel
theorem dX3_init_9 : decode cX3_init 9 = .ok (.aload_n 0, 1) := by decide +kernel
theorem dX3_init_10 : decode cX3_init 10 = .ok (.iload_n 1, 1) := by decide +kernel
theorem dX3_init_11 : decode cX3_init 11 = .ok (.iload_n 2, 1) := by decide +kernel
theorem dX3_init_12 : decode cX3_init 12 = .ok (.imul, 1) := by decide +kernel
theorem dX3_init_13 : decode cX3_init 13 = .ok (.newarray .int, 2) := by decide +kernel
theorem dX3_init_15 : decode cX3_init 15 = .ok (.putfield 13, 3) := by decide +kernel
theorem dX3_init_18 : decode cX3_init 18 = .ok (.aload_n 0, 1) := by decide +kernel
theorem dX3_init_19 : decode cX3_init 19 = .ok (.iload_n 1, 1) := by decide +kernel
theorem dX3_init_20 : decode cX3_init 20 = .ok (.newarray .int, 2) := by decide +kernel
theorem dX3_init_22 : decode cX3_init 22 = .ok (.putfield 17, 3) := by decide +kernel
theorem dX3_init_25 : decode cX3_init 25 = .ok (.iconst 0, 1) := by decide +kernel
theorem dX3_init_26 : decode cX3_init 26 = .ok (.istore_n 3, 1) := by decide +kernel
theorem dX3_init_27 : decode cX3_init 27 = .ok (.iload_n 3, 1) := by decide +kernel
theorem dX3_init_28 : decode cX3_init 28 = .ok (.iload_n 1, 1) := by decide +kernel
theorem dX3_init_29 : decode cX3_init 29 = .ok (.if_icmp .ge 16, 3) := by decide +kernel
theorem dX3_init_32 : decode cX3_init 32 = .ok (.aload_n 0, 1) := by decide +kernel
theorem dX3_init_33 : decode cX3_init 33 = .ok (.getfield 17, 3) := by decide +kernel
theorem dX3_init_36 : decode cX3_init 36 = .ok (.iload_n 3, 1) := by decide +kernel
theorem dX3_init_37 : decode cX3_init 37 = .ok (.iconst (-1), 1) := by decide +kernel
theorem dX3_init_38 : decode cX3_init 38 = .ok (.iastore, 1) := by decide +kernel
theorem dX3_init_39 : decode cX3_init 39 = .ok (.iinc 3 1, 3) := by decide +kernel
theorem dX3_init_42 : decode cX3_init 42 = .ok (.goto (-15), 3) := by decide +kernel
theorem dX3_init_45 : decode cX3_init 45 = .ok (.return_, 1) := by decide +kernel
theorem dX3_make_0 : decode cX3_make 0 = .ok (.iload_n 1, 1) := by decide +kernel
theorem dX3_make_1 : decode cX3_make 1 = .ok (.ifCond .lt 24, 3) := by decide +kernel
theorem dX3_make_4 : decode cX3_make 4 = .ok (.iload_n 1, 1) := by decide +kernel
theorem dX3_make_5 : decode cX3_make 5 = .ok (.aload_n 0, 1) := by decide +kernel
theorem dX3_make_6 : decode cX3_make 6 = .ok (.getfield 17, 3) := by decide +kernel
theorem dX3_make_9 : decode cX3_make 9 = .ok (.arraylength, 1) := by decide +kernel
theorem dX3_make_10 : decode cX3_make 10 = .ok (.if_icmp .ge 15, 3) := by decide +kernel
theorem dX3_make_13 : decode cX3_make 13 = .ok (.iload_n 2, 1) := by decide +kernel
theorem dX3_make_14 : decode cX3_make 14 = .ok (.ifCond .lt 11, 3) := by decide +kernel
theorem dX3_make_17 : decode cX3_make 17 = .ok (.iload_n 2, 1) := by decide +kernel
theorem dX3_make_18 : decode cX3_make 18 = .ok (.aload_n 0, 1) := by decide +kernel
theorem dX3_make_19 : decode cX3_make 19 = .ok (.getfield 7, 3) := by decide +kernel
theorem dX3_make_22 : decode cX3_make 22 = .ok (.if_icmp .le 4, 3) := by decide +kernel
theorem dX3_make_25 : decode cX3_make 25 = .ok (.return_, 1) := by decide +kernel
theorem dX3_make_26 : decode cX3_make 26 = .ok (.aload_n 0, 1) := by decide +kernel
theorem dX3_make_27 : decode cX3_make 27 = .ok (.getfield 17, 3) := by decide +kernel
theorem dX3_make_30 : decode cX3_make 30 = .ok (.iload_n 1, 1) := by decide +kernel
theorem dX3_make_31 : decode cX3_make 31 = .ok (.iload_n 2, 1) := by decide +kernel
theorem dX3_make_32 : decode cX3_make 32 = .ok (.iastore, 1) := by decide +kernel
theorem dX3_make_33 : decode cX3_make 33 = .ok (.iconst 0, 1) := by decide +kernel
theorem dX3_make_34 : decode cX3_make 34 = .ok (.istore 4, 2) := by decide +kernel
theorem dX3_make_36 : decode cX3_make 36 = .ok (.iload 4, 2) := by decide +kernel
theorem dX3_make_38 : decode cX3_make 38 = .ok (.iload_n 2, 1) := by decide +kernel
theorem dX3_make_39 : decode cX3_make 39 = .ok (.if_icmp .ge 24, 3) := by decide +kernel
theorem dX3_make_42 : decode cX3_make 42 = .ok (.aload_n 0, 1) := by decide +kernel
theorem dX3_make_43 : decode cX3_make 43 = .ok (.getfield 13, 3) := by decide +kernel
theorem dX3_make_46 : decode cX3_make 46 = .ok (.iload_n 1, 1) := by decide +kernel
theorem dX3_make_47 : decode cX3_make 47 = .ok (.aload_n 0, 1) := by decide +kernel
theorem dX3_make_48 : decode cX3_make 48 = .ok (.getfield 7, 3) := by decide +kernel
theorem dX3_make_51 : decode cX3_make 51 = .ok (.imul, 1) := by decide +kernel
theorem dX3_make_52 : decode cX3_make 52 = .ok (.iload 4, 2) := by decide +kernel
theorem dX3_make_54 : decode cX3_make 54 = .ok (.iadd, 1) := by decide +kernel
theorem dX3_make_55 : decode cX3_make 55 = .ok (.iload_n 3, 1) := by decide +kernel
theorem dX3_make_56 : decode cX3_make 56 = .ok (.iastore, 1) := by decide +kernel
theorem dX3_make_57 : decode cX3_make 57 = .ok (.iinc 4 1, 3) := by decide +kernel
theorem dX3_make_60 : decode cX3_make 60 = .ok (.goto (-24), 3) := by decide +kernel
theorem dX3_make_63 : decode cX3_make 63 = .ok (.return_, 1) := by decide +kernel
theorem dX3_fill_0 : decode cX3_fill 0 = .ok (.aload_n 0, 1) := by decide +kernel
theorem dX3_fill_1 : decode cX3_fill 1 = .ok (.iload_n 1, 1) := by decide +kernel
theorem dX3_fill_2 : decode cX3_fill 2 = .ok (.iload_n 3, 1) := by decide +kernel
theorem dX3_fill_3 : decode cX3_fill 3 = .ok (.iconst 0, 1) := by decide +kernel
theorem dX3_fill_4 : decode cX3_fill 4 = .ok (.invokevirtual 20, 3) := by decide +kernel
theorem dX3_fill_7 : decode cX3_fill 7 = .ok (.iconst 0, 1) := by decide +kernel
theorem dX3_fill_8 : decode cX3_fill 8 = .ok (.istore 4, 2) := by decide +kernel
theorem dX3_fill_10 : decode cX3_fill 10 = .ok (.iload 4, 2) := by decide +kernel
theorem dX3_fill_12 : decode cX3_fill 12 = .ok (.iload_n 3, 1) := by decide +kernel
theorem dX3_fill_13 : decode cX3_fill 13 = .ok (.if_icmp .ge 27, 3) := by decide +kernel
theorem dX3_fill_16 : decode cX3_fill 16 = .ok (.iload 4, 2) := by decide +kernel
theorem dX3_fill_18 : decode cX3_fill 18 = .ok (.aload_n 2, 1) := by decide +kernel
theorem dX3_fill_19 : decode cX3_fill 19 = .ok (.arraylength, 1) := by decide +kernel
theorem dX3_fill_20 : decode cX3_fill 20 = .ok (.if_icmp .ge 20, 3) := by decide +kernel
theorem dX3_fill_23 : decode cX3_fill 23 = .ok (.aload_n 0, 1) := by decide +kernel
theorem dX3_fill_24 : decode cX3_fill 24 = .ok (.iload_n 1, 1) := by decide +kernel
theorem dX3_fill_25 : decode cX3_fill 25 = .ok (.iload 4, 2) := by decide +kernel
theorem dX3_fill_27 : decode cX3_fill 27 = .ok (.aload_n 2, 1) := by decide +kernel
theorem dX3_fill_28 : decode cX3_fill 28 = .ok (.iload 4, 2) := by decide +kernel
theorem dX3_fill_30 : decode cX3_fill 30 = .ok (.iaload, 1) := by decide +kernel
theorem dX3_fill_31 : decode cX3_fill 31 = .ok (.invokevirtual 24, 3) := by decide +kernel
theorem dX3_fill_34 : decode cX3_fill 34 = .ok (.iinc 4 1, 3) := by decide +kernel
theorem dX3_fill_37 : decode cX3_fill 37 = .ok (.goto (-27), 3) := by decide +kernel
theorem dX3_fill_40 : decode cX3_fill 40 = .ok (.return_, 1) := by decide +kernel
theorem dX3_remove_0 : decode cX3_remove 0 = .ok (.iload_n 1, 1) := by decide +kernel
theorem dX3_remove_1 : decode cX3_remove 1 = .ok (.ifCond .lt 19, 3) := by decide +kernel
theorem dX3_remove_4 : decode cX3_remove 4 = .ok (.iload_n 1, 1) := by decide +kernel
theorem dX3_remove_5 : decode cX3_remove 5 = .ok (.aload_n 0, 1) := by decide +kernel
theorem dX3_remove_6 : decode cX3_remove 6 = .ok (.getfield 17, 3) := by decide +kernel
theorem dX3_remove_9 : decode cX3_remove 9 = .ok (.arraylength, 1) := by decide +kernel
theorem dX3_remove_10 : decode cX3_remove 10 = .ok (.if_icmp .ge 10, 3) := by decide +kernel
theorem dX3_remove_13 : decode cX3_remove 13 = .ok (.aload_n 0, 1) := by decide +kernel
theorem dX3_remove_14 : decode cX3_remove 14 = .ok (.getfield 17, 3) := by decide +kernel
theorem dX3_remove_17 : decode cX3_remove 17 = .ok (.iload_n 1, 1) := by decide +kernel
theorem dX3_remove_18 : decode cX3_remove 18 = .ok (.iconst (-1), 1) := by decide +kernel
theorem dX3_remove_19 : decode cX3_remove 19 = .ok (.iastore, 1) := by decide +kernel
theorem dX3_remove_20 : decode cX3_remove 20 = .ok (.return_, 1) := by decide +kernel
theorem dX3_sizeOf_0 : decode cX3_sizeOf 0 = .ok (.iload_n 1, 1) := by decide +kernel
theorem dX3_sizeOf_1 : decode cX3_sizeOf 1 = .ok (.ifCond .lt 21, 3) := by decide +kernel
theorem dX3_sizeOf_4 : decode cX3_sizeOf 4 = .ok (.iload_n 1, 1) := by decide +kernel
theorem dX3_sizeOf_5 : decode cX3_sizeOf 5 = .ok (.aload_n 0, 1) := by decide +kernel
theorem dX3_sizeOf_6 : decode cX3_sizeOf 6 = .ok (.getfield 17, 3) := by decide +kernel
theorem dX3_sizeOf_9 : decode cX3_sizeOf 9 = .ok (.arraylength, 1) := by decide +kernel
theorem dX3_sizeOf_10 : decode cX3_sizeOf 10 = .ok (.if_icmp .ge 12, 3) := by decide +kernel
theorem dX3_sizeOf_13 : decode cX3_sizeOf 13 = .ok (.aload_n 0, 1) := by decide +kernel
theorem dX3_sizeOf_14 : decode cX3_sizeOf 14 = .ok (.getfield 17, 3) := by decide +kernel
theorem dX3_sizeOf_17 : decode cX3_sizeOf 17 = .ok (.iload_n 1, 1) := by decide +kernel
theorem dX3_sizeOf_18 : decode cX3_sizeOf 18 = .ok (.iaload, 1) := by decide +kernel
theorem dX3_sizeOf_19 : decode cX3_sizeOf 19 = .ok (.goto 4, 3) := by decide +kernel
theorem dX3_sizeOf_22 : decode cX3_sizeOf 22 = .ok (.iconst (-1), 1) := by decide +kernel
theorem dX3_sizeOf_23 : decode cX3_sizeOf 23 = .ok (.ireturn, 1) := by decide +kernel
theorem dX3_holds_0 : decode cX3_holds 0 = .ok (.aload_n 0, 1) := by decide +kernel
theorem dX3_holds_1 : decode cX3_holds 1 = .ok (.iload_n 1, 1) := by decide +kernel
theorem dX3_holds_2 : decode cX3_holds 2 = .ok (.invokevirtual 27, 3) := by decide +kernel
theorem dX3_holds_5 : decode cX3_holds 5 = .ok (.ifCond .lt 7, 3) := by decide +kernel
theorem dX3_holds_8 : decode cX3_holds 8 = .ok (.iconst 1, 1) := by decide +kernel
theorem dX3_holds_9 : decode cX3_holds 9 = .ok (.goto 4, 3) := by decide +kernel
theorem dX3_holds_12 : decode cX3_holds 12 = .ok (.iconst 0, 1) := by decide +kernel
theorem dX3_holds_13 : decode cX3_holds 13 = .ok (.ireturn, 1) := by decide +kernel
theorem dX3_spans_0 : decode cX3_spans 0 = .ok (.iload_n 2, 1) := by decide +kernel
theorem dX3_spans_1 : decode cX3_spans 1 = .ok (.ifCond .lt 31, 3) := by decide +kernel
theorem dX3_spans_4 : decode cX3_spans 4 = .ok (.iload_n 3, 1) := by decide +kernel
theorem dX3_spans_5 : decode cX3_spans 5 = .ok (.ifCond .lt 27, 3) := by decide +kernel
theorem dX3_spans_8 : decode cX3_spans 8 = .ok (.iload_n 2, 1) := by decide +kernel
theorem dX3_spans_9 : decode cX3_spans 9 = .ok (.aload_n 0, 1) := by decide +kernel
theorem dX3_spans_10 : decode cX3_spans 10 = .ok (.iload_n 1, 1) := by decide +kernel
theorem dX3_spans_11 : decode cX3_spans 11 = .ok (.invokevirtual 27, 3) := by decide +kernel
theorem dX3_spans_14 : decode cX3_spans 14 = .ok (.if_icmp .gt 18, 3) := by decide +kernel
theorem dX3_spans_17 : decode cX3_spans 17 = .ok (.iload_n 3, 1) := by decide +kernel
theorem dX3_spans_18 : decode cX3_spans 18 = .ok (.aload_n 0, 1) := by decide +kernel
theorem dX3_spans_19 : decode cX3_spans 19 = .ok (.iload_n 1, 1) := by decide +kernel
theorem dX3_spans_20 : decode cX3_spans 20 = .ok (.invokevirtual 27, 3) := by decide +kernel
theorem dX3_spans_23 : decode cX3_spans 23 = .ok (.iload_n 2, 1) := by decide +kernel
theorem dX3_spans_24 : decode cX3_spans 24 = .ok (.isub, 1) := by decide +kernel
theorem dX3_spans_25 : decode cX3_spans 25 = .ok (.if_icmp .gt 7, 3) := by decide +kernel
theorem dX3_spans_28 : decode cX3_spans 28 = .ok (.iconst 1, 1) := by decide +kernel
theorem dX3_spans_29 : decode cX3_spans 29 = .ok (.goto 4, 3) := by decide +kernel
theorem dX3_spans_32 : decode cX3_spans 32 = .ok (.iconst 0, 1) := by decide +kernel
theorem dX3_spans_33 : decode cX3_spans 33 = .ok (.ireturn, 1) := by decide +kernel
theorem dX3_get_0 : decode cX3_get 0 = .ok (.aload_n 0, 1) := by decide +kernel
theorem dX3_get_1 : decode cX3_get 1 = .ok (.iload_n 1, 1) := by decide +kernel
theorem dX3_get_2 : decode cX3_get 2 = .ok (.iload_n 2, 1) := by decide +kernel
theorem dX3_get_3 : decode cX3_get 3 = .ok (.iconst 1, 1) := by decide +kernel
theorem dX3_get_4 : decode cX3_get 4 = .ok (.invokevirtual 31, 3) := by decide +kernel
theorem dX3_get_7 : decode cX3_get 7 = .ok (.ifCond .eq 19, 3) := by decide +kernel
theorem dX3_get_10 : decode cX3_get 10 = .ok (.aload_n 0, 1) := by decide +kernel
theorem dX3_get_11 : decode cX3_get 11 = .ok (.getfield 13, 3) := by decide +kernel
theorem dX3_get_14 : decode cX3_get 14 = .ok (.iload_n 1, 1) := by decide +kernel
theorem dX3_get_15 : decode cX3_get 15 = .ok (.aload_n 0, 1) := by decide +kernel
theorem dX3_get_16 : decode cX3_get 16 = .ok (.getfield 7, 3) := by decide +kernel
theorem dX3_get_19 : decode cX3_get 19 = .ok (.imul, 1) := by decide +kernel
theorem dX3_get_20 : decode cX3_get 20 = .ok (.iload_n 2, 1) := by decide +kernel
theorem dX3_get_21 : decode cX3_get 21 = .ok (.iadd, 1) := by decide +kernel
theorem dX3_get_22 : decode cX3_get 22 = .ok (.iaload, 1) := by decide +kernel
theorem dX3_get_23 : decode cX3_get 23 = .ok (.goto 4, 3) := by decide +kernel
theorem dX3_get_26 : decode cX3_get 26 = .ok (.iconst 0, 1) := by decide +kernel
theorem dX3_get_27 : decode cX3_get 27 = .ok (.ireturn, 1) := by decide +kernel
theorem dX3_set_0 : decode cX3_set 0 = .ok (.aload_n 0, 1) := by decide +kernel
theorem dX3_set_1 : decode cX3_set 1 = .ok (.iload_n 1, 1) := by decide +kernel
theorem dX3_set_2 : decode cX3_set 2 = .ok (.iload_n 2, 1) := by decide +kernel
theorem dX3_set_3 : decode cX3_set 3 = .ok (.iconst 1, 1) := by decide +kernel
theorem dX3_set_4 : decode cX3_set 4 = .ok (.invokevirtual 31, 3) := by decide +kernel
theorem dX3_set_7 : decode cX3_set 7 = .ok (.ifCond .eq 17, 3) := by decide +kernel
theorem dX3_set_10 : decode cX3_set 10 = .ok (.aload_n 0, 1) := by decide +kernel
theorem dX3_set_11 : decode cX3_set 11 = .ok (.getfield 13, 3) := by decide +kernel
theorem dX3_set_14 : decode cX3_set 14 = .ok (.iload_n 1, 1) := by decide +kernel
theorem dX3_set_15 : decode cX3_set 15 = .ok (.aload_n 0, 1) := by decide +kernel
theorem dX3_set_16 : decode cX3_set 16 = .ok (.getfield 7, 3) := by decide +kernel
theorem dX3_set_19 : decode cX3_set 19 = .ok (.imul, 1) := by decide +kernel
theorem dX3_set_20 : decode cX3_set 20 = .ok (.iload_n 2, 1) := by decide +kernel
theorem dX3_set_21 : decode cX3_set 21 = .ok (.iadd, 1) := by decide +kernel
theorem dX3_set_22 : decode cX3_set 22 = .ok (.iload_n 3, 1) := by decide +kernel
theorem dX3_set_23 : decode cX3_set 23 = .ok (.iastore, 1) := by decide +kernel
theorem dX3_set_24 : decode cX3_set 24 = .ok (.return_, 1) := by decide +kernel
theorem dX3_held_0 : decode cX3_held 0 = .ok (.iconst 0, 1) := by decide +kernel
theorem dX3_held_1 : decode cX3_held 1 = .ok (.istore_n 1, 1) := by decide +kernel
theorem dX3_held_2 : decode cX3_held 2 = .ok (.iconst 0, 1) := by decide +kernel
theorem dX3_held_3 : decode cX3_held 3 = .ok (.istore_n 2, 1) := by decide +kernel
theorem dX3_held_4 : decode cX3_held 4 = .ok (.iload_n 2, 1) := by decide +kernel
theorem dX3_held_5 : decode cX3_held 5 = .ok (.aload_n 0, 1) := by decide +kernel
theorem dX3_held_6 : decode cX3_held 6 = .ok (.getfield 17, 3) := by decide +kernel
theorem dX3_held_9 : decode cX3_held 9 = .ok (.arraylength, 1) := by decide +kernel
theorem dX3_held_10 : decode cX3_held 10 = .ok (.if_icmp .ge 21, 3) := by decide +kernel
theorem dX3_held_13 : decode cX3_held 13 = .ok (.aload_n 0, 1) := by decide +kernel
theorem dX3_held_14 : decode cX3_held 14 = .ok (.getfield 17, 3) := by decide +kernel
theorem dX3_held_17 : decode cX3_held 17 = .ok (.iload_n 2, 1) := by decide +kernel
theorem dX3_held_18 : decode cX3_held 18 = .ok (.iaload, 1) := by decide +kernel
theorem dX3_held_19 : decode cX3_held 19 = .ok (.ifCond .lt 6, 3) := by decide +kernel
theorem dX3_held_22 : decode cX3_held 22 = .ok (.iinc 1 1, 3) := by decide +kernel
theorem dX3_held_25 : decode cX3_held 25 = .ok (.iinc 2 1, 3) := by decide +kernel
theorem dX3_held_28 : decode cX3_held 28 = .ok (.goto (-24), 3) := by decide +kernel
theorem dX3_held_31 : decode cX3_held 31 = .ok (.iload_n 1, 1) := by decide +kernel
theorem dX3_held_32 : decode cX3_held 32 = .ok (.ireturn, 1) := by decide +kernel
theorem dX3_digestOn_0 : decode cX3_digestOn 0 = .ok (.iconst 0, 1) := by decide +kernel
theorem dX3_digestOn_1 : decode cX3_digestOn 1 = .ok (.istore_n 3, 1) := by decide +kernel
theorem dX3_digestOn_2 : decode cX3_digestOn 2 = .ok (.iload_n 3, 1) := by decide +kernel
theorem dX3_digestOn_3 : decode cX3_digestOn 3 = .ok (.aload_n 0, 1) := by decide +kernel
theorem dX3_digestOn_4 : decode cX3_digestOn 4 = .ok (.getfield 17, 3) := by decide +kernel
theorem dX3_digestOn_7 : decode cX3_digestOn 7 = .ok (.arraylength, 1) := by decide +kernel
theorem dX3_digestOn_8 : decode cX3_digestOn 8 = .ok (.if_icmp .ge 58, 3) := by decide +kernel
theorem dX3_digestOn_11 : decode cX3_digestOn 11 = .ok (.ldc2_w 35, 3) := by decide +kernel
theorem dX3_digestOn_14 : decode cX3_digestOn 14 = .ok (.lload_n 1, 1) := by decide +kernel
theorem dX3_digestOn_15 : decode cX3_digestOn 15 = .ok (.lmul, 1) := by decide +kernel
theorem dX3_digestOn_16 : decode cX3_digestOn 16 = .ok (.aload_n 0, 1) := by decide +kernel
theorem dX3_digestOn_17 : decode cX3_digestOn 17 = .ok (.getfield 17, 3) := by decide +kernel
theorem dX3_digestOn_20 : decode cX3_digestOn 20 = .ok (.iload_n 3, 1) := by decide +kernel
theorem dX3_digestOn_21 : decode cX3_digestOn 21 = .ok (.iaload, 1) := by decide +kernel
theorem dX3_digestOn_22 : decode cX3_digestOn 22 = .ok (.i2l, 1) := by decide +kernel
theorem dX3_digestOn_23 : decode cX3_digestOn 23 = .ok (.ladd, 1) := by decide +kernel
theorem dX3_digestOn_24 : decode cX3_digestOn 24 = .ok (.lstore_n 1, 1) := by decide +kernel
theorem dX3_digestOn_25 : decode cX3_digestOn 25 = .ok (.iconst 0, 1) := by decide +kernel
theorem dX3_digestOn_26 : decode cX3_digestOn 26 = .ok (.istore 4, 2) := by decide +kernel
theorem dX3_digestOn_28 : decode cX3_digestOn 28 = .ok (.iload 4, 2) := by decide +kernel
theorem dX3_digestOn_30 : decode cX3_digestOn 30 = .ok (.aload_n 0, 1) := by decide +kernel
theorem dX3_digestOn_31 : decode cX3_digestOn 31 = .ok (.getfield 17, 3) := by decide +kernel
theorem dX3_digestOn_34 : decode cX3_digestOn 34 = .ok (.iload_n 3, 1) := by decide +kernel
theorem dX3_digestOn_35 : decode cX3_digestOn 35 = .ok (.iaload, 1) := by decide +kernel
theorem dX3_digestOn_36 : decode cX3_digestOn 36 = .ok (.if_icmp .ge 24, 3) := by decide +kernel
theorem dX3_digestOn_39 : decode cX3_digestOn 39 = .ok (.ldc2_w 35, 3) := by decide +kernel
theorem dX3_digestOn_42 : decode cX3_digestOn 42 = .ok (.lload_n 1, 1) := by decide +kernel
theorem dX3_digestOn_43 : decode cX3_digestOn 43 = .ok (.lmul, 1) := by decide +kernel
theorem dX3_digestOn_44 : decode cX3_digestOn 44 = .ok (.aload_n 0, 1) := by decide +kernel
theorem dX3_digestOn_45 : decode cX3_digestOn 45 = .ok (.iload_n 3, 1) := by decide +kernel
theorem dX3_digestOn_46 : decode cX3_digestOn 46 = .ok (.iload 4, 2) := by decide +kernel
theorem dX3_digestOn_48 : decode cX3_digestOn 48 = .ok (.invokevirtual 37, 3) := by decide +kernel
theorem dX3_digestOn_51 : decode cX3_digestOn 51 = .ok (.i2l, 1) := by decide +kernel
theorem dX3_digestOn_52 : decode cX3_digestOn 52 = .ok (.ladd, 1) := by decide +kernel
theorem dX3_digestOn_53 : decode cX3_digestOn 53 = .ok (.lstore_n 1, 1) := by decide +kernel
theorem dX3_digestOn_54 : decode cX3_digestOn 54 = .ok (.iinc 4 1, 3) := by decide +kernel
theorem dX3_digestOn_57 : decode cX3_digestOn 57 = .ok (.goto (-29), 3) := by decide +kernel
theorem dX3_digestOn_60 : decode cX3_digestOn 60 = .ok (.iinc 3 1, 3) := by decide +kernel
theorem dX3_digestOn_63 : decode cX3_digestOn 63 = .ok (.goto (-61), 3) := by decide +kernel
theorem dX3_digestOn_66 : decode cX3_digestOn 66 = .ok (.lload_n 1, 1) := by decide +kernel
theorem dX3_digestOn_67 : decode cX3_digestOn 67 = .ok (.lreturn, 1) := by decide +kernel
theorem dX4_init_0 : decode cX4_init 0 = .ok (.aload_n 0, 1) := by decide +kernel
theorem dX4_init_1 : decode cX4_init 1 = .ok (.invokespecial 3, 3) := by decide +kernel
theorem dX4_init_4 : decode cX4_init 4 = .ok (.aload_n 0, 1) := by decide +kernel
theorem dX4_init_5 : decode cX4_init 5 = .ok (.bipush 7, 2) := by decide +kernel
theorem dX4_init_7 : decode cX4_init 7 = .ok (.bipush 6, 2) := by decide +kernel
theorem dX4_init_9 : decode cX4_init 9 = .ok (.multianewarray 9 2, 4) := by decide +kernel
theorem dX4_init_13 : decode cX4_init 13 = .ok (.putfield 11, 3) := by decide +kernel
theorem dX4_init_16 : decode cX4_init 16 = .ok (.aload_n 0, 1) := by decide +kernel
theorem dX4_init_17 : decode cX4_init 17 = .ok (.iconst 5, 1) := by decide +kernel
theorem dX4_init_18 : decode cX4_init 18 = .ok (.newarray .int, 2) := by decide +kernel
theorem dX4_init_20 : decode cX4_init 20 = .ok (.putfield 16, 3) := by decide +kernel
theorem dX4_init_23 : decode cX4_init 23 = .ok (.aload_n 0, 1) := by decide +kernel
theorem dX4_init_24 : decode cX4_init 24 = .ok (.iconst 0, 1) := by decide +kernel
theorem dX4_init_25 : decode cX4_init 25 = .ok (.putfield 20, 3) := by decide +kernel
theorem dX4_init_28 : decode cX4_init 28 = .ok (.aload_n 0, 1) := by decide +kernel
theorem dX4_init_29 : decode cX4_init 29 = .ok (.iconst 0, 1) := by decide +kernel
theorem dX4_init_30 : decode cX4_init 30 = .ok (.putfield 24, 3) := by decide +kernel
theorem dX4_init_33 : decode cX4_init 33 = .ok (.aload_n 0, 1) := by decide +kernel
theorem dX4_init_34 : decode cX4_init 34 = .ok (.iconst 0, 1) := by decide +kernel
theorem dX4_init_35 : decode cX4_init 35 = .ok (.putfield 28, 3) := by decide +kernel
theorem dX4_init_38 : decode cX4_init 38 = .ok (.aload_n 0, 1) := by decide +kernel
theorem dX4_init_39 : decode cX4_init 39 = .ok (.iconst 0, 1) := by decide +kernel
theorem dX4_init_40 : decode cX4_init 40 = .ok (.putfield 31, 3) := by decide +kernel
theorem dX4_init_43 : decode cX4_init 43 = .ok (.aload_n 0, 1) := by decide +kernel
theorem dX4_init_44 : decode cX4_init 44 = .ok (.iconst 0, 1) := by decide +kernel
theorem dX4_init_45 : decode cX4_init 45 = .ok (.putfield 34, 3) := by decide +kernel
theorem dX4_init_48 : decode cX4_init 48 = .ok (.aload_n 0, 1) := by decide +kernel
theorem dX4_init_49 : decode cX4_init 49 = .ok (.iconst 0, 1) := by decide +kernel
theorem dX4_init_50 : decode cX4_init 50 = .ok (.putfield 37, 3) := by decide +kernel
theorem dX4_init_53 : decode cX4_init 53 = .ok (.return_, 1) := by decide +kernel
theorem dX4_start_0 : decode cX4_start 0 = .ok (.aload_n 1, 1) := by decide +kernel
theorem dX4_start_1 : decode cX4_start 1 = .ok (.getfield 40, 3) := by decide +kernel
theorem dX4_start_4 : decode cX4_start 4 = .ok (.aload_n 0, 1) := by decide +kernel
theorem dX4_start_5 : decode cX4_start 5 = .ok (.getfield 11, 3) := by decide +kernel
theorem dX4_start_8 : decode cX4_start 8 = .ok (.iconst 0, 1) := by decide +kernel
theorem dX4_start_9 : decode cX4_start 9 = .ok (.aaload, 1) := by decide +kernel
theorem dX4_start_10 : decode cX4_start 10 = .ok (.aload_n 1, 1) := by decide +kernel
theorem dX4_start_11 : decode cX4_start 11 = .ok (.getfield 45, 3) := by decide +kernel
theorem dX4_start_14 : decode cX4_start 14 = .ok (.invokestatic 48, 3) := by decide +kernel
theorem dX4_start_17 : decode cX4_start 17 = .ok (.return_, 1) := by decide +kernel
theorem dX4_layAs_0 : decode cX4_layAs 0 = .ok (.iconst 0, 1) := by decide +kernel
theorem dX4_layAs_1 : decode cX4_layAs 1 = .ok (.istore_n 3, 1) := by decide +kernel
theorem dX4_layAs_2 : decode cX4_layAs 2 = .ok (.iload_n 3, 1) := by decide +kernel
theorem dX4_layAs_3 : decode cX4_layAs 3 = .ok (.iload_n 2, 1) := by decide +kernel
theorem dX4_layAs_4 : decode cX4_layAs 4 = .ok (.if_icmp .ge 15, 3) := by decide +kernel
theorem dX4_layAs_7 : decode cX4_layAs 7 = .ok (.aload_n 1, 1) := by decide +kernel
theorem dX4_layAs_8 : decode cX4_layAs 8 = .ok (.iload_n 3, 1) := by decide +kernel
theorem dX4_layAs_9 : decode cX4_layAs 9 = .ok (.aload_n 0, 1) := by decide +kernel
theorem dX4_layAs_10 : decode cX4_layAs 10 = .ok (.iload_n 3, 1) := by decide +kernel
theorem dX4_layAs_11 : decode cX4_layAs 11 = .ok (.iaload, 1) := by decide +kernel
theorem dX4_layAs_12 : decode cX4_layAs 12 = .ok (.iastore, 1) := by decide +kernel
theorem dX4_layAs_13 : decode cX4_layAs 13 = .ok (.iinc 3 1, 3) := by decide +kernel
theorem dX4_layAs_16 : decode cX4_layAs 16 = .ok (.goto (-14), 3) := by decide +kernel
theorem dX4_layAs_19 : decode cX4_layAs 19 = .ok (.return_, 1) := by decide +kernel
theorem dX4_passOnce_0 : decode cX4_passOnce 0 = .ok (.aload_n 1, 1) := by decide +kernel
theorem dX4_passOnce_1 : decode cX4_passOnce 1 = .ok (.aload_n 1, 1) := by decide +kernel
theorem dX4_passOnce_2 : decode cX4_passOnce 2 = .ok (.getfield 40, 3) := by decide +kernel
theorem dX4_passOnce_5 : decode cX4_passOnce 5 = .ok (.aload_n 0, 1) := by decide +kernel
theorem dX4_passOnce_6 : decode cX4_passOnce 6 = .ok (.getfield 11, 3) := by decide +kernel
theorem dX4_passOnce_9 : decode cX4_passOnce 9 = .ok (.iconst 0, 1) := by decide +kernel
theorem dX4_passOnce_10 : decode cX4_passOnce 10 = .ok (.aaload, 1) := by decide +kernel
theorem dX4_passOnce_11 : decode cX4_passOnce 11 = .ok (.iload_n 2, 1) := by decide +kernel
theorem dX4_passOnce_12 : decode cX4_passOnce 12 = .ok (.aload_n 1, 1) := by decide +kernel
theorem dX4_passOnce_13 : decode cX4_passOnce 13 = .ok (.getfield 52, 3) := by decide +kernel
theorem dX4_passOnce_16 : decode cX4_passOnce 16 = .ok (.iload_n 3, 1) := by decide +kernel
theorem dX4_passOnce_17 : decode cX4_passOnce 17 = .ok (.invokevirtual 55, 3) := by decide +kernel
theorem dX4_passOnce_20 : decode cX4_passOnce 20 = .ok (.aload_n 0, 1) := by decide +kernel
theorem dX4_passOnce_21 : decode cX4_passOnce 21 = .ok (.getfield 11, 3) := by decide +kernel
theorem dX4_passOnce_24 : decode cX4_passOnce 24 = .ok (.iconst 0, 1) := by decide +kernel
theorem dX4_passOnce_25 : decode cX4_passOnce 25 = .ok (.aaload, 1) := by decide +kernel
theorem dX4_passOnce_26 : decode cX4_passOnce 26 = .ok (.areturn, 1) := by decide +kernel
theorem dX4_passAll_0 : decode cX4_passAll 0 = .ok (.aload_n 0, 1) := by decide +kernel
theorem dX4_passAll_1 : decode cX4_passAll 1 = .ok (.aload_n 1, 1) := by decide +kernel
theorem dX4_passAll_2 : decode cX4_passAll 2 = .ok (.invokevirtual 59, 3) := by decide +kernel
theorem dX4_passAll_5 : decode cX4_passAll 5 = .ok (.aload_n 1, 1) := by decide +kernel
theorem dX4_passAll_6 : decode cX4_passAll 6 = .ok (.getfield 52, 3) := by decide +kernel
theorem dX4_passAll_9 : decode cX4_passAll 9 = .ok (.istore 4, 2) := by decide +kernel
theorem dX4_passAll_11 : decode cX4_passAll 11 = .ok (.iconst 0, 1) := by decide +kernel
theorem dX4_passAll_12 : decode cX4_passAll 12 = .ok (.istore 5, 2) := by decide +kernel
theorem dX4_passAll_14 : decode cX4_passAll 14 = .ok (.iload 5, 2) := by decide +kernel
theorem dX4_passAll_16 : decode cX4_passAll 16 = .ok (.aload_n 2, 1) := by decide +kernel
theorem dX4_passAll_17 : decode cX4_passAll 17 = .ok (.iload_n 3, 1) := by decide +kernel
theorem dX4_passAll_18 : decode cX4_passAll 18 = .ok (.invokevirtual 63, 3) := by decide +kernel
theorem dX4_passAll_21 : decode cX4_passAll 21 = .ok (.if_icmp .ge 42, 3) := by decide +kernel
theorem dX4_passAll_24 : decode cX4_passAll 24 = .ok (.aload_n 1, 1) := by decide +kernel
theorem dX4_passAll_25 : decode cX4_passAll 25 = .ok (.aload_n 0, 1) := by decide +kernel
theorem dX4_passAll_26 : decode cX4_passAll 26 = .ok (.getfield 11, 3) := by decide +kernel
theorem dX4_passAll_29 : decode cX4_passAll 29 = .ok (.iconst 0, 1) := by decide +kernel
theorem dX4_passAll_30 : decode cX4_passAll 30 = .ok (.aaload, 1) := by decide +kernel
theorem dX4_passAll_31 : decode cX4_passAll 31 = .ok (.aload_n 0, 1) := by decide +kernel
theorem dX4_passAll_32 : decode cX4_passAll 32 = .ok (.getfield 11, 3) := by decide +kernel
theorem dX4_passAll_35 : decode cX4_passAll 35 = .ok (.iconst 0, 1) := by decide +kernel
theorem dX4_passAll_36 : decode cX4_passAll 36 = .ok (.aaload, 1) := by decide +kernel
theorem dX4_passAll_37 : decode cX4_passAll 37 = .ok (.aload_n 2, 1) := by decide +kernel
theorem dX4_passAll_38 : decode cX4_passAll 38 = .ok (.iload_n 3, 1) := by decide +kernel
theorem dX4_passAll_39 : decode cX4_passAll 39 = .ok (.iload 5, 2) := by decide +kernel
theorem dX4_passAll_41 : decode cX4_passAll 41 = .ok (.invokevirtual 69, 3) := by decide +kernel
theorem dX4_passAll_44 : decode cX4_passAll 44 = .ok (.iload 4, 2) := by decide +kernel
theorem dX4_passAll_46 : decode cX4_passAll 46 = .ok (.iconst 0, 1) := by decide +kernel
theorem dX4_passAll_47 : decode cX4_passAll 47 = .ok (.invokevirtual 55, 3) := by decide +kernel
theorem dX4_passAll_50 : decode cX4_passAll 50 = .ok (.iload 4, 2) := by decide +kernel
theorem dX4_passAll_52 : decode cX4_passAll 52 = .ok (.invokestatic 73, 3) := by decide +kernel
theorem dX4_passAll_55 : decode cX4_passAll 55 = .ok (.istore 4, 2) := by decide +kernel
theorem dX4_passAll_57 : decode cX4_passAll 57 = .ok (.iinc 5 1, 3) := by decide +kernel
theorem dX4_passAll_60 : decode cX4_passAll 60 = .ok (.goto (-46), 3) := by decide +kernel
theorem dX4_passAll_63 : decode cX4_passAll 63 = .ok (.aload_n 0, 1) := by decide +kernel
theorem dX4_passAll_64 : decode cX4_passAll 64 = .ok (.getfield 11, 3) := by decide +kernel
theorem dX4_passAll_67 : decode cX4_passAll 67 = .ok (.iconst 0, 1) := by decide +kernel
theorem dX4_passAll_68 : decode cX4_passAll 68 = .ok (.aaload, 1) := by decide +kernel
theorem dX4_passAll_69 : decode cX4_passAll 69 = .ok (.areturn, 1) := by decide +kernel
theorem dX4_wantPlace_0 : decode cX4_wantPlace 0 = .ok (.aload_n 0, 1) := by decide +kernel
theorem dX4_wantPlace_1 : decode cX4_wantPlace 1 = .ok (.iconst 1, 1) := by decide +kernel
theorem dX4_wantPlace_2 : decode cX4_wantPlace 2 = .ok (.putfield 20, 3) := by decide +kernel
theorem dX4_wantPlace_5 : decode cX4_wantPlace 5 = .ok (.aload_n 0, 1) := by decide +kernel
theorem dX4_wantPlace_6 : decode cX4_wantPlace 6 = .ok (.iload_n 1, 1) := by decide +kernel
theorem dX4_wantPlace_7 : decode cX4_wantPlace 7 = .ok (.putfield 24, 3) := by decide +kernel
theorem dX4_wantPlace_10 : decode cX4_wantPlace 10 = .ok (.aload_n 0, 1) := by decide +kernel
theorem dX4_wantPlace_11 : decode cX4_wantPlace 11 = .ok (.iload_n 2, 1) := by decide +kernel
theorem dX4_wantPlace_12 : decode cX4_wantPlace 12 = .ok (.putfield 28, 3) := by decide +kernel
theorem dX4_wantPlace_15 : decode cX4_wantPlace 15 = .ok (.return_, 1) := by decide +kernel
theorem dX4_wantOrder_0 : decode cX4_wantOrder 0 = .ok (.aload_n 0, 1) := by decide +kernel
theorem dX4_wantOrder_1 : decode cX4_wantOrder 1 = .ok (.iconst 0, 1) := by decide +kernel
theorem dX4_wantOrder_2 : decode cX4_wantOrder 2 = .ok (.putfield 20, 3) := by decide +kernel
theorem dX4_wantOrder_5 : decode cX4_wantOrder 5 = .ok (.aload_n 0, 1) := by decide +kernel
theorem dX4_wantOrder_6 : decode cX4_wantOrder 6 = .ok (.iload_n 1, 1) := by decide +kernel
theorem dX4_wantOrder_7 : decode cX4_wantOrder 7 = .ok (.putfield 31, 3) := by decide +kernel
theorem dX4_wantOrder_10 : decode cX4_wantOrder 10 = .ok (.return_, 1) := by decide +kernel
theorem dX4_seek_0 : decode cX4_seek 0 = .ok (.aload_n 0, 1) := by decide +kernel
theorem dX4_seek_1 : decode cX4_seek 1 = .ok (.aload_n 1, 1) := by decide +kernel
theorem dX4_seek_2 : decode cX4_seek 2 = .ok (.invokevirtual 59, 3) := by decide +kernel
theorem dX4_seek_5 : decode cX4_seek 5 = .ok (.iconst 0, 1) := by decide +kernel
theorem dX4_seek_6 : decode cX4_seek 6 = .ok (.istore_n 2, 1) := by decide +kernel
theorem dX4_seek_7 : decode cX4_seek 7 = .ok (.iload_n 2, 1) := by decide +kernel
theorem dX4_seek_8 : decode cX4_seek 8 = .ok (.iconst 5, 1) := by decide +kernel
theorem dX4_seek_9 : decode cX4_seek 9 = .ok (.if_icmp .gt 25, 3) := by decide +kernel
theorem dX4_seek_12 : decode cX4_seek 12 = .ok (.aload_n 0, 1) := by decide +kernel
theorem dX4_seek_13 : decode cX4_seek 13 = .ok (.aload_n 1, 1) := by decide +kernel
theorem dX4_seek_14 : decode cX4_seek 14 = .ok (.iconst 0, 1) := by decide +kernel
theorem dX4_seek_15 : decode cX4_seek 15 = .ok (.iload_n 2, 1) := by decide +kernel
theorem dX4_seek_16 : decode cX4_seek 16 = .ok (.aload_n 1, 1) := by decide +kernel
theorem dX4_seek_17 : decode cX4_seek 17 = .ok (.getfield 52, 3) := by decide +kernel
theorem dX4_seek_20 : decode cX4_seek 20 = .ok (.invokevirtual 76, 3) := by decide +kernel
theorem dX4_seek_23 : decode cX4_seek 23 = .ok (.ifCond .eq 5, 3) := by decide +kernel
theorem dX4_seek_26 : decode cX4_seek 26 = .ok (.iload_n 2, 1) := by decide +kernel
theorem dX4_seek_27 : decode cX4_seek 27 = .ok (.ireturn, 1) := by decide +kernel
theorem dX4_seek_28 : decode cX4_seek 28 = .ok (.iinc 2 1, 3) := by decide +kernel
theorem dX4_seek_31 : decode cX4_seek 31 = .ok (.goto (-24), 3) := by decide +kernel
theorem dX4_seek_34 : decode cX4_seek 34 = .ok (.bipush (-9), 2) := by decide +kernel
theorem dX4_seek_36 : decode cX4_seek 36 = .ok (.ireturn, 1) := by decide +kernel
theorem dX4_reaches_0 : decode cX4_reaches 0 = .ok (.iload_n 2, 1) := by decide +kernel
theorem dX4_reaches_1 : decode cX4_reaches 1 = .ok (.iload_n 3, 1) := by decide +kernel
theorem dX4_reaches_2 : decode cX4_reaches 2 = .ok (.if_icmp .ge 8, 3) := by decide +kernel
theorem dX4_reaches_5 : decode cX4_reaches 5 = .ok (.iload_n 2, 1) := by decide +kernel
theorem dX4_reaches_6 : decode cX4_reaches 6 = .ok (.iconst 5, 1) := by decide +kernel
theorem dX4_reaches_7 : decode cX4_reaches 7 = .ok (.if_icmp .lt 50, 3) := by decide +kernel
theorem dX4_reaches_10 : decode cX4_reaches 10 = .ok (.aload_n 0, 1) := by decide +kernel
theorem dX4_reaches_11 : decode cX4_reaches 11 = .ok (.getfield 20, 3) := by decide +kernel
theorem dX4_reaches_14 : decode cX4_reaches 14 = .ok (.ifCond .eq 29, 3) := by decide +kernel
theorem dX4_reaches_17 : decode cX4_reaches 17 = .ok (.aload_n 0, 1) := by decide +kernel
theorem dX4_reaches_18 : decode cX4_reaches 18 = .ok (.getfield 11, 3) := by decide +kernel
theorem dX4_reaches_21 : decode cX4_reaches 21 = .ok (.iload_n 2, 1) := by decide +kernel
theorem dX4_reaches_22 : decode cX4_reaches 22 = .ok (.aaload, 1) := by decide +kernel
theorem dX4_reaches_23 : decode cX4_reaches 23 = .ok (.aload_n 0, 1) := by decide +kernel
theorem dX4_reaches_24 : decode cX4_reaches 24 = .ok (.getfield 28, 3) := by decide +kernel
theorem dX4_reaches_27 : decode cX4_reaches 27 = .ok (.iaload, 1) := by decide +kernel
theorem dX4_reaches_28 : decode cX4_reaches 28 = .ok (.aload_n 0, 1) := by decide +kernel
theorem dX4_reaches_29 : decode cX4_reaches 29 = .ok (.getfield 24, 3) := by decide +kernel
theorem dX4_reaches_32 : decode cX4_reaches 32 = .ok (.if_icmp .ne 7, 3) := by decide +kernel
theorem dX4_reaches_35 : decode cX4_reaches 35 = .ok (.iconst 1, 1) := by decide +kernel
theorem dX4_reaches_36 : decode cX4_reaches 36 = .ok (.goto 20, 3) := by decide +kernel
theorem dX4_reaches_39 : decode cX4_reaches 39 = .ok (.iconst 0, 1) := by decide +kernel
theorem dX4_reaches_40 : decode cX4_reaches 40 = .ok (.goto 16, 3) := by decide +kernel
theorem dX4_reaches_43 : decode cX4_reaches 43 = .ok (.aload_n 0, 1) := by decide +kernel
theorem dX4_reaches_44 : decode cX4_reaches 44 = .ok (.aload_n 1, 1) := by decide +kernel
theorem dX4_reaches_45 : decode cX4_reaches 45 = .ok (.aload_n 0, 1) := by decide +kernel
theorem dX4_reaches_46 : decode cX4_reaches 46 = .ok (.getfield 11, 3) := by decide +kernel
theorem dX4_reaches_49 : decode cX4_reaches 49 = .ok (.iload_n 2, 1) := by decide +kernel
theorem dX4_reaches_50 : decode cX4_reaches 50 = .ok (.aaload, 1) := by decide +kernel
theorem dX4_reaches_51 : decode cX4_reaches 51 = .ok (.iload 4, 2) := by decide +kernel
theorem dX4_reaches_53 : decode cX4_reaches 53 = .ok (.invokevirtual 80, 3) := by decide +kernel
theorem dX4_reaches_56 : decode cX4_reaches 56 = .ok (.ireturn, 1) := by decide +kernel
theorem dX4_reaches_57 : decode cX4_reaches 57 = .ok (.iconst 0, 1) := by decide +kernel
theorem dX4_reaches_58 : decode cX4_reaches 58 = .ok (.istore 5, 2) := by decide +kernel
theorem dX4_reaches_60 : decode cX4_reaches 60 = .ok (.iload 5, 2) := by decide +kernel
theorem dX4_reaches_62 : decode cX4_reaches 62 = .ok (.iconst 3, 1) := by decide +kernel
theorem dX4_reaches_63 : decode cX4_reaches 63 = .ok (.if_icmp .ge 59, 3) := by decide +kernel
theorem dX4_reaches_66 : decode cX4_reaches 66 = .ok (.aload_n 0, 1) := by decide +kernel
theorem dX4_reaches_67 : decode cX4_reaches 67 = .ok (.getfield 16, 3) := by decide +kernel
theorem dX4_reaches_70 : decode cX4_reaches 70 = .ok (.iload_n 2, 1) := by decide +kernel
theorem dX4_reaches_71 : decode cX4_reaches 71 = .ok (.iload 5, 2) := by decide +kernel
theorem dX4_reaches_73 : decode cX4_reaches 73 = .ok (.iastore, 1) := by decide +kernel
theorem dX4_reaches_74 : decode cX4_reaches 74 = .ok (.aload_n 1, 1) := by decide +kernel
theorem dX4_reaches_75 : decode cX4_reaches 75 = .ok (.aload_n 0, 1) := by decide +kernel
theorem dX4_reaches_76 : decode cX4_reaches 76 = .ok (.getfield 11, 3) := by decide +kernel
theorem dX4_reaches_79 : decode cX4_reaches 79 = .ok (.iload_n 2, 1) := by decide +kernel
theorem dX4_reaches_80 : decode cX4_reaches 80 = .ok (.aaload, 1) := by decide +kernel
theorem dX4_reaches_81 : decode cX4_reaches 81 = .ok (.aload_n 0, 1) := by decide +kernel
theorem dX4_reaches_82 : decode cX4_reaches 82 = .ok (.getfield 11, 3) := by decide +kernel
theorem dX4_reaches_85 : decode cX4_reaches 85 = .ok (.iload_n 2, 1) := by decide +kernel
theorem dX4_reaches_86 : decode cX4_reaches 86 = .ok (.iconst 1, 1) := by decide +kernel
theorem dX4_reaches_87 : decode cX4_reaches 87 = .ok (.iadd, 1) := by decide +kernel
theorem dX4_reaches_88 : decode cX4_reaches 88 = .ok (.aaload, 1) := by decide +kernel
theorem dX4_reaches_89 : decode cX4_reaches 89 = .ok (.iload 5, 2) := by decide +kernel
theorem dX4_reaches_91 : decode cX4_reaches 91 = .ok (.iload 4, 2) := by decide +kernel
theorem dX4_reaches_93 : decode cX4_reaches 93 = .ok (.iconst 0, 1) := by decide +kernel
theorem dX4_reaches_94 : decode cX4_reaches 94 = .ok (.invokevirtual 55, 3) := by decide +kernel
theorem dX4_reaches_97 : decode cX4_reaches 97 = .ok (.aload_n 0, 1) := by decide +kernel
theorem dX4_reaches_98 : decode cX4_reaches 98 = .ok (.aload_n 1, 1) := by decide +kernel
theorem dX4_reaches_99 : decode cX4_reaches 99 = .ok (.iload_n 2, 1) := by decide +kernel
theorem dX4_reaches_100 : decode cX4_reaches 100 = .ok (.iconst 1, 1) := by decide +kernel
theorem dX4_reaches_101 : decode cX4_reaches 101 = .ok (.iadd, 1) := by decide +kernel
theorem dX4_reaches_102 : decode cX4_reaches 102 = .ok (.iload_n 3, 1) := by decide +kernel
theorem dX4_reaches_103 : decode cX4_reaches 103 = .ok (.iload 4, 2) := by decide +kernel
theorem dX4_reaches_105 : decode cX4_reaches 105 = .ok (.invokestatic 73, 3) := by decide +kernel
theorem dX4_reaches_108 : decode cX4_reaches 108 = .ok (.invokevirtual 76, 3) := by decide +kernel
theorem dX4_reaches_111 : decode cX4_reaches 111 = .ok (.ifCond .eq 5, 3) := by decide +kernel
theorem dX4_reaches_114 : decode cX4_reaches 114 = .ok (.iconst 1, 1) := by decide +kernel
theorem dX4_reaches_115 : decode cX4_reaches 115 = .ok (.ireturn, 1) := by decide +kernel
theorem dX4_reaches_116 : decode cX4_reaches 116 = .ok (.iinc 5 1, 3) := by decide +kernel
theorem dX4_reaches_119 : decode cX4_reaches 119 = .ok (.goto (-59), 3) := by decide +kernel
theorem dX4_reaches_122 : decode cX4_reaches 122 = .ok (.iconst 0, 1) := by decide +kernel
theorem dX4_reaches_123 : decode cX4_reaches 123 = .ok (.ireturn, 1) := by decide +kernel
theorem dX4_inOrder_0 : decode cX4_inOrder 0 = .ok (.iconst 0, 1) := by decide +kernel
theorem dX4_inOrder_1 : decode cX4_inOrder 1 = .ok (.istore 4, 2) := by decide +kernel
theorem dX4_inOrder_3 : decode cX4_inOrder 3 = .ok (.iconst 0, 1) := by decide +kernel
theorem dX4_inOrder_4 : decode cX4_inOrder 4 = .ok (.istore 5, 2) := by decide +kernel
theorem dX4_inOrder_6 : decode cX4_inOrder 6 = .ok (.iload 5, 2) := by decide +kernel
theorem dX4_inOrder_8 : decode cX4_inOrder 8 = .ok (.aload_n 1, 1) := by decide +kernel
theorem dX4_inOrder_9 : decode cX4_inOrder 9 = .ok (.getfield 45, 3) := by decide +kernel
theorem dX4_inOrder_12 : decode cX4_inOrder 12 = .ok (.if_icmp .ge 37, 3) := by decide +kernel
theorem dX4_inOrder_15 : decode cX4_inOrder 15 = .ok (.aload_n 1, 1) := by decide +kernel
theorem dX4_inOrder_16 : decode cX4_inOrder 16 = .ok (.aload_n 2, 1) := by decide +kernel
theorem dX4_inOrder_17 : decode cX4_inOrder 17 = .ok (.iload 5, 2) := by decide +kernel
theorem dX4_inOrder_19 : decode cX4_inOrder 19 = .ok (.iaload, 1) := by decide +kernel
theorem dX4_inOrder_20 : decode cX4_inOrder 20 = .ok (.aload_n 0, 1) := by decide +kernel
theorem dX4_inOrder_21 : decode cX4_inOrder 21 = .ok (.getfield 31, 3) := by decide +kernel
theorem dX4_inOrder_24 : decode cX4_inOrder 24 = .ok (.iload_n 3, 1) := by decide +kernel
theorem dX4_inOrder_25 : decode cX4_inOrder 25 = .ok (.invokevirtual 84, 3) := by decide +kernel
theorem dX4_inOrder_28 : decode cX4_inOrder 28 = .ok (.istore 6, 2) := by decide +kernel
theorem dX4_inOrder_30 : decode cX4_inOrder 30 = .ok (.iload 6, 2) := by decide +kernel
theorem dX4_inOrder_32 : decode cX4_inOrder 32 = .ok (.iload 4, 2) := by decide +kernel
theorem dX4_inOrder_34 : decode cX4_inOrder 34 = .ok (.if_icmp .ge 5, 3) := by decide +kernel
theorem dX4_inOrder_37 : decode cX4_inOrder 37 = .ok (.iconst 0, 1) := by decide +kernel
theorem dX4_inOrder_38 : decode cX4_inOrder 38 = .ok (.ireturn, 1) := by decide +kernel
theorem dX4_inOrder_39 : decode cX4_inOrder 39 = .ok (.iload 6, 2) := by decide +kernel
theorem dX4_inOrder_41 : decode cX4_inOrder 41 = .ok (.istore 4, 2) := by decide +kernel
theorem dX4_inOrder_43 : decode cX4_inOrder 43 = .ok (.iinc 5 1, 3) := by decide +kernel
theorem dX4_inOrder_46 : decode cX4_inOrder 46 = .ok (.goto (-40), 3) := by decide +kernel
theorem dX4_inOrder_49 : decode cX4_inOrder 49 = .ok (.iconst 1, 1) := by decide +kernel
theorem dX4_inOrder_50 : decode cX4_inOrder 50 = .ok (.ireturn, 1) := by decide +kernel
theorem dX4_duelOf_0 : decode cX4_duelOf 0 = .ok (.aload_n 0, 1) := by decide +kernel
theorem dX4_duelOf_1 : decode cX4_duelOf 1 = .ok (.aload_n 1, 1) := by decide +kernel
theorem dX4_duelOf_2 : decode cX4_duelOf 2 = .ok (.invokevirtual 59, 3) := by decide +kernel
theorem dX4_duelOf_5 : decode cX4_duelOf 5 = .ok (.aload_n 0, 1) := by decide +kernel
theorem dX4_duelOf_6 : decode cX4_duelOf 6 = .ok (.iload_n 2, 1) := by decide +kernel
theorem dX4_duelOf_7 : decode cX4_duelOf 7 = .ok (.putfield 24, 3) := by decide +kernel
theorem dX4_duelOf_10 : decode cX4_duelOf 10 = .ok (.aload_n 0, 1) := by decide +kernel
theorem dX4_duelOf_11 : decode cX4_duelOf 11 = .ok (.iload_n 3, 1) := by decide +kernel
theorem dX4_duelOf_12 : decode cX4_duelOf 12 = .ok (.putfield 34, 3) := by decide +kernel
theorem dX4_duelOf_15 : decode cX4_duelOf 15 = .ok (.aload_n 0, 1) := by decide +kernel
theorem dX4_duelOf_16 : decode cX4_duelOf 16 = .ok (.iconst 2, 1) := by decide +kernel
theorem dX4_duelOf_17 : decode cX4_duelOf 17 = .ok (.iload 4, 2) := by decide +kernel
theorem dX4_duelOf_19 : decode cX4_duelOf 19 = .ok (.imul, 1) := by decide +kernel
theorem dX4_duelOf_20 : decode cX4_duelOf 20 = .ok (.putfield 37, 3) := by decide +kernel
theorem dX4_duelOf_23 : decode cX4_duelOf 23 = .ok (.aload_n 0, 1) := by decide +kernel
theorem dX4_duelOf_24 : decode cX4_duelOf 24 = .ok (.aload_n 1, 1) := by decide +kernel
theorem dX4_duelOf_25 : decode cX4_duelOf 25 = .ok (.iconst 0, 1) := by decide +kernel
theorem dX4_duelOf_26 : decode cX4_duelOf 26 = .ok (.aload_n 1, 1) := by decide +kernel
theorem dX4_duelOf_27 : decode cX4_duelOf 27 = .ok (.getfield 52, 3) := by decide +kernel
theorem dX4_duelOf_30 : decode cX4_duelOf 30 = .ok (.bipush (-6), 2) := by decide +kernel
theorem dX4_duelOf_32 : decode cX4_duelOf 32 = .ok (.bipush 6, 2) := by decide +kernel
theorem dX4_duelOf_34 : decode cX4_duelOf 34 = .ok (.invokevirtual 88, 3) := by decide +kernel
theorem dX4_duelOf_37 : decode cX4_duelOf 37 = .ok (.ireturn, 1) := by decide +kernel
theorem dX4_outcome_0 : decode cX4_outcome 0 = .ok (.iload_n 2, 1) := by decide +kernel
theorem dX4_outcome_1 : decode cX4_outcome 1 = .ok (.aload_n 0, 1) := by decide +kernel
theorem dX4_outcome_2 : decode cX4_outcome 2 = .ok (.getfield 37, 3) := by decide +kernel
theorem dX4_outcome_5 : decode cX4_outcome 5 = .ok (.if_icmp .ge 9, 3) := by decide +kernel
theorem dX4_outcome_8 : decode cX4_outcome 8 = .ok (.iload_n 2, 1) := by decide +kernel
theorem dX4_outcome_9 : decode cX4_outcome 9 = .ok (.bipush 6, 2) := by decide +kernel
theorem dX4_outcome_11 : decode cX4_outcome 11 = .ok (.if_icmp .lt 39, 3) := by decide +kernel
theorem dX4_outcome_14 : decode cX4_outcome 14 = .ok (.aload_n 0, 1) := by decide +kernel
theorem dX4_outcome_15 : decode cX4_outcome 15 = .ok (.getfield 11, 3) := by decide +kernel
theorem dX4_outcome_18 : decode cX4_outcome 18 = .ok (.iload_n 2, 1) := by decide +kernel
theorem dX4_outcome_19 : decode cX4_outcome 19 = .ok (.aaload, 1) := by decide +kernel
theorem dX4_outcome_20 : decode cX4_outcome 20 = .ok (.aload_n 0, 1) := by decide +kernel
theorem dX4_outcome_21 : decode cX4_outcome 21 = .ok (.getfield 34, 3) := by decide +kernel
theorem dX4_outcome_24 : decode cX4_outcome 24 = .ok (.aload_n 1, 1) := by decide +kernel
theorem dX4_outcome_25 : decode cX4_outcome 25 = .ok (.getfield 45, 3) := by decide +kernel
theorem dX4_outcome_28 : decode cX4_outcome 28 = .ok (.invokestatic 92, 3) := by decide +kernel
theorem dX4_outcome_31 : decode cX4_outcome 31 = .ok (.aload_n 0, 1) := by decide +kernel
theorem dX4_outcome_32 : decode cX4_outcome 32 = .ok (.getfield 11, 3) := by decide +kernel
theorem dX4_outcome_35 : decode cX4_outcome 35 = .ok (.iload_n 2, 1) := by decide +kernel
theorem dX4_outcome_36 : decode cX4_outcome 36 = .ok (.aaload, 1) := by decide +kernel
theorem dX4_outcome_37 : decode cX4_outcome 37 = .ok (.aload_n 0, 1) := by decide +kernel
theorem dX4_outcome_38 : decode cX4_outcome 38 = .ok (.getfield 24, 3) := by decide +kernel
theorem dX4_outcome_41 : decode cX4_outcome 41 = .ok (.aload_n 1, 1) := by decide +kernel
theorem dX4_outcome_42 : decode cX4_outcome 42 = .ok (.getfield 45, 3) := by decide +kernel
theorem dX4_outcome_45 : decode cX4_outcome 45 = .ok (.invokestatic 92, 3) := by decide +kernel
theorem dX4_outcome_48 : decode cX4_outcome 48 = .ok (.isub, 1) := by decide +kernel
theorem dX4_outcome_49 : decode cX4_outcome 49 = .ok (.ireturn, 1) := by decide +kernel
theorem dX4_outcome_50 : decode cX4_outcome 50 = .ok (.iload_n 2, 1) := by decide +kernel
theorem dX4_outcome_51 : decode cX4_outcome 51 = .ok (.iconst 2, 1) := by decide +kernel
theorem dX4_outcome_52 : decode cX4_outcome 52 = .ok (.irem, 1) := by decide +kernel
theorem dX4_outcome_53 : decode cX4_outcome 53 = .ok (.ifCond .ne 7, 3) := by decide +kernel
theorem dX4_outcome_56 : decode cX4_outcome 56 = .ok (.iconst 1, 1) := by decide +kernel
theorem dX4_outcome_57 : decode cX4_outcome 57 = .ok (.goto 4, 3) := by decide +kernel
theorem dX4_outcome_60 : decode cX4_outcome 60 = .ok (.iconst 0, 1) := by decide +kernel
theorem dX4_outcome_61 : decode cX4_outcome 61 = .ok (.istore 6, 2) := by decide +kernel
theorem dX4_outcome_63 : decode cX4_outcome 63 = .ok (.iconst 0, 1) := by decide +kernel
theorem dX4_outcome_64 : decode cX4_outcome 64 = .ok (.istore 7, 2) := by decide +kernel
theorem dX4_outcome_66 : decode cX4_outcome 66 = .ok (.iload 7, 2) := by decide +kernel
theorem dX4_outcome_68 : decode cX4_outcome 68 = .ok (.iconst 3, 1) := by decide +kernel
theorem dX4_outcome_69 : decode cX4_outcome 69 = .ok (.if_icmp .gt 69, 3) := by decide +kernel
theorem dX4_outcome_72 : decode cX4_outcome 72 = .ok (.iload 4, 2) := by decide +kernel
theorem dX4_outcome_74 : decode cX4_outcome 74 = .ok (.iload 5, 2) := by decide +kernel
theorem dX4_outcome_76 : decode cX4_outcome 76 = .ok (.if_icmp .ge 62, 3) := by decide +kernel
theorem dX4_outcome_79 : decode cX4_outcome 79 = .ok (.aload_n 0, 1) := by decide +kernel
theorem dX4_outcome_80 : decode cX4_outcome 80 = .ok (.aload_n 1, 1) := by decide +kernel
theorem dX4_outcome_81 : decode cX4_outcome 81 = .ok (.iload_n 2, 1) := by decide +kernel
theorem dX4_outcome_82 : decode cX4_outcome 82 = .ok (.iload 7, 2) := by decide +kernel
theorem dX4_outcome_84 : decode cX4_outcome 84 = .ok (.iload_n 3, 1) := by decide +kernel
theorem dX4_outcome_85 : decode cX4_outcome 85 = .ok (.invokevirtual 96, 3) := by decide +kernel
theorem dX4_outcome_88 : decode cX4_outcome 88 = .ok (.istore 8, 2) := by decide +kernel
theorem dX4_outcome_90 : decode cX4_outcome 90 = .ok (.aload_n 0, 1) := by decide +kernel
theorem dX4_outcome_91 : decode cX4_outcome 91 = .ok (.aload_n 1, 1) := by decide +kernel
theorem dX4_outcome_92 : decode cX4_outcome 92 = .ok (.iload_n 2, 1) := by decide +kernel
theorem dX4_outcome_93 : decode cX4_outcome 93 = .ok (.iconst 1, 1) := by decide +kernel
theorem dX4_outcome_94 : decode cX4_outcome 94 = .ok (.iadd, 1) := by decide +kernel
theorem dX4_outcome_95 : decode cX4_outcome 95 = .ok (.iload 8, 2) := by decide +kernel
theorem dX4_outcome_97 : decode cX4_outcome 97 = .ok (.iload 4, 2) := by decide +kernel
theorem dX4_outcome_99 : decode cX4_outcome 99 = .ok (.iload 5, 2) := by decide +kernel
theorem dX4_outcome_101 : decode cX4_outcome 101 = .ok (.invokevirtual 88, 3) := by decide +kernel
theorem dX4_outcome_104 : decode cX4_outcome 104 = .ok (.istore 9, 2) := by decide +kernel
theorem dX4_outcome_106 : decode cX4_outcome 106 = .ok (.iload 6, 2) := by decide +kernel
theorem dX4_outcome_108 : decode cX4_outcome 108 = .ok (.ifCond .eq 15, 3) := by decide +kernel
theorem dX4_outcome_111 : decode cX4_outcome 111 = .ok (.iload 4, 2) := by decide +kernel
theorem dX4_outcome_113 : decode cX4_outcome 113 = .ok (.iload 9, 2) := by decide +kernel
theorem dX4_outcome_115 : decode cX4_outcome 115 = .ok (.invokestatic 100, 3) := by decide +kernel
theorem dX4_outcome_118 : decode cX4_outcome 118 = .ok (.istore 4, 2) := by decide +kernel
theorem dX4_outcome_120 : decode cX4_outcome 120 = .ok (.goto 12, 3) := by decide +kernel
theorem dX4_outcome_123 : decode cX4_outcome 123 = .ok (.iload 5, 2) := by decide +kernel
theorem dX4_outcome_125 : decode cX4_outcome 125 = .ok (.iload 9, 2) := by decide +kernel
theorem dX4_outcome_127 : decode cX4_outcome 127 = .ok (.invokestatic 105, 3) := by decide +kernel
theorem dX4_outcome_130 : decode cX4_outcome 130 = .ok (.istore 5, 2) := by decide +kernel
theorem dX4_outcome_132 : decode cX4_outcome 132 = .ok (.iinc 7 1, 3) := by decide +kernel
theorem dX4_outcome_135 : decode cX4_outcome 135 = .ok (.goto (-69), 3) := by decide +kernel
theorem dX4_outcome_138 : decode cX4_outcome 138 = .ok (.iload 6, 2) := by decide +kernel
theorem dX4_outcome_140 : decode cX4_outcome 140 = .ok (.ifCond .eq 8, 3) := by decide +kernel
theorem dX4_outcome_143 : decode cX4_outcome 143 = .ok (.iload 4, 2) := by decide +kernel
theorem dX4_outcome_145 : decode cX4_outcome 145 = .ok (.goto 5, 3) := by decide +kernel
theorem dX4_outcome_148 : decode cX4_outcome 148 = .ok (.iload 5, 2) := by decide +kernel
theorem dX4_outcome_150 : decode cX4_outcome 150 = .ok (.ireturn, 1) := by decide +kernel
theorem dX4_step_0 : decode cX4_step 0 = .ok (.iload_n 3, 1) := by decide +kernel
theorem dX4_step_1 : decode cX4_step 1 = .ok (.iconst 3, 1) := by decide +kernel
theorem dX4_step_2 : decode cX4_step 2 = .ok (.if_icmp .lt 27, 3) := by decide +kernel
theorem dX4_step_5 : decode cX4_step 5 = .ok (.aload_n 0, 1) := by decide +kernel
theorem dX4_step_6 : decode cX4_step 6 = .ok (.getfield 11, 3) := by decide +kernel
theorem dX4_step_9 : decode cX4_step 9 = .ok (.iload_n 2, 1) := by decide +kernel
theorem dX4_step_10 : decode cX4_step 10 = .ok (.aaload, 1) := by decide +kernel
theorem dX4_step_11 : decode cX4_step 11 = .ok (.aload_n 0, 1) := by decide +kernel
theorem dX4_step_12 : decode cX4_step 12 = .ok (.getfield 11, 3) := by decide +kernel
theorem dX4_step_15 : decode cX4_step 15 = .ok (.iload_n 2, 1) := by decide +kernel
theorem dX4_step_16 : decode cX4_step 16 = .ok (.iconst 1, 1) := by decide +kernel
theorem dX4_step_17 : decode cX4_step 17 = .ok (.iadd, 1) := by decide +kernel
theorem dX4_step_18 : decode cX4_step 18 = .ok (.aaload, 1) := by decide +kernel
theorem dX4_step_19 : decode cX4_step 19 = .ok (.aload_n 1, 1) := by decide +kernel
theorem dX4_step_20 : decode cX4_step 20 = .ok (.getfield 45, 3) := by decide +kernel
theorem dX4_step_23 : decode cX4_step 23 = .ok (.invokestatic 48, 3) := by decide +kernel
theorem dX4_step_26 : decode cX4_step 26 = .ok (.iload 4, 2) := by decide +kernel
theorem dX4_step_28 : decode cX4_step 28 = .ok (.ireturn, 1) := by decide +kernel
theorem dX4_step_29 : decode cX4_step 29 = .ok (.aload_n 1, 1) := by decide +kernel
theorem dX4_step_30 : decode cX4_step 30 = .ok (.aload_n 0, 1) := by decide +kernel
theorem dX4_step_31 : decode cX4_step 31 = .ok (.getfield 11, 3) := by decide +kernel
theorem dX4_step_34 : decode cX4_step 34 = .ok (.iload_n 2, 1) := by decide +kernel
theorem dX4_step_35 : decode cX4_step 35 = .ok (.aaload, 1) := by decide +kernel
theorem dX4_step_36 : decode cX4_step 36 = .ok (.aload_n 0, 1) := by decide +kernel
theorem dX4_step_37 : decode cX4_step 37 = .ok (.getfield 11, 3) := by decide +kernel
theorem dX4_step_40 : decode cX4_step 40 = .ok (.iload_n 2, 1) := by decide +kernel
theorem dX4_step_41 : decode cX4_step 41 = .ok (.iconst 1, 1) := by decide +kernel
theorem dX4_step_42 : decode cX4_step 42 = .ok (.iadd, 1) := by decide +kernel
theorem dX4_step_43 : decode cX4_step 43 = .ok (.aaload, 1) := by decide +kernel
theorem dX4_step_44 : decode cX4_step 44 = .ok (.iload_n 3, 1) := by decide +kernel
theorem dX4_step_45 : decode cX4_step 45 = .ok (.iload 4, 2) := by decide +kernel
theorem dX4_step_47 : decode cX4_step 47 = .ok (.iconst 0, 1) := by decide +kernel
theorem dX4_step_48 : decode cX4_step 48 = .ok (.invokevirtual 55, 3) := by decide +kernel
theorem dX4_step_51 : decode cX4_step 51 = .ok (.iload 4, 2) := by decide +kernel
theorem dX4_step_53 : decode cX4_step 53 = .ok (.invokestatic 73, 3) := by decide +kernel
theorem dX4_step_56 : decode cX4_step 56 = .ok (.ireturn, 1) := by decide +kernel
theorem dX5_init_0 : decode cX5_init 0 = .ok (.aload_n 0, 1) := by decide +kernel
theorem dX5_init_1 : decode cX5_init 1 = .ok (.invokespecial 1, 3) := by decide +kernel
theorem dX5_init_4 : decode cX5_init 4 = .ok (.aload_n 0, 1) := by decide +kernel
theorem dX5_init_5 : decode cX5_init 5 = .ok (.new 7, 3) := by decide +kernel
theorem dX5_init_8 : decode cX5_init 8 = .ok (.dup, 1) := by decide +kernel
theorem dX5_init_9 : decode cX5_init 9 = .ok (.bipush 6, 2) := by decide +kernel
theorem dX5_init_11 : decode cX5_init 11 = .ok (.bipush 40, 2) := by decide +kernel
theorem dX5_init_13 : decode cX5_init 13 = .ok (.invokespecial 11, 3) := by decide +kernel
theorem dX5_init_16 : decode cX5_init 16 = .ok (.putfield 14, 3) := by decide +kernel
theorem dX5_init_19 : decode cX5_init 19 = .ok (.aload_n 0, 1) := by decide +kernel
theorem dX5_init_20 : decode cX5_init 20 = .ok (.new 7, 3) := by decide +kernel
theorem dX5_init_23 : decode cX5_init 23 = .ok (.dup, 1) := by decide +kernel
theorem dX5_init_24 : decode cX5_init 24 = .ok (.iconst 4, 1) := by decide +kernel
theorem dX5_init_25 : decode cX5_init 25 = .ok (.bipush 60, 2) := by decide +kernel
theorem dX5_init_27 : decode cX5_init 27 = .ok (.invokespecial 11, 3) := by decide +kernel
theorem dX5_init_30 : decode cX5_init 30 = .ok (.putfield 18, 3) := by decide +kernel
theorem dX5_init_33 : decode cX5_init 33 = .ok (.aload_n 0, 1) := by decide +kernel
theorem dX5_init_34 : decode cX5_init 34 = .ok (.new 7, 3) := by decide +kernel
theorem dX5_init_37 : decode cX5_init 37 = .ok (.dup, 1) := by decide +kernel
theorem dX5_init_38 : decode cX5_init 38 = .ok (.iconst 3, 1) := by decide +kernel
theorem dX5_init_39 : decode cX5_init 39 = .ok (.bipush 40, 2) := by decide +kernel
theorem dX5_init_41 : decode cX5_init 41 = .ok (.invokespecial 11, 3) := by decide +kernel
theorem dX5_init_44 : decode cX5_init 44 = .ok (.putfield 21, 3) := by decide +kernel
theorem dX5_init_47 : decode cX5_init 47 = .ok (.aload_n 0, 1) := by decide +kernel
theorem dX5_init_48 : decode cX5_init 48 = .ok (.new 24, 3) := by decide +kernel
theorem dX5_init_51 : decode cX5_init 51 = .ok (.dup, 1) := by decide +kernel
theorem dX5_init_52 : decode cX5_init 52 = .ok (.invokespecial 26, 3) := by decide +kernel
theorem dX5_init_55 : decode cX5_init 55 = .ok (.putfield 27, 3) := by decide +kernel
theorem dX5_init_58 : decode cX5_init 58 = .ok (.aload_n 0, 1) := by decide +kernel
theorem dX5_init_59 : decode cX5_init 59 = .ok (.new 31, 3) := by decide +kernel
theorem dX5_init_62 : decode cX5_init 62 = .ok (.dup, 1) := by decide +kernel
theorem dX5_init_63 : decode cX5_init 63 = .ok (.invokespecial 33, 3) := by decide +kernel
theorem dX5_init_66 : decode cX5_init 66 = .ok (.putfield 34, 3) := by decide +kernel
theorem dX5_init_69 : decode cX5_init 69 = .ok (.aload_n 0, 1) := by decide +kernel
theorem dX5_init_70 : decode cX5_init 70 = .ok (.new 38, 3) := by decide +kernel
theorem dX5_init_73 : decode cX5_init 73 = .ok (.dup, 1) := by decide +kernel
theorem dX5_init_74 : decode cX5_init 74 = .ok (.invokespecial 40, 3) := by decide +kernel
theorem dX5_init_77 : decode cX5_init 77 = .ok (.putfield 41, 3) := by decide +kernel
theorem dX5_init_80 : decode cX5_init 80 = .ok (.aload_n 0, 1) := by decide +kernel
theorem dX5_init_81 : decode cX5_init 81 = .ok (.new 45, 3) := by decide +kernel
theorem dX5_init_84 : decode cX5_init 84 = .ok (.dup, 1) := by decide +kernel
theorem dX5_init_85 : decode cX5_init 85 = .ok (.invokespecial 47, 3) := by decide +kernel
theorem dX5_init_88 : decode cX5_init 88 = .ok (.putfield 48, 3) := by decide +kernel
theorem dX5_init_91 : decode cX5_init 91 = .ok (.aload_n 0, 1) := by decide +kernel
theorem dX5_init_92 : decode cX5_init 92 = .ok (.bipush 6, 2) := by decide +kernel
theorem dX5_init_94 : decode cX5_init 94 = .ok (.newarray .int, 2) := by decide +kernel
theorem dX5_init_96 : decode cX5_init 96 = .ok (.putfield 52, 3) := by decide +kernel
theorem dX5_init_99 : decode cX5_init 99 = .ok (.aload_n 0, 1) := by decide +kernel
theorem dX5_init_100 : decode cX5_init 100 = .ok (.iconst 0, 1) := by decide +kernel
theorem dX5_init_101 : decode cX5_init 101 = .ok (.putfield 56, 3) := by decide +kernel
theorem dX5_init_104 : decode cX5_init 104 = .ok (.aload_n 0, 1) := by decide +kernel
theorem dX5_init_105 : decode cX5_init 105 = .ok (.iconst 0, 1) := by decide +kernel
theorem dX5_init_106 : decode cX5_init 106 = .ok (.putfield 60, 3) := by decide +kernel
theorem dX5_init_109 : decode cX5_init 109 = .ok (.aload_n 0, 1) := by decide +kernel
theorem dX5_init_110 : decode cX5_init 110 = .ok (.lconst 0, 1) := by decide +kernel
theorem dX5_init_111 : decode cX5_init 111 = .ok (.putfield 63, 3) := by decide +kernel
theorem dX5_init_114 : decode cX5_init 114 = .ok (.aload_n 0, 1) := by decide +kernel
theorem dX5_init_115 : decode cX5_init 115 = .ok (.lconst 1, 1) := by decide +kernel
theorem dX5_init_116 : decode cX5_init 116 = .ok (.putfield 67, 3) := by decide +kernel
theorem dX5_init_119 : decode cX5_init 119 = .ok (.return_, 1) := by decide +kernel
theorem dX5_row_0 : decode cX5_row 0 = .ok (.iload_n 1, 1) := by decide +kernel
theorem dX5_row_1 : decode cX5_row 1 = .ok (.invokestatic 70, 3) := by decide +kernel
theorem dX5_row_4 : decode cX5_row 4 = .ok (.ifCond .eq 9, 3) := by decide +kernel
theorem dX5_row_7 : decode cX5_row 7 = .ok (.iload_n 2, 1) := by decide +kernel
theorem dX5_row_8 : decode cX5_row 8 = .ok (.bipush 40, 2) := by decide +kernel
theorem dX5_row_10 : decode cX5_row 10 = .ok (.if_icmp .le 5, 3) := by decide +kernel
theorem dX5_row_13 : decode cX5_row 13 = .ok (.iconst (-1), 1) := by decide +kernel
theorem dX5_row_14 : decode cX5_row 14 = .ok (.ireturn, 1) := by decide +kernel
theorem dX5_row_15 : decode cX5_row 15 = .ok (.iload_n 2, 1) := by decide +kernel
theorem dX5_row_16 : decode cX5_row 16 = .ok (.ifCond .ge 9, 3) := by decide +kernel
theorem dX5_row_19 : decode cX5_row 19 = .ok (.aload_n 0, 1) := by decide +kernel
theorem dX5_row_20 : decode cX5_row 20 = .ok (.iconst 5, 1) := by decide +kernel
theorem dX5_row_21 : decode cX5_row 21 = .ok (.invokevirtual 74, 3) := by decide +kernel
theorem dX5_row_24 : decode cX5_row 24 = .ok (.ireturn, 1) := by decide +kernel
theorem dX5_row_25 : decode cX5_row 25 = .ok (.aload_n 0, 1) := by decide +kernel
theorem dX5_row_26 : decode cX5_row 26 = .ok (.getfield 14, 3) := by decide +kernel
theorem dX5_row_29 : decode cX5_row 29 = .ok (.iload_n 1, 1) := by decide +kernel
theorem dX5_row_30 : decode cX5_row 30 = .ok (.iload_n 2, 1) := by decide +kernel
theorem dX5_row_31 : decode cX5_row 31 = .ok (.iconst 0, 1) := by decide +kernel
theorem dX5_row_32 : decode cX5_row 32 = .ok (.invokevirtual 78, 3) := by decide +kernel
theorem dX5_row_35 : decode cX5_row 35 = .ok (.iload_n 2, 1) := by decide +kernel
theorem dX5_row_36 : decode cX5_row 36 = .ok (.ireturn, 1) := by decide +kernel
theorem dX5_lay_0 : decode cX5_lay 0 = .ok (.aload_n 0, 1) := by decide +kernel
theorem dX5_lay_1 : decode cX5_lay 1 = .ok (.iload_n 1, 1) := by decide +kernel
theorem dX5_lay_2 : decode cX5_lay 2 = .ok (.iload_n 2, 1) := by decide +kernel
theorem dX5_lay_3 : decode cX5_lay 3 = .ok (.invokevirtual 82, 3) := by decide +kernel
theorem dX5_lay_6 : decode cX5_lay 6 = .ok (.istore 4, 2) := by decide +kernel
theorem dX5_lay_8 : decode cX5_lay 8 = .ok (.iload 4, 2) := by decide +kernel
theorem dX5_lay_10 : decode cX5_lay 10 = .ok (.ifCond .eq 6, 3) := by decide +kernel
theorem dX5_lay_13 : decode cX5_lay 13 = .ok (.iload 4, 2) := by decide +kernel
theorem dX5_lay_15 : decode cX5_lay 15 = .ok (.ireturn, 1) := by decide +kernel
theorem dX5_lay_16 : decode cX5_lay 16 = .ok (.aload_n 0, 1) := by decide +kernel
theorem dX5_lay_17 : decode cX5_lay 17 = .ok (.aload_n 0, 1) := by decide +kernel
theorem dX5_lay_18 : decode cX5_lay 18 = .ok (.getfield 14, 3) := by decide +kernel
theorem dX5_lay_21 : decode cX5_lay 21 = .ok (.iload_n 1, 1) := by decide +kernel
theorem dX5_lay_22 : decode cX5_lay 22 = .ok (.iload_n 2, 1) := by decide +kernel
theorem dX5_lay_23 : decode cX5_lay 23 = .ok (.invokevirtual 86, 3) := by decide +kernel
theorem dX5_lay_26 : decode cX5_lay 26 = .ok (.putfield 60, 3) := by decide +kernel
theorem dX5_lay_29 : decode cX5_lay 29 = .ok (.aload_n 0, 1) := by decide +kernel
theorem dX5_lay_30 : decode cX5_lay 30 = .ok (.getfield 14, 3) := by decide +kernel
theorem dX5_lay_33 : decode cX5_lay 33 = .ok (.iload_n 1, 1) := by decide +kernel
theorem dX5_lay_34 : decode cX5_lay 34 = .ok (.iload_n 2, 1) := by decide +kernel
theorem dX5_lay_35 : decode cX5_lay 35 = .ok (.iload_n 3, 1) := by decide +kernel
theorem dX5_lay_36 : decode cX5_lay 36 = .ok (.invokevirtual 89, 3) := by decide +kernel
theorem dX5_lay_39 : decode cX5_lay 39 = .ok (.iconst 1, 1) := by decide +kernel
theorem dX5_lay_40 : decode cX5_lay 40 = .ok (.ireturn, 1) := by decide +kernel
theorem dX5_at_0 : decode cX5_at 0 = .ok (.aload_n 0, 1) := by decide +kernel
theorem dX5_at_1 : decode cX5_at 1 = .ok (.iload_n 1, 1) := by decide +kernel
theorem dX5_at_2 : decode cX5_at 2 = .ok (.iload_n 2, 1) := by decide +kernel
theorem dX5_at_3 : decode cX5_at 3 = .ok (.invokevirtual 82, 3) := by decide +kernel
theorem dX5_at_6 : decode cX5_at 6 = .ok (.istore_n 3, 1) := by decide +kernel
theorem dX5_at_7 : decode cX5_at 7 = .ok (.iload_n 3, 1) := by decide +kernel
theorem dX5_at_8 : decode cX5_at 8 = .ok (.ifCond .eq 5, 3) := by decide +kernel
theorem dX5_at_11 : decode cX5_at 11 = .ok (.iload_n 3, 1) := by decide +kernel
theorem dX5_at_12 : decode cX5_at 12 = .ok (.ireturn, 1) := by decide +kernel
theorem dX5_at_13 : decode cX5_at 13 = .ok (.aload_n 0, 1) := by decide +kernel
theorem dX5_at_14 : decode cX5_at 14 = .ok (.aload_n 0, 1) := by decide +kernel
theorem dX5_at_15 : decode cX5_at 15 = .ok (.getfield 14, 3) := by decide +kernel
theorem dX5_at_18 : decode cX5_at 18 = .ok (.iload_n 1, 1) := by decide +kernel
theorem dX5_at_19 : decode cX5_at 19 = .ok (.iload_n 2, 1) := by decide +kernel
theorem dX5_at_20 : decode cX5_at 20 = .ok (.invokevirtual 86, 3) := by decide +kernel
theorem dX5_at_23 : decode cX5_at 23 = .ok (.putfield 60, 3) := by decide +kernel
theorem dX5_at_26 : decode cX5_at 26 = .ok (.iconst 1, 1) := by decide +kernel
theorem dX5_at_27 : decode cX5_at 27 = .ok (.ireturn, 1) := by decide +kernel
theorem dX5_tear_0 : decode cX5_tear 0 = .ok (.aload_n 0, 1) := by decide +kernel
theorem dX5_tear_1 : decode cX5_tear 1 = .ok (.iload_n 1, 1) := by decide +kernel
theorem dX5_tear_2 : decode cX5_tear 2 = .ok (.invokevirtual 92, 3) := by decide +kernel
theorem dX5_tear_5 : decode cX5_tear 5 = .ok (.istore_n 2, 1) := by decide +kernel
theorem dX5_tear_6 : decode cX5_tear 6 = .ok (.iload_n 2, 1) := by decide +kernel
theorem dX5_tear_7 : decode cX5_tear 7 = .ok (.ifCond .eq 5, 3) := by decide +kernel
theorem dX5_tear_10 : decode cX5_tear 10 = .ok (.iload_n 2, 1) := by decide +kernel
theorem dX5_tear_11 : decode cX5_tear 11 = .ok (.ireturn, 1) := by decide +kernel
theorem dX5_tear_12 : decode cX5_tear 12 = .ok (.aload_n 0, 1) := by decide +kernel
theorem dX5_tear_13 : decode cX5_tear 13 = .ok (.getfield 14, 3) := by decide +kernel
theorem dX5_tear_16 : decode cX5_tear 16 = .ok (.iload_n 1, 1) := by decide +kernel
theorem dX5_tear_17 : decode cX5_tear 17 = .ok (.invokevirtual 95, 3) := by decide +kernel
theorem dX5_tear_20 : decode cX5_tear 20 = .ok (.iconst 1, 1) := by decide +kernel
theorem dX5_tear_21 : decode cX5_tear 21 = .ok (.ireturn, 1) := by decide +kernel
theorem dX5_copy_0 : decode cX5_copy 0 = .ok (.iload_n 1, 1) := by decide +kernel
theorem dX5_copy_1 : decode cX5_copy 1 = .ok (.invokestatic 70, 3) := by decide +kernel
theorem dX5_copy_4 : decode cX5_copy 4 = .ok (.ifCond .eq 10, 3) := by decide +kernel
theorem dX5_copy_7 : decode cX5_copy 7 = .ok (.iload_n 3, 1) := by decide +kernel
theorem dX5_copy_8 : decode cX5_copy 8 = .ok (.invokestatic 70, 3) := by decide +kernel
theorem dX5_copy_11 : decode cX5_copy 11 = .ok (.ifCond .ne 5, 3) := by decide +kernel
theorem dX5_copy_14 : decode cX5_copy 14 = .ok (.iconst (-1), 1) := by decide +kernel
theorem dX5_copy_15 : decode cX5_copy 15 = .ok (.ireturn, 1) := by decide +kernel
theorem dX5_copy_16 : decode cX5_copy 16 = .ok (.iload 5, 2) := by decide +kernel
theorem dX5_copy_18 : decode cX5_copy 18 = .ok (.ifCond .ge 9, 3) := by decide +kernel
theorem dX5_copy_21 : decode cX5_copy 21 = .ok (.aload_n 0, 1) := by decide +kernel
theorem dX5_copy_22 : decode cX5_copy 22 = .ok (.iconst 5, 1) := by decide +kernel
theorem dX5_copy_23 : decode cX5_copy 23 = .ok (.invokevirtual 74, 3) := by decide +kernel
theorem dX5_copy_26 : decode cX5_copy 26 = .ok (.ireturn, 1) := by decide +kernel
theorem dX5_copy_27 : decode cX5_copy 27 = .ok (.aload_n 0, 1) := by decide +kernel
theorem dX5_copy_28 : decode cX5_copy 28 = .ok (.getfield 14, 3) := by decide +kernel
theorem dX5_copy_31 : decode cX5_copy 31 = .ok (.iload_n 1, 1) := by decide +kernel
theorem dX5_copy_32 : decode cX5_copy 32 = .ok (.invokevirtual 99, 3) := by decide +kernel
theorem dX5_copy_35 : decode cX5_copy 35 = .ok (.ifCond .eq 14, 3) := by decide +kernel
theorem dX5_copy_38 : decode cX5_copy 38 = .ok (.aload_n 0, 1) := by decide +kernel
theorem dX5_copy_39 : decode cX5_copy 39 = .ok (.getfield 14, 3) := by decide +kernel
theorem dX5_copy_42 : decode cX5_copy 42 = .ok (.iload_n 3, 1) := by decide +kernel
theorem dX5_copy_43 : decode cX5_copy 43 = .ok (.invokevirtual 99, 3) := by decide +kernel
theorem dX5_copy_46 : decode cX5_copy 46 = .ok (.ifCond .ne 9, 3) := by decide +kernel
theorem dX5_copy_49 : decode cX5_copy 49 = .ok (.aload_n 0, 1) := by decide +kernel
theorem dX5_copy_50 : decode cX5_copy 50 = .ok (.iconst 1, 1) := by decide +kernel
theorem dX5_copy_51 : decode cX5_copy 51 = .ok (.invokevirtual 74, 3) := by decide +kernel
theorem dX5_copy_54 : decode cX5_copy 54 = .ok (.ireturn, 1) := by decide +kernel
theorem dX5_copy_55 : decode cX5_copy 55 = .ok (.aload_n 0, 1) := by decide +kernel
theorem dX5_copy_56 : decode cX5_copy 56 = .ok (.getfield 14, 3) := by decide +kernel
theorem dX5_copy_59 : decode cX5_copy 59 = .ok (.iload_n 1, 1) := by decide +kernel
theorem dX5_copy_60 : decode cX5_copy 60 = .ok (.iload_n 2, 1) := by decide +kernel
theorem dX5_copy_61 : decode cX5_copy 61 = .ok (.iload 5, 2) := by decide +kernel
theorem dX5_copy_63 : decode cX5_copy 63 = .ok (.invokevirtual 102, 3) := by decide +kernel
theorem dX5_copy_66 : decode cX5_copy 66 = .ok (.ifCond .eq 18, 3) := by decide +kernel
theorem dX5_copy_69 : decode cX5_copy 69 = .ok (.aload_n 0, 1) := by decide +kernel
theorem dX5_copy_70 : decode cX5_copy 70 = .ok (.getfield 14, 3) := by decide +kernel
theorem dX5_copy_73 : decode cX5_copy 73 = .ok (.iload_n 3, 1) := by decide +kernel
theorem dX5_copy_74 : decode cX5_copy 74 = .ok (.iload 4, 2) := by decide +kernel
theorem dX5_copy_76 : decode cX5_copy 76 = .ok (.iload 5, 2) := by decide +kernel
theorem dX5_copy_78 : decode cX5_copy 78 = .ok (.invokevirtual 102, 3) := by decide +kernel
theorem dX5_copy_81 : decode cX5_copy 81 = .ok (.ifCond .ne 9, 3) := by decide +kernel
theorem dX5_copy_84 : decode cX5_copy 84 = .ok (.aload_n 0, 1) := by decide +kernel
theorem dX5_copy_85 : decode cX5_copy 85 = .ok (.iconst 2, 1) := by decide +kernel
theorem dX5_copy_86 : decode cX5_copy 86 = .ok (.invokevirtual 74, 3) := by decide +kernel
theorem dX5_copy_89 : decode cX5_copy 89 = .ok (.ireturn, 1) := by decide +kernel
theorem dX5_copy_90 : decode cX5_copy 90 = .ok (.iload_n 2, 1) := by decide +kernel
theorem dX5_copy_91 : decode cX5_copy 91 = .ok (.iload 4, 2) := by decide +kernel
theorem dX5_copy_93 : decode cX5_copy 93 = .ok (.if_icmp .ge 48, 3) := by decide +kernel
theorem dX5_copy_96 : decode cX5_copy 96 = .ok (.iload 5, 2) := by decide +kernel
theorem dX5_copy_98 : decode cX5_copy 98 = .ok (.iconst 1, 1) := by decide +kernel
theorem dX5_copy_99 : decode cX5_copy 99 = .ok (.isub, 1) := by decide +kernel
theorem dX5_copy_100 : decode cX5_copy 100 = .ok (.istore 6, 2) := by decide +kernel
theorem dX5_copy_102 : decode cX5_copy 102 = .ok (.iload 6, 2) := by decide +kernel
theorem dX5_copy_104 : decode cX5_copy 104 = .ok (.ifCond .lt 34, 3) := by decide +kernel
theorem dX5_copy_107 : decode cX5_copy 107 = .ok (.aload_n 0, 1) := by decide +kernel
theorem dX5_copy_108 : decode cX5_copy 108 = .ok (.getfield 14, 3) := by decide +kernel
theorem dX5_copy_111 : decode cX5_copy 111 = .ok (.iload_n 3, 1) := by decide +kernel
theorem dX5_copy_112 : decode cX5_copy 112 = .ok (.iload 4, 2) := by decide +kernel
theorem dX5_copy_114 : decode cX5_copy 114 = .ok (.iload 6, 2) := by decide +kernel
theorem dX5_copy_116 : decode cX5_copy 116 = .ok (.iadd, 1) := by decide +kernel
theorem dX5_copy_117 : decode cX5_copy 117 = .ok (.aload_n 0, 1) := by decide +kernel
theorem dX5_copy_118 : decode cX5_copy 118 = .ok (.getfield 14, 3) := by decide +kernel
theorem dX5_copy_121 : decode cX5_copy 121 = .ok (.iload_n 1, 1) := by decide +kernel
theorem dX5_copy_122 : decode cX5_copy 122 = .ok (.iload_n 2, 1) := by decide +kernel
theorem dX5_copy_123 : decode cX5_copy 123 = .ok (.iload 6, 2) := by decide +kernel
theorem dX5_copy_125 : decode cX5_copy 125 = .ok (.iadd, 1) := by decide +kernel
theorem dX5_copy_126 : decode cX5_copy 126 = .ok (.invokevirtual 86, 3) := by decide +kernel
theorem dX5_copy_129 : decode cX5_copy 129 = .ok (.invokevirtual 89, 3) := by decide +kernel
theorem dX5_copy_132 : decode cX5_copy 132 = .ok (.iinc 6 (-1), 3) := by decide +kernel
theorem dX5_copy_135 : decode cX5_copy 135 = .ok (.goto (-33), 3) := by decide +kernel
theorem dX5_copy_138 : decode cX5_copy 138 = .ok (.goto 44, 3) := by decide +kernel
theorem dX5_copy_141 : decode cX5_copy 141 = .ok (.iconst 0, 1) := by decide +kernel
theorem dX5_copy_142 : decode cX5_copy 142 = .ok (.istore 6, 2) := by decide +kernel
theorem dX5_copy_144 : decode cX5_copy 144 = .ok (.iload 6, 2) := by decide +kernel
theorem dX5_copy_146 : decode cX5_copy 146 = .ok (.iload 5, 2) := by decide +kernel
theorem dX5_copy_148 : decode cX5_copy 148 = .ok (.if_icmp .ge 34, 3) := by decide +kernel
theorem dX5_copy_151 : decode cX5_copy 151 = .ok (.aload_n 0, 1) := by decide +kernel
theorem dX5_copy_152 : decode cX5_copy 152 = .ok (.getfield 14, 3) := by decide +kernel
theorem dX5_copy_155 : decode cX5_copy 155 = .ok (.iload_n 3, 1) := by decide +kernel
theorem dX5_copy_156 : decode cX5_copy 156 = .ok (.iload 4, 2) := by decide +kernel
theorem dX5_copy_158 : decode cX5_copy 158 = .ok (.iload 6, 2) := by decide +kernel
theorem dX5_copy_160 : decode cX5_copy 160 = .ok (.iadd, 1) := by decide +kernel
theorem dX5_copy_161 : decode cX5_copy 161 = .ok (.aload_n 0, 1) := by decide +kernel
theorem dX5_copy_162 : decode cX5_copy 162 = .ok (.getfield 14, 3) := by decide +kernel
theorem dX5_copy_165 : decode cX5_copy 165 = .ok (.iload_n 1, 1) := by decide +kernel
theorem dX5_copy_166 : decode cX5_copy 166 = .ok (.iload_n 2, 1) := by decide +kernel
theorem dX5_copy_167 : decode cX5_copy 167 = .ok (.iload 6, 2) := by decide +kernel
theorem dX5_copy_169 : decode cX5_copy 169 = .ok (.iadd, 1) := by decide +kernel
theorem dX5_copy_170 : decode cX5_copy 170 = .ok (.invokevirtual 86, 3) := by decide +kernel
theorem dX5_copy_173 : decode cX5_copy 173 = .ok (.invokevirtual 89, 3) := by decide +kernel
theorem dX5_copy_176 : decode cX5_copy 176 = .ok (.iinc 6 1, 3) := by decide +kernel
theorem dX5_copy_179 : decode cX5_copy 179 = .ok (.goto (-35), 3) := by decide +kernel
theorem dX5_copy_182 : decode cX5_copy 182 = .ok (.iconst 1, 1) := by decide +kernel
theorem dX5_copy_183 : decode cX5_copy 183 = .ok (.ireturn, 1) := by decide +kernel
theorem dX5_mean_0 : decode cX5_mean 0 = .ok (.aload_n 0, 1) := by decide +kernel
theorem dX5_mean_1 : decode cX5_mean 1 = .ok (.iload_n 1, 1) := by decide +kernel
theorem dX5_mean_2 : decode cX5_mean 2 = .ok (.invokevirtual 92, 3) := by decide +kernel
theorem dX5_mean_5 : decode cX5_mean 5 = .ok (.istore_n 2, 1) := by decide +kernel
theorem dX5_mean_6 : decode cX5_mean 6 = .ok (.iload_n 2, 1) := by decide +kernel
theorem dX5_mean_7 : decode cX5_mean 7 = .ok (.ifCond .eq 5, 3) := by decide +kernel
theorem dX5_mean_10 : decode cX5_mean 10 = .ok (.iload_n 2, 1) := by decide +kernel
theorem dX5_mean_11 : decode cX5_mean 11 = .ok (.ireturn, 1) := by decide +kernel
theorem dX5_mean_12 : decode cX5_mean 12 = .ok (.aload_n 0, 1) := by decide +kernel
theorem dX5_mean_13 : decode cX5_mean 13 = .ok (.getfield 14, 3) := by decide +kernel
theorem dX5_mean_16 : decode cX5_mean 16 = .ok (.iload_n 1, 1) := by decide +kernel
theorem dX5_mean_17 : decode cX5_mean 17 = .ok (.invokevirtual 106, 3) := by decide +kernel
theorem dX5_mean_20 : decode cX5_mean 20 = .ok (.istore_n 3, 1) := by decide +kernel
theorem dX5_mean_21 : decode cX5_mean 21 = .ok (.iload_n 3, 1) := by decide +kernel
theorem dX5_mean_22 : decode cX5_mean 22 = .ok (.ifCond .gt 9, 3) := by decide +kernel
theorem dX5_mean_25 : decode cX5_mean 25 = .ok (.aload_n 0, 1) := by decide +kernel
theorem dX5_mean_26 : decode cX5_mean 26 = .ok (.iconst 4, 1) := by decide +kernel
theorem dX5_mean_27 : decode cX5_mean 27 = .ok (.invokevirtual 74, 3) := by decide +kernel
theorem dX5_mean_30 : decode cX5_mean 30 = .ok (.ireturn, 1) := by decide +kernel
theorem dX5_mean_31 : decode cX5_mean 31 = .ok (.lconst 0, 1) := by decide +kernel
theorem dX5_mean_32 : decode cX5_mean 32 = .ok (.lstore 4, 2) := by decide +kernel
theorem dX5_mean_34 : decode cX5_mean 34 = .ok (.iconst 0, 1) := by decide +kernel
theorem dX5_mean_35 : decode cX5_mean 35 = .ok (.istore 6, 2) := by decide +kernel
theorem dX5_mean_37 : decode cX5_mean 37 = .ok (.iload 6, 2) := by decide +kernel
theorem dX5_mean_39 : decode cX5_mean 39 = .ok (.iload_n 3, 1) := by decide +kernel
theorem dX5_mean_40 : decode cX5_mean 40 = .ok (.if_icmp .ge 25, 3) := by decide +kernel
theorem dX5_mean_43 : decode cX5_mean 43 = .ok (.lload 4, 2) := by decide +kernel
theorem dX5_mean_45 : decode cX5_mean 45 = .ok (.aload_n 0, 1) := by decide +kernel
theorem dX5_mean_46 : decode cX5_mean 46 = .ok (.getfield 14, 3) := by decide +kernel
theorem dX5_mean_49 : decode cX5_mean 49 = .ok (.iload_n 1, 1) := by decide +kernel
theorem dX5_mean_50 : decode cX5_mean 50 = .ok (.iload 6, 2) := by decide +kernel
theorem dX5_mean_52 : decode cX5_mean 52 = .ok (.invokevirtual 86, 3) := by decide +kernel
theorem dX5_mean_55 : decode cX5_mean 55 = .ok (.i2l, 1) := by decide +kernel
theorem dX5_mean_56 : decode cX5_mean 56 = .ok (.ladd, 1) := by decide +kernel
theorem dX5_mean_57 : decode cX5_mean 57 = .ok (.lstore 4, 2) := by decide +kernel
theorem dX5_mean_59 : decode cX5_mean 59 = .ok (.iinc 6 1, 3) := by decide +kernel
theorem dX5_mean_62 : decode cX5_mean 62 = .ok (.goto (-25), 3) := by decide +kernel
theorem dX5_mean_65 : decode cX5_mean 65 = .ok (.aload_n 0, 1) := by decide +kernel
theorem dX5_mean_66 : decode cX5_mean 66 = .ok (.lload 4, 2) := by decide +kernel
theorem dX5_mean_68 : decode cX5_mean 68 = .ok (.iload_n 3, 1) := by decide +kernel
theorem dX5_mean_69 : decode cX5_mean 69 = .ok (.i2l, 1) := by decide +kernel
theorem dX5_mean_70 : decode cX5_mean 70 = .ok (.ldiv, 1) := by decide +kernel
theorem dX5_mean_71 : decode cX5_mean 71 = .ok (.l2i, 1) := by decide +kernel
theorem dX5_mean_72 : decode cX5_mean 72 = .ok (.putfield 60, 3) := by decide +kernel
theorem dX5_mean_75 : decode cX5_mean 75 = .ok (.iconst 1, 1) := by decide +kernel
theorem dX5_mean_76 : decode cX5_mean 76 = .ok (.ireturn, 1) := by decide +kernel
theorem dX5_text_0 : decode cX5_text 0 = .ok (.iload_n 1, 1) := by decide +kernel
theorem dX5_text_1 : decode cX5_text 1 = .ok (.invokestatic 109, 3) := by decide +kernel
theorem dX5_text_4 : decode cX5_text 4 = .ok (.ifCond .eq 9, 3) := by decide +kernel
theorem dX5_text_7 : decode cX5_text 7 = .ok (.iload_n 2, 1) := by decide +kernel
theorem dX5_text_8 : decode cX5_text 8 = .ok (.bipush 60, 2) := by decide +kernel
theorem dX5_text_10 : decode cX5_text 10 = .ok (.if_icmp .le 5, 3) := by decide +kernel
theorem dX5_text_13 : decode cX5_text 13 = .ok (.iconst (-1), 1) := by decide +kernel
theorem dX5_text_14 : decode cX5_text 14 = .ok (.ireturn, 1) := by decide +kernel
theorem dX5_text_15 : decode cX5_text 15 = .ok (.iload_n 2, 1) := by decide +kernel
theorem dX5_text_16 : decode cX5_text 16 = .ok (.ifCond .ge 9, 3) := by decide +kernel
theorem dX5_text_19 : decode cX5_text 19 = .ok (.aload_n 0, 1) := by decide +kernel
theorem dX5_text_20 : decode cX5_text 20 = .ok (.iconst 5, 1) := by decide +kernel
theorem dX5_text_21 : decode cX5_text 21 = .ok (.invokevirtual 74, 3) := by decide +kernel
theorem dX5_text_24 : decode cX5_text 24 = .ok (.ireturn, 1) := by decide +kernel
theorem dX5_text_25 : decode cX5_text 25 = .ok (.aload_n 0, 1) := by decide +kernel
theorem dX5_text_26 : decode cX5_text 26 = .ok (.getfield 18, 3) := by decide +kernel
theorem dX5_text_29 : decode cX5_text 29 = .ok (.iload_n 1, 1) := by decide +kernel
theorem dX5_text_30 : decode cX5_text 30 = .ok (.iload_n 2, 1) := by decide +kernel
theorem dX5_text_31 : decode cX5_text 31 = .ok (.bipush 32, 2) := by decide +kernel
theorem dX5_text_33 : decode cX5_text 33 = .ok (.invokevirtual 78, 3) := by decide +kernel
theorem dX5_text_36 : decode cX5_text 36 = .ok (.iload_n 2, 1) := by decide +kernel
theorem dX5_text_37 : decode cX5_text 37 = .ok (.ireturn, 1) := by decide +kernel
theorem dX5_put_0 : decode cX5_put 0 = .ok (.aload_n 0, 1) := by decide +kernel
theorem dX5_put_1 : decode cX5_put 1 = .ok (.iload_n 1, 1) := by decide +kernel
theorem dX5_put_2 : decode cX5_put 2 = .ok (.invokevirtual 112, 3) := by decide +kernel
theorem dX5_put_5 : decode cX5_put 5 = .ok (.istore 4, 2) := by decide +kernel
theorem dX5_put_7 : decode cX5_put 7 = .ok (.iload 4, 2) := by decide +kernel
theorem dX5_put_9 : decode cX5_put 9 = .ok (.ifCond .eq 6, 3) := by decide +kernel
theorem dX5_put_12 : decode cX5_put 12 = .ok (.iload 4, 2) := by decide +kernel
theorem dX5_put_14 : decode cX5_put 14 = .ok (.ireturn, 1) := by decide +kernel
theorem dX5_put_15 : decode cX5_put 15 = .ok (.aload_n 0, 1) := by decide +kernel
theorem dX5_put_16 : decode cX5_put 16 = .ok (.getfield 18, 3) := by decide +kernel
theorem dX5_put_19 : decode cX5_put 19 = .ok (.iload_n 1, 1) := by decide +kernel
theorem dX5_put_20 : decode cX5_put 20 = .ok (.iload_n 2, 1) := by decide +kernel
theorem dX5_put_21 : decode cX5_put 21 = .ok (.iconst 1, 1) := by decide +kernel
theorem dX5_put_22 : decode cX5_put 22 = .ok (.invokevirtual 102, 3) := by decide +kernel
theorem dX5_put_25 : decode cX5_put 25 = .ok (.ifCond .ne 9, 3) := by decide +kernel
theorem dX5_put_28 : decode cX5_put 28 = .ok (.aload_n 0, 1) := by decide +kernel
theorem dX5_put_29 : decode cX5_put 29 = .ok (.iconst 2, 1) := by decide +kernel
theorem dX5_put_30 : decode cX5_put 30 = .ok (.invokevirtual 74, 3) := by decide +kernel
theorem dX5_put_33 : decode cX5_put 33 = .ok (.ireturn, 1) := by decide +kernel
theorem dX5_put_34 : decode cX5_put 34 = .ok (.aload_n 0, 1) := by decide +kernel
theorem dX5_put_35 : decode cX5_put 35 = .ok (.getfield 18, 3) := by decide +kernel
theorem dX5_put_38 : decode cX5_put 38 = .ok (.iload_n 1, 1) := by decide +kernel
theorem dX5_put_39 : decode cX5_put 39 = .ok (.iload_n 2, 1) := by decide +kernel
theorem dX5_put_40 : decode cX5_put 40 = .ok (.invokevirtual 86, 3) := by decide +kernel
theorem dX5_put_43 : decode cX5_put 43 = .ok (.istore 5, 2) := by decide +kernel
theorem dX5_put_45 : decode cX5_put 45 = .ok (.aload_n 0, 1) := by decide +kernel
theorem dX5_put_46 : decode cX5_put 46 = .ok (.getfield 18, 3) := by decide +kernel
theorem dX5_put_49 : decode cX5_put 49 = .ok (.iload_n 1, 1) := by decide +kernel
theorem dX5_put_50 : decode cX5_put 50 = .ok (.iload_n 2, 1) := by decide +kernel
theorem dX5_put_51 : decode cX5_put 51 = .ok (.iload_n 3, 1) := by decide +kernel
theorem dX5_put_52 : decode cX5_put 52 = .ok (.i2b, 1) := by decide +kernel
theorem dX5_put_53 : decode cX5_put 53 = .ok (.invokevirtual 89, 3) := by decide +kernel
theorem dX5_put_56 : decode cX5_put 56 = .ok (.iload 5, 2) := by decide +kernel
theorem dX5_put_58 : decode cX5_put 58 = .ok (.sipush 1000, 3) := by decide +kernel
theorem dX5_put_61 : decode cX5_put 61 = .ok (.iadd, 1) := by decide +kernel
theorem dX5_put_62 : decode cX5_put 62 = .ok (.ireturn, 1) := by decide +kernel
theorem dX5_fault_0 : decode cX5_fault 0 = .ok (.aload_n 0, 1) := by decide +kernel
theorem dX5_fault_1 : decode cX5_fault 1 = .ok (.iload_n 1, 1) := by decide +kernel
theorem dX5_fault_2 : decode cX5_fault 2 = .ok (.invokevirtual 112, 3) := by decide +kernel
theorem dX5_fault_5 : decode cX5_fault 5 = .ok (.istore_n 2, 1) := by decide +kernel
theorem dX5_fault_6 : decode cX5_fault 6 = .ok (.iload_n 2, 1) := by decide +kernel
theorem dX5_fault_7 : decode cX5_fault 7 = .ok (.ifCond .eq 5, 3) := by decide +kernel
theorem dX5_fault_10 : decode cX5_fault 10 = .ok (.iload_n 2, 1) := by decide +kernel
theorem dX5_fault_11 : decode cX5_fault 11 = .ok (.ireturn, 1) := by decide +kernel
theorem dX5_fault_12 : decode cX5_fault 12 = .ok (.aload_n 0, 1) := by decide +kernel
theorem dX5_fault_13 : decode cX5_fault 13 = .ok (.getfield 27, 3) := by decide +kernel
theorem dX5_fault_16 : decode cX5_fault 16 = .ok (.aload_n 0, 1) := by decide +kernel
theorem dX5_fault_17 : decode cX5_fault 17 = .ok (.getfield 18, 3) := by decide +kernel
theorem dX5_fault_20 : decode cX5_fault 20 = .ok (.iload_n 1, 1) := by decide +kernel
theorem dX5_fault_21 : decode cX5_fault 21 = .ok (.invokevirtual 115, 3) := by decide +kernel
theorem dX5_fault_24 : decode cX5_fault 24 = .ok (.ireturn, 1) := by decide +kernel
theorem dX5_deck_0 : decode cX5_deck 0 = .ok (.aload_n 0, 1) := by decide +kernel
theorem dX5_deck_1 : decode cX5_deck 1 = .ok (.iload_n 1, 1) := by decide +kernel
theorem dX5_deck_2 : decode cX5_deck 2 = .ok (.invokevirtual 112, 3) := by decide +kernel
theorem dX5_deck_5 : decode cX5_deck 5 = .ok (.istore_n 2, 1) := by decide +kernel
theorem dX5_deck_6 : decode cX5_deck 6 = .ok (.iload_n 2, 1) := by decide +kernel
theorem dX5_deck_7 : decode cX5_deck 7 = .ok (.ifCond .eq 5, 3) := by decide +kernel
theorem dX5_deck_10 : decode cX5_deck 10 = .ok (.iload_n 2, 1) := by decide +kernel
theorem dX5_deck_11 : decode cX5_deck 11 = .ok (.ireturn, 1) := by decide +kernel
theorem dX5_deck_12 : decode cX5_deck 12 = .ok (.aload_n 0, 1) := by decide +kernel
theorem dX5_deck_13 : decode cX5_deck 13 = .ok (.getfield 27, 3) := by decide +kernel
theorem dX5_deck_16 : decode cX5_deck 16 = .ok (.aload_n 0, 1) := by decide +kernel
theorem dX5_deck_17 : decode cX5_deck 17 = .ok (.getfield 18, 3) := by decide +kernel
theorem dX5_deck_20 : decode cX5_deck 20 = .ok (.iload_n 1, 1) := by decide +kernel
theorem dX5_deck_21 : decode cX5_deck 21 = .ok (.invokevirtual 115, 3) := by decide +kernel
theorem dX5_deck_24 : decode cX5_deck 24 = .ok (.bipush (-9), 2) := by decide +kernel
theorem dX5_deck_26 : decode cX5_deck 26 = .ok (.if_icmp .eq 6, 3) := by decide +kernel
theorem dX5_deck_29 : decode cX5_deck 29 = .ok (.bipush (-4), 2) := by decide +kernel
theorem dX5_deck_31 : decode cX5_deck 31 = .ok (.ireturn, 1) := by decide +kernel
theorem dX5_deck_32 : decode cX5_deck 32 = .ok (.aload_n 0, 1) := by decide +kernel
theorem dX5_deck_33 : decode cX5_deck 33 = .ok (.getfield 34, 3) := by decide +kernel
theorem dX5_deck_36 : decode cX5_deck 36 = .ok (.aload_n 0, 1) := by decide +kernel
theorem dX5_deck_37 : decode cX5_deck 37 = .ok (.getfield 27, 3) := by decide +kernel
theorem dX5_deck_40 : decode cX5_deck 40 = .ok (.invokevirtual 119, 3) := by decide +kernel
theorem dX5_deck_43 : decode cX5_deck 43 = .ok (.iconst 0, 1) := by decide +kernel
theorem dX5_deck_44 : decode cX5_deck 44 = .ok (.istore_n 3, 1) := by decide +kernel
theorem dX5_deck_45 : decode cX5_deck 45 = .ok (.iload_n 3, 1) := by decide +kernel
theorem dX5_deck_46 : decode cX5_deck 46 = .ok (.iconst 3, 1) := by decide +kernel
theorem dX5_deck_47 : decode cX5_deck 47 = .ok (.if_icmp .ge 17, 3) := by decide +kernel
theorem dX5_deck_50 : decode cX5_deck 50 = .ok (.aload_n 0, 1) := by decide +kernel
theorem dX5_deck_51 : decode cX5_deck 51 = .ok (.getfield 21, 3) := by decide +kernel
theorem dX5_deck_54 : decode cX5_deck 54 = .ok (.iload_n 3, 1) := by decide +kernel
theorem dX5_deck_55 : decode cX5_deck 55 = .ok (.invokevirtual 95, 3) := by decide +kernel
theorem dX5_deck_58 : decode cX5_deck 58 = .ok (.iinc 3 1, 3) := by decide +kernel
theorem dX5_deck_61 : decode cX5_deck 61 = .ok (.goto (-16), 3) := by decide +kernel
theorem dX5_deck_64 : decode cX5_deck 64 = .ok (.aload_n 0, 1) := by decide +kernel
theorem dX5_deck_65 : decode cX5_deck 65 = .ok (.getfield 34, 3) := by decide +kernel
theorem dX5_deck_68 : decode cX5_deck 68 = .ok (.getfield 123, 3) := by decide +kernel
theorem dX5_deck_71 : decode cX5_deck 71 = .ok (.ireturn, 1) := by decide +kernel
theorem dX5_card_0 : decode cX5_card 0 = .ok (.aload_n 0, 1) := by decide +kernel
theorem dX5_card_1 : decode cX5_card 1 = .ok (.iload_n 1, 1) := by decide +kernel
theorem dX5_card_2 : decode cX5_card 2 = .ok (.invokevirtual 126, 3) := by decide +kernel
theorem dX5_card_5 : decode cX5_card 5 = .ok (.ifCond .eq 13, 3) := by decide +kernel
theorem dX5_card_8 : decode cX5_card 8 = .ok (.iload_n 2, 1) := by decide +kernel
theorem dX5_card_9 : decode cX5_card 9 = .ok (.ifCond .lt 9, 3) := by decide +kernel
theorem dX5_card_12 : decode cX5_card 12 = .ok (.iload_n 2, 1) := by decide +kernel
theorem dX5_card_13 : decode cX5_card 13 = .ok (.bipush 8, 2) := by decide +kernel
theorem dX5_card_15 : decode cX5_card 15 = .ok (.if_icmp .lt 5, 3) := by decide +kernel
theorem dX5_card_18 : decode cX5_card 18 = .ok (.iconst (-1), 1) := by decide +kernel
theorem dX5_card_19 : decode cX5_card 19 = .ok (.ireturn, 1) := by decide +kernel
theorem dX5_card_20 : decode cX5_card 20 = .ok (.aload_n 0, 1) := by decide +kernel
theorem dX5_card_21 : decode cX5_card 21 = .ok (.aload_n 0, 1) := by decide +kernel
theorem dX5_card_22 : decode cX5_card 22 = .ok (.iload_n 1, 1) := by decide +kernel
theorem dX5_card_23 : decode cX5_card 23 = .ok (.iload_n 2, 1) := by decide +kernel
theorem dX5_card_24 : decode cX5_card 24 = .ok (.invokevirtual 129, 3) := by decide +kernel
theorem dX5_card_27 : decode cX5_card 27 = .ok (.putfield 60, 3) := by decide +kernel
theorem dX5_card_30 : decode cX5_card 30 = .ok (.iconst 1, 1) := by decide +kernel
theorem dX5_card_31 : decode cX5_card 31 = .ok (.ireturn, 1) := by decide +kernel
theorem dX5_mark_0 : decode cX5_mark 0 = .ok (.aload_n 0, 1) := by decide +kernel
theorem dX5_mark_1 : decode cX5_mark 1 = .ok (.iload_n 1, 1) := by decide +kernel
theorem dX5_mark_2 : decode cX5_mark 2 = .ok (.invokevirtual 126, 3) := by decide +kernel
theorem dX5_mark_5 : decode cX5_mark 5 = .ok (.ifCond .eq 13, 3) := by decide +kernel
theorem dX5_mark_8 : decode cX5_mark 8 = .ok (.iload_n 2, 1) := by decide +kernel
theorem dX5_mark_9 : decode cX5_mark 9 = .ok (.ifCond .le 9, 3) := by decide +kernel
theorem dX5_mark_12 : decode cX5_mark 12 = .ok (.iload_n 2, 1) := by decide +kernel
theorem dX5_mark_13 : decode cX5_mark 13 = .ok (.bipush 6, 2) := by decide +kernel
theorem dX5_mark_15 : decode cX5_mark 15 = .ok (.if_icmp .lt 5, 3) := by decide +kernel
theorem dX5_mark_18 : decode cX5_mark 18 = .ok (.iconst (-1), 1) := by decide +kernel
theorem dX5_mark_19 : decode cX5_mark 19 = .ok (.ireturn, 1) := by decide +kernel
theorem dX5_mark_20 : decode cX5_mark 20 = .ok (.aload_n 0, 1) := by decide +kernel
theorem dX5_mark_21 : decode cX5_mark 21 = .ok (.getfield 34, 3) := by decide +kernel
theorem dX5_mark_24 : decode cX5_mark 24 = .ok (.getfield 132, 3) := by decide +kernel
theorem dX5_mark_27 : decode cX5_mark 27 = .ok (.iload_n 1, 1) := by decide +kernel
theorem dX5_mark_28 : decode cX5_mark 28 = .ok (.iaload, 1) := by decide +kernel
theorem dX5_mark_29 : decode cX5_mark 29 = .ok (.iload_n 2, 1) := by decide +kernel
theorem dX5_mark_30 : decode cX5_mark 30 = .ok (.invokestatic 135, 3) := by decide +kernel
theorem dX5_mark_33 : decode cX5_mark 33 = .ok (.ifCond .ne 9, 3) := by decide +kernel
theorem dX5_mark_36 : decode cX5_mark 36 = .ok (.aload_n 0, 1) := by decide +kernel
theorem dX5_mark_37 : decode cX5_mark 37 = .ok (.iconst 3, 1) := by decide +kernel
theorem dX5_mark_38 : decode cX5_mark 38 = .ok (.invokevirtual 74, 3) := by decide +kernel
theorem dX5_mark_41 : decode cX5_mark 41 = .ok (.ireturn, 1) := by decide +kernel
theorem dX5_mark_42 : decode cX5_mark 42 = .ok (.iload_n 2, 1) := by decide +kernel
theorem dX5_mark_43 : decode cX5_mark 43 = .ok (.lookupswitch 49 #[(2, 25), (5, 40)], 25) := by decide +kernel
theorem dX5_mark_68 : decode cX5_mark 68 = .ok (.bipush 9, 2) := by decide +kernel
theorem dX5_mark_70 : decode cX5_mark 70 = .ok (.aload_n 0, 1) := by decide +kernel
theorem dX5_mark_71 : decode cX5_mark 71 = .ok (.getfield 34, 3) := by decide +kernel
theorem dX5_mark_74 : decode cX5_mark 74 = .ok (.getfield 139, 3) := by decide +kernel
theorem dX5_mark_77 : decode cX5_mark 77 = .ok (.iconst 4, 1) := by decide +kernel
theorem dX5_mark_78 : decode cX5_mark 78 = .ok (.idiv, 1) := by decide +kernel
theorem dX5_mark_79 : decode cX5_mark 79 = .ok (.invokestatic 142, 3) := by decide +kernel
theorem dX5_mark_82 : decode cX5_mark 82 = .ok (.ireturn, 1) := by decide +kernel
theorem dX5_mark_83 : decode cX5_mark 83 = .ok (.aload_n 0, 1) := by decide +kernel
theorem dX5_mark_84 : decode cX5_mark 84 = .ok (.getfield 34, 3) := by decide +kernel
theorem dX5_mark_87 : decode cX5_mark 87 = .ok (.iload_n 1, 1) := by decide +kernel
theorem dX5_mark_88 : decode cX5_mark 88 = .ok (.invokevirtual 147, 3) := by decide +kernel
theorem dX5_mark_91 : decode cX5_mark 91 = .ok (.ireturn, 1) := by decide +kernel
theorem dX5_mark_92 : decode cX5_mark 92 = .ok (.aload_n 0, 1) := by decide +kernel
theorem dX5_mark_93 : decode cX5_mark 93 = .ok (.iload_n 1, 1) := by decide +kernel
theorem dX5_mark_94 : decode cX5_mark 94 = .ok (.iload_n 2, 1) := by decide +kernel
theorem dX5_mark_95 : decode cX5_mark 95 = .ok (.invokevirtual 150, 3) := by decide +kernel
theorem dX5_mark_98 : decode cX5_mark 98 = .ok (.ireturn, 1) := by decide +kernel
theorem dX5_pass_0 : decode cX5_pass 0 = .ok (.iload_n 1, 1) := by decide +kernel
theorem dX5_pass_1 : decode cX5_pass 1 = .ok (.invokestatic 153, 3) := by decide +kernel
theorem dX5_pass_4 : decode cX5_pass 4 = .ok (.ifCond .ne 5, 3) := by decide +kernel
theorem dX5_pass_7 : decode cX5_pass 7 = .ok (.iconst (-1), 1) := by decide +kernel
theorem dX5_pass_8 : decode cX5_pass 8 = .ok (.ireturn, 1) := by decide +kernel
theorem dX5_pass_9 : decode cX5_pass 9 = .ok (.aload_n 0, 1) := by decide +kernel
theorem dX5_pass_10 : decode cX5_pass 10 = .ok (.iconst 1, 1) := by decide +kernel
theorem dX5_pass_11 : decode cX5_pass 11 = .ok (.invokevirtual 156, 3) := by decide +kernel
theorem dX5_pass_14 : decode cX5_pass 14 = .ok (.istore_n 2, 1) := by decide +kernel
theorem dX5_pass_15 : decode cX5_pass 15 = .ok (.iload_n 2, 1) := by decide +kernel
theorem dX5_pass_16 : decode cX5_pass 16 = .ok (.ifCond .eq 5, 3) := by decide +kernel
theorem dX5_pass_19 : decode cX5_pass 19 = .ok (.iload_n 2, 1) := by decide +kernel
theorem dX5_pass_20 : decode cX5_pass 20 = .ok (.ireturn, 1) := by decide +kernel
theorem dX5_pass_21 : decode cX5_pass 21 = .ok (.aload_n 0, 1) := by decide +kernel
theorem dX5_pass_22 : decode cX5_pass 22 = .ok (.getfield 34, 3) := by decide +kernel
theorem dX5_pass_25 : decode cX5_pass 25 = .ok (.iconst 0, 1) := by decide +kernel
theorem dX5_pass_26 : decode cX5_pass 26 = .ok (.iload_n 1, 1) := by decide +kernel
theorem dX5_pass_27 : decode cX5_pass 27 = .ok (.iconst 0, 1) := by decide +kernel
theorem dX5_pass_28 : decode cX5_pass 28 = .ok (.iconst 0, 1) := by decide +kernel
theorem dX5_pass_29 : decode cX5_pass 29 = .ok (.invokestatic 159, 3) := by decide +kernel
theorem dX5_pass_32 : decode cX5_pass 32 = .ok (.invokevirtual 163, 3) := by decide +kernel
theorem dX5_pass_35 : decode cX5_pass 35 = .ok (.ireturn, 1) := by decide +kernel
theorem dX5_turn_0 : decode cX5_turn 0 = .ok (.aload_n 0, 1) := by decide +kernel
theorem dX5_turn_1 : decode cX5_turn 1 = .ok (.iconst 1, 1) := by decide +kernel
theorem dX5_turn_2 : decode cX5_turn 2 = .ok (.invokevirtual 156, 3) := by decide +kernel
theorem dX5_turn_5 : decode cX5_turn 5 = .ok (.istore_n 1, 1) := by decide +kernel
theorem dX5_turn_6 : decode cX5_turn 6 = .ok (.iload_n 1, 1) := by decide +kernel
theorem dX5_turn_7 : decode cX5_turn 7 = .ok (.ifCond .eq 5, 3) := by decide +kernel
theorem dX5_turn_10 : decode cX5_turn 10 = .ok (.iload_n 1, 1) := by decide +kernel
theorem dX5_turn_11 : decode cX5_turn 11 = .ok (.ireturn, 1) := by decide +kernel
theorem dX5_turn_12 : decode cX5_turn 12 = .ok (.aload_n 0, 1) := by decide +kernel
theorem dX5_turn_13 : decode cX5_turn 13 = .ok (.getfield 34, 3) := by decide +kernel
theorem dX5_turn_16 : decode cX5_turn 16 = .ok (.iconst 1, 1) := by decide +kernel
theorem dX5_turn_17 : decode cX5_turn 17 = .ok (.iconst 0, 1) := by decide +kernel
theorem dX5_turn_18 : decode cX5_turn 18 = .ok (.iconst 0, 1) := by decide +kernel
theorem dX5_turn_19 : decode cX5_turn 19 = .ok (.iconst 0, 1) := by decide +kernel
theorem dX5_turn_20 : decode cX5_turn 20 = .ok (.invokestatic 159, 3) := by decide +kernel
theorem dX5_turn_23 : decode cX5_turn 23 = .ok (.invokevirtual 163, 3) := by decide +kernel
theorem dX5_turn_26 : decode cX5_turn 26 = .ok (.ireturn, 1) := by decide +kernel
theorem dX5_lift_0 : decode cX5_lift 0 = .ok (.aload_n 0, 1) := by decide +kernel
theorem dX5_lift_1 : decode cX5_lift 1 = .ok (.getfield 34, 3) := by decide +kernel
theorem dX5_lift_4 : decode cX5_lift 4 = .ok (.getfield 123, 3) := by decide +kernel
theorem dX5_lift_7 : decode cX5_lift 7 = .ok (.ifCond .ne 6, 3) := by decide +kernel
theorem dX5_lift_10 : decode cX5_lift 10 = .ok (.bipush (-4), 2) := by decide +kernel
theorem dX5_lift_12 : decode cX5_lift 12 = .ok (.ireturn, 1) := by decide +kernel
theorem dX5_lift_13 : decode cX5_lift 13 = .ok (.iload_n 1, 1) := by decide +kernel
theorem dX5_lift_14 : decode cX5_lift 14 = .ok (.iconst 1, 1) := by decide +kernel
theorem dX5_lift_15 : decode cX5_lift 15 = .ok (.if_icmp .lt 14, 3) := by decide +kernel
theorem dX5_lift_18 : decode cX5_lift 18 = .ok (.iload_n 1, 1) := by decide +kernel
theorem dX5_lift_19 : decode cX5_lift 19 = .ok (.aload_n 0, 1) := by decide +kernel
theorem dX5_lift_20 : decode cX5_lift 20 = .ok (.getfield 34, 3) := by decide +kernel
theorem dX5_lift_23 : decode cX5_lift 23 = .ok (.getfield 123, 3) := by decide +kernel
theorem dX5_lift_26 : decode cX5_lift 26 = .ok (.if_icmp .lt 5, 3) := by decide +kernel
theorem dX5_lift_29 : decode cX5_lift 29 = .ok (.iconst (-1), 1) := by decide +kernel
theorem dX5_lift_30 : decode cX5_lift 30 = .ok (.ireturn, 1) := by decide +kernel
theorem dX5_lift_31 : decode cX5_lift 31 = .ok (.aload_n 0, 1) := by decide +kernel
theorem dX5_lift_32 : decode cX5_lift 32 = .ok (.iconst 1, 1) := by decide +kernel
theorem dX5_lift_33 : decode cX5_lift 33 = .ok (.invokevirtual 156, 3) := by decide +kernel
theorem dX5_lift_36 : decode cX5_lift 36 = .ok (.istore_n 2, 1) := by decide +kernel
theorem dX5_lift_37 : decode cX5_lift 37 = .ok (.iload_n 2, 1) := by decide +kernel
theorem dX5_lift_38 : decode cX5_lift 38 = .ok (.ifCond .eq 5, 3) := by decide +kernel
theorem dX5_lift_41 : decode cX5_lift 41 = .ok (.iload_n 2, 1) := by decide +kernel
theorem dX5_lift_42 : decode cX5_lift 42 = .ok (.ireturn, 1) := by decide +kernel
theorem dX5_lift_43 : decode cX5_lift 43 = .ok (.aload_n 0, 1) := by decide +kernel
theorem dX5_lift_44 : decode cX5_lift 44 = .ok (.getfield 34, 3) := by decide +kernel
theorem dX5_lift_47 : decode cX5_lift 47 = .ok (.iconst 2, 1) := by decide +kernel
theorem dX5_lift_48 : decode cX5_lift 48 = .ok (.iload_n 1, 1) := by decide +kernel
theorem dX5_lift_49 : decode cX5_lift 49 = .ok (.iconst 0, 1) := by decide +kernel
theorem dX5_lift_50 : decode cX5_lift 50 = .ok (.iconst 0, 1) := by decide +kernel
theorem dX5_lift_51 : decode cX5_lift 51 = .ok (.invokestatic 159, 3) := by decide +kernel
theorem dX5_lift_54 : decode cX5_lift 54 = .ok (.invokevirtual 163, 3) := by decide +kernel
theorem dX5_lift_57 : decode cX5_lift 57 = .ok (.ireturn, 1) := by decide +kernel
theorem dX5_punch_0 : decode cX5_punch 0 = .ok (.aload_n 0, 1) := by decide +kernel
theorem dX5_punch_1 : decode cX5_punch 1 = .ok (.iload_n 1, 1) := by decide +kernel
theorem dX5_punch_2 : decode cX5_punch 2 = .ok (.invokevirtual 126, 3) := by decide +kernel
theorem dX5_punch_5 : decode cX5_punch 5 = .ok (.ifCond .eq 20, 3) := by decide +kernel
theorem dX5_punch_8 : decode cX5_punch 8 = .ok (.iload_n 2, 1) := by decide +kernel
theorem dX5_punch_9 : decode cX5_punch 9 = .ok (.invokestatic 153, 3) := by decide +kernel
theorem dX5_punch_12 : decode cX5_punch 12 = .ok (.ifCond .eq 13, 3) := by decide +kernel
theorem dX5_punch_15 : decode cX5_punch 15 = .ok (.iload_n 3, 1) := by decide +kernel
theorem dX5_punch_16 : decode cX5_punch 16 = .ok (.ifCond .lt 9, 3) := by decide +kernel
theorem dX5_punch_19 : decode cX5_punch 19 = .ok (.iload_n 3, 1) := by decide +kernel
theorem dX5_punch_20 : decode cX5_punch 20 = .ok (.bipush 10, 2) := by decide +kernel
theorem dX5_punch_22 : decode cX5_punch 22 = .ok (.if_icmp .lt 5, 3) := by decide +kernel
theorem dX5_punch_25 : decode cX5_punch 25 = .ok (.iconst (-1), 1) := by decide +kernel
end
section
theorem dX5_punch_26 : decode cX5_punch 26 = .ok (.ireturn, 1) := by decide +kernel
theorem dX5_punch_27 : decode cX5_punch 27 = .ok (.aload_n 0, 1) := by decide +kernel
theorem dX5_punch_28 : decode cX5_punch 28 = .ok (.getfield 34, 3) := by decide +kernel
theorem dX5_punch_31 : decode cX5_punch 31 = .ok (.iload_n 1, 1) := by decide +kernel
theorem dX5_punch_32 : decode cX5_punch 32 = .ok (.iload_n 2, 1) := by decide +kernel
theorem dX5_punch_33 : decode cX5_punch 33 = .ok (.invokevirtual 166, 3) := by decide +kernel
theorem dX5_punch_36 : decode cX5_punch 36 = .ok (.istore 4, 2) := by decide +kernel
theorem dX5_punch_38 : decode cX5_punch 38 = .ok (.iload 4, 2) := by decide +kernel
theorem dX5_punch_40 : decode cX5_punch 40 = .ok (.iload_n 3, 1) := by decide +kernel
theorem dX5_punch_41 : decode cX5_punch 41 = .ok (.if_icmp .ne 6, 3) := by decide +kernel
theorem dX5_punch_44 : decode cX5_punch 44 = .ok (.bipush (-4), 2) := by decide +kernel
theorem dX5_punch_46 : decode cX5_punch 46 = .ok (.ireturn, 1) := by decide +kernel
theorem dX5_punch_47 : decode cX5_punch 47 = .ok (.aload_n 0, 1) := by decide +kernel
theorem dX5_punch_48 : decode cX5_punch 48 = .ok (.iconst 1, 1) := by decide +kernel
theorem dX5_punch_49 : decode cX5_punch 49 = .ok (.invokevirtual 156, 3) := by decide +kernel
theorem dX5_punch_52 : decode cX5_punch 52 = .ok (.istore 5, 2) := by decide +kernel
theorem dX5_punch_54 : decode cX5_punch 54 = .ok (.iload 5, 2) := by decide +kernel
theorem dX5_punch_56 : decode cX5_punch 56 = .ok (.ifCond .eq 6, 3) := by decide +kernel
theorem dX5_punch_59 : decode cX5_punch 59 = .ok (.iload 5, 2) := by decide +kernel
theorem dX5_punch_61 : decode cX5_punch 61 = .ok (.ireturn, 1) := by decide +kernel
theorem dX5_punch_62 : decode cX5_punch 62 = .ok (.aload_n 0, 1) := by decide +kernel
theorem dX5_punch_63 : decode cX5_punch 63 = .ok (.getfield 34, 3) := by decide +kernel
theorem dX5_punch_66 : decode cX5_punch 66 = .ok (.iconst 3, 1) := by decide +kernel
theorem dX5_punch_67 : decode cX5_punch 67 = .ok (.iload_n 1, 1) := by decide +kernel
theorem dX5_punch_68 : decode cX5_punch 68 = .ok (.iload_n 2, 1) := by decide +kernel
theorem dX5_punch_69 : decode cX5_punch 69 = .ok (.iload_n 3, 1) := by decide +kernel
theorem dX5_punch_70 : decode cX5_punch 70 = .ok (.invokestatic 159, 3) := by decide +kernel
theorem dX5_punch_73 : decode cX5_punch 73 = .ok (.invokevirtual 163, 3) := by decide +kernel
theorem dX5_punch_76 : decode cX5_punch 76 = .ok (.pop, 1) := by decide +kernel
theorem dX5_punch_77 : decode cX5_punch 77 = .ok (.iload 4, 2) := by decide +kernel
theorem dX5_punch_79 : decode cX5_punch 79 = .ok (.ireturn, 1) := by decide +kernel
theorem dX5_undo_0 : decode cX5_undo 0 = .ok (.iload_n 1, 1) := by decide +kernel
theorem dX5_undo_1 : decode cX5_undo 1 = .ok (.ifCond .lt 14, 3) := by decide +kernel
theorem dX5_undo_4 : decode cX5_undo 4 = .ok (.iload_n 1, 1) := by decide +kernel
theorem dX5_undo_5 : decode cX5_undo 5 = .ok (.aload_n 0, 1) := by decide +kernel
theorem dX5_undo_6 : decode cX5_undo 6 = .ok (.getfield 34, 3) := by decide +kernel
theorem dX5_undo_9 : decode cX5_undo 9 = .ok (.getfield 169, 3) := by decide +kernel
theorem dX5_undo_12 : decode cX5_undo 12 = .ok (.if_icmp .le 5, 3) := by decide +kernel
theorem dX5_undo_15 : decode cX5_undo 15 = .ok (.iconst (-1), 1) := by decide +kernel
theorem dX5_undo_16 : decode cX5_undo 16 = .ok (.ireturn, 1) := by decide +kernel
theorem dX5_undo_17 : decode cX5_undo 17 = .ok (.aload_n 0, 1) := by decide +kernel
theorem dX5_undo_18 : decode cX5_undo 18 = .ok (.getfield 34, 3) := by decide +kernel
theorem dX5_undo_21 : decode cX5_undo 21 = .ok (.getfield 169, 3) := by decide +kernel
theorem dX5_undo_24 : decode cX5_undo 24 = .ok (.iload_n 1, 1) := by decide +kernel
theorem dX5_undo_25 : decode cX5_undo 25 = .ok (.isub, 1) := by decide +kernel
theorem dX5_undo_26 : decode cX5_undo 26 = .ok (.istore_n 2, 1) := by decide +kernel
theorem dX5_undo_27 : decode cX5_undo 27 = .ok (.aload_n 0, 1) := by decide +kernel
theorem dX5_undo_28 : decode cX5_undo 28 = .ok (.getfield 34, 3) := by decide +kernel
theorem dX5_undo_31 : decode cX5_undo 31 = .ok (.iload_n 1, 1) := by decide +kernel
theorem dX5_undo_32 : decode cX5_undo 32 = .ok (.invokevirtual 172, 3) := by decide +kernel
theorem dX5_undo_35 : decode cX5_undo 35 = .ok (.iload_n 2, 1) := by decide +kernel
theorem dX5_undo_36 : decode cX5_undo 36 = .ok (.ireturn, 1) := by decide +kernel
theorem dX5_keep_0 : decode cX5_keep 0 = .ok (.iload_n 1, 1) := by decide +kernel
theorem dX5_keep_1 : decode cX5_keep 1 = .ok (.ifCond .lt 8, 3) := by decide +kernel
theorem dX5_keep_4 : decode cX5_keep 4 = .ok (.iload_n 1, 1) := by decide +kernel
theorem dX5_keep_5 : decode cX5_keep 5 = .ok (.iconst 3, 1) := by decide +kernel
theorem dX5_keep_6 : decode cX5_keep 6 = .ok (.if_icmp .lt 5, 3) := by decide +kernel
theorem dX5_keep_9 : decode cX5_keep 9 = .ok (.iconst (-1), 1) := by decide +kernel
theorem dX5_keep_10 : decode cX5_keep 10 = .ok (.ireturn, 1) := by decide +kernel
theorem dX5_keep_11 : decode cX5_keep 11 = .ok (.aload_n 0, 1) := by decide +kernel
theorem dX5_keep_12 : decode cX5_keep 12 = .ok (.getfield 34, 3) := by decide +kernel
theorem dX5_keep_15 : decode cX5_keep 15 = .ok (.getfield 123, 3) := by decide +kernel
theorem dX5_keep_18 : decode cX5_keep 18 = .ok (.ifCond .ne 6, 3) := by decide +kernel
theorem dX5_keep_21 : decode cX5_keep 21 = .ok (.bipush (-4), 2) := by decide +kernel
theorem dX5_keep_23 : decode cX5_keep 23 = .ok (.ireturn, 1) := by decide +kernel
theorem dX5_keep_24 : decode cX5_keep 24 = .ok (.aload_n 0, 1) := by decide +kernel
theorem dX5_keep_25 : decode cX5_keep 25 = .ok (.getfield 21, 3) := by decide +kernel
theorem dX5_keep_28 : decode cX5_keep 28 = .ok (.iload_n 1, 1) := by decide +kernel
theorem dX5_keep_29 : decode cX5_keep 29 = .ok (.aload_n 0, 1) := by decide +kernel
theorem dX5_keep_30 : decode cX5_keep 30 = .ok (.getfield 34, 3) := by decide +kernel
theorem dX5_keep_33 : decode cX5_keep 33 = .ok (.getfield 169, 3) := by decide +kernel
theorem dX5_keep_36 : decode cX5_keep 36 = .ok (.iconst 0, 1) := by decide +kernel
theorem dX5_keep_37 : decode cX5_keep 37 = .ok (.invokevirtual 78, 3) := by decide +kernel
theorem dX5_keep_40 : decode cX5_keep 40 = .ok (.iconst 0, 1) := by decide +kernel
theorem dX5_keep_41 : decode cX5_keep 41 = .ok (.istore_n 2, 1) := by decide +kernel
theorem dX5_keep_42 : decode cX5_keep 42 = .ok (.iload_n 2, 1) := by decide +kernel
theorem dX5_keep_43 : decode cX5_keep 43 = .ok (.aload_n 0, 1) := by decide +kernel
theorem dX5_keep_44 : decode cX5_keep 44 = .ok (.getfield 34, 3) := by decide +kernel
theorem dX5_keep_47 : decode cX5_keep 47 = .ok (.getfield 169, 3) := by decide +kernel
theorem dX5_keep_50 : decode cX5_keep 50 = .ok (.if_icmp .ge 27, 3) := by decide +kernel
theorem dX5_keep_53 : decode cX5_keep 53 = .ok (.aload_n 0, 1) := by decide +kernel
theorem dX5_keep_54 : decode cX5_keep 54 = .ok (.getfield 21, 3) := by decide +kernel
theorem dX5_keep_57 : decode cX5_keep 57 = .ok (.iload_n 1, 1) := by decide +kernel
theorem dX5_keep_58 : decode cX5_keep 58 = .ok (.iload_n 2, 1) := by decide +kernel
theorem dX5_keep_59 : decode cX5_keep 59 = .ok (.aload_n 0, 1) := by decide +kernel
theorem dX5_keep_60 : decode cX5_keep 60 = .ok (.getfield 34, 3) := by decide +kernel
theorem dX5_keep_63 : decode cX5_keep 63 = .ok (.getfield 175, 3) := by decide +kernel
theorem dX5_keep_66 : decode cX5_keep 66 = .ok (.iload_n 2, 1) := by decide +kernel
theorem dX5_keep_67 : decode cX5_keep 67 = .ok (.iaload, 1) := by decide +kernel
theorem dX5_keep_68 : decode cX5_keep 68 = .ok (.invokevirtual 89, 3) := by decide +kernel
theorem dX5_keep_71 : decode cX5_keep 71 = .ok (.iinc 2 1, 3) := by decide +kernel
theorem dX5_keep_74 : decode cX5_keep 74 = .ok (.goto (-32), 3) := by decide +kernel
theorem dX5_keep_77 : decode cX5_keep 77 = .ok (.aload_n 0, 1) := by decide +kernel
theorem dX5_keep_78 : decode cX5_keep 78 = .ok (.getfield 34, 3) := by decide +kernel
theorem dX5_keep_81 : decode cX5_keep 81 = .ok (.getfield 169, 3) := by decide +kernel
theorem dX5_keep_84 : decode cX5_keep 84 = .ok (.ireturn, 1) := by decide +kernel
theorem dX5_on_0 : decode cX5_on 0 = .ok (.iload_n 1, 1) := by decide +kernel
theorem dX5_on_1 : decode cX5_on 1 = .ok (.ifCond .lt 8, 3) := by decide +kernel
theorem dX5_on_4 : decode cX5_on 4 = .ok (.iload_n 1, 1) := by decide +kernel
theorem dX5_on_5 : decode cX5_on 5 = .ok (.iconst 3, 1) := by decide +kernel
theorem dX5_on_6 : decode cX5_on 6 = .ok (.if_icmp .lt 5, 3) := by decide +kernel
theorem dX5_on_9 : decode cX5_on 9 = .ok (.iconst (-1), 1) := by decide +kernel
theorem dX5_on_10 : decode cX5_on 10 = .ok (.ireturn, 1) := by decide +kernel
theorem dX5_on_11 : decode cX5_on 11 = .ok (.aload_n 0, 1) := by decide +kernel
theorem dX5_on_12 : decode cX5_on 12 = .ok (.getfield 21, 3) := by decide +kernel
theorem dX5_on_15 : decode cX5_on 15 = .ok (.iload_n 1, 1) := by decide +kernel
theorem dX5_on_16 : decode cX5_on 16 = .ok (.invokevirtual 99, 3) := by decide +kernel
theorem dX5_on_19 : decode cX5_on 19 = .ok (.ifCond .ne 9, 3) := by decide +kernel
theorem dX5_on_22 : decode cX5_on 22 = .ok (.aload_n 0, 1) := by decide +kernel
theorem dX5_on_23 : decode cX5_on 23 = .ok (.iconst 1, 1) := by decide +kernel
theorem dX5_on_24 : decode cX5_on 24 = .ok (.invokevirtual 74, 3) := by decide +kernel
theorem dX5_on_27 : decode cX5_on 27 = .ok (.ireturn, 1) := by decide +kernel
theorem dX5_on_28 : decode cX5_on 28 = .ok (.aload_n 0, 1) := by decide +kernel
theorem dX5_on_29 : decode cX5_on 29 = .ok (.getfield 21, 3) := by decide +kernel
theorem dX5_on_32 : decode cX5_on 32 = .ok (.iload_n 1, 1) := by decide +kernel
theorem dX5_on_33 : decode cX5_on 33 = .ok (.invokevirtual 106, 3) := by decide +kernel
theorem dX5_on_36 : decode cX5_on 36 = .ok (.istore_n 2, 1) := by decide +kernel
theorem dX5_on_37 : decode cX5_on 37 = .ok (.iconst 0, 1) := by decide +kernel
theorem dX5_on_38 : decode cX5_on 38 = .ok (.istore_n 3, 1) := by decide +kernel
theorem dX5_on_39 : decode cX5_on 39 = .ok (.iload_n 3, 1) := by decide +kernel
theorem dX5_on_40 : decode cX5_on 40 = .ok (.iload_n 2, 1) := by decide +kernel
theorem dX5_on_41 : decode cX5_on 41 = .ok (.if_icmp .ge 27, 3) := by decide +kernel
theorem dX5_on_44 : decode cX5_on 44 = .ok (.aload_n 0, 1) := by decide +kernel
theorem dX5_on_45 : decode cX5_on 45 = .ok (.getfield 34, 3) := by decide +kernel
theorem dX5_on_48 : decode cX5_on 48 = .ok (.getfield 175, 3) := by decide +kernel
theorem dX5_on_51 : decode cX5_on 51 = .ok (.iload_n 3, 1) := by decide +kernel
theorem dX5_on_52 : decode cX5_on 52 = .ok (.aload_n 0, 1) := by decide +kernel
theorem dX5_on_53 : decode cX5_on 53 = .ok (.getfield 21, 3) := by decide +kernel
theorem dX5_on_56 : decode cX5_on 56 = .ok (.iload_n 1, 1) := by decide +kernel
theorem dX5_on_57 : decode cX5_on 57 = .ok (.iload_n 3, 1) := by decide +kernel
theorem dX5_on_58 : decode cX5_on 58 = .ok (.invokevirtual 86, 3) := by decide +kernel
theorem dX5_on_61 : decode cX5_on 61 = .ok (.iastore, 1) := by decide +kernel
theorem dX5_on_62 : decode cX5_on 62 = .ok (.iinc 3 1, 3) := by decide +kernel
theorem dX5_on_65 : decode cX5_on 65 = .ok (.goto (-26), 3) := by decide +kernel
theorem dX5_on_68 : decode cX5_on 68 = .ok (.aload_n 0, 1) := by decide +kernel
theorem dX5_on_69 : decode cX5_on 69 = .ok (.getfield 34, 3) := by decide +kernel
theorem dX5_on_72 : decode cX5_on 72 = .ok (.iload_n 2, 1) := by decide +kernel
theorem dX5_on_73 : decode cX5_on 73 = .ok (.invokevirtual 172, 3) := by decide +kernel
theorem dX5_on_76 : decode cX5_on 76 = .ok (.iload_n 2, 1) := by decide +kernel
theorem dX5_on_77 : decode cX5_on 77 = .ok (.ireturn, 1) := by decide +kernel
theorem dX5_pocket_0 : decode cX5_pocket 0 = .ok (.aload_n 0, 1) := by decide +kernel
theorem dX5_pocket_1 : decode cX5_pocket 1 = .ok (.iload_n 1, 1) := by decide +kernel
theorem dX5_pocket_2 : decode cX5_pocket 2 = .ok (.invokevirtual 126, 3) := by decide +kernel
theorem dX5_pocket_5 : decode cX5_pocket 5 = .ok (.ifCond .eq 20, 3) := by decide +kernel
theorem dX5_pocket_8 : decode cX5_pocket 8 = .ok (.iload_n 2, 1) := by decide +kernel
theorem dX5_pocket_9 : decode cX5_pocket 9 = .ok (.invokestatic 153, 3) := by decide +kernel
theorem dX5_pocket_12 : decode cX5_pocket 12 = .ok (.ifCond .eq 13, 3) := by decide +kernel
theorem dX5_pocket_15 : decode cX5_pocket 15 = .ok (.iload_n 3, 1) := by decide +kernel
theorem dX5_pocket_16 : decode cX5_pocket 16 = .ok (.ifCond .lt 9, 3) := by decide +kernel
theorem dX5_pocket_19 : decode cX5_pocket 19 = .ok (.iload_n 3, 1) := by decide +kernel
theorem dX5_pocket_20 : decode cX5_pocket 20 = .ok (.bipush 60, 2) := by decide +kernel
theorem dX5_pocket_22 : decode cX5_pocket 22 = .ok (.if_icmp .le 5, 3) := by decide +kernel
theorem dX5_pocket_25 : decode cX5_pocket 25 = .ok (.iconst (-1), 1) := by decide +kernel
theorem dX5_pocket_26 : decode cX5_pocket 26 = .ok (.ireturn, 1) := by decide +kernel
theorem dX5_pocket_27 : decode cX5_pocket 27 = .ok (.aload_n 0, 1) := by decide +kernel
theorem dX5_pocket_28 : decode cX5_pocket 28 = .ok (.getfield 34, 3) := by decide +kernel
theorem dX5_pocket_31 : decode cX5_pocket 31 = .ok (.iload_n 1, 1) := by decide +kernel
theorem dX5_pocket_32 : decode cX5_pocket 32 = .ok (.iload_n 2, 1) := by decide +kernel
theorem dX5_pocket_33 : decode cX5_pocket 33 = .ok (.iload_n 3, 1) := by decide +kernel
theorem dX5_pocket_34 : decode cX5_pocket 34 = .ok (.invokevirtual 178, 3) := by decide +kernel
theorem dX5_pocket_37 : decode cX5_pocket 37 = .ok (.ireturn, 1) := by decide +kernel
theorem dX5_run_0 : decode cX5_run 0 = .ok (.iload_n 1, 1) := by decide +kernel
theorem dX5_run_1 : decode cX5_run 1 = .ok (.invokestatic 70, 3) := by decide +kernel
theorem dX5_run_4 : decode cX5_run 4 = .ok (.ifCond .eq 10, 3) := by decide +kernel
theorem dX5_run_7 : decode cX5_run 7 = .ok (.iload_n 2, 1) := by decide +kernel
theorem dX5_run_8 : decode cX5_run 8 = .ok (.invokestatic 70, 3) := by decide +kernel
theorem dX5_run_11 : decode cX5_run 11 = .ok (.ifCond .ne 5, 3) := by decide +kernel
theorem dX5_run_14 : decode cX5_run 14 = .ok (.iconst (-1), 1) := by decide +kernel
theorem dX5_run_15 : decode cX5_run 15 = .ok (.ireturn, 1) := by decide +kernel
theorem dX5_run_16 : decode cX5_run 16 = .ok (.aload_n 0, 1) := by decide +kernel
theorem dX5_run_17 : decode cX5_run 17 = .ok (.getfield 34, 3) := by decide +kernel
theorem dX5_run_20 : decode cX5_run 20 = .ok (.getfield 123, 3) := by decide +kernel
theorem dX5_run_23 : decode cX5_run 23 = .ok (.ifCond .ne 6, 3) := by decide +kernel
theorem dX5_run_26 : decode cX5_run 26 = .ok (.bipush (-4), 2) := by decide +kernel
theorem dX5_run_28 : decode cX5_run 28 = .ok (.ireturn, 1) := by decide +kernel
theorem dX5_run_29 : decode cX5_run 29 = .ok (.aload_n 0, 1) := by decide +kernel
theorem dX5_run_30 : decode cX5_run 30 = .ok (.getfield 14, 3) := by decide +kernel
theorem dX5_run_33 : decode cX5_run 33 = .ok (.iload_n 1, 1) := by decide +kernel
theorem dX5_run_34 : decode cX5_run 34 = .ok (.invokevirtual 99, 3) := by decide +kernel
theorem dX5_run_37 : decode cX5_run 37 = .ok (.ifCond .ne 9, 3) := by decide +kernel
theorem dX5_run_40 : decode cX5_run 40 = .ok (.aload_n 0, 1) := by decide +kernel
theorem dX5_run_41 : decode cX5_run 41 = .ok (.iconst 1, 1) := by decide +kernel
theorem dX5_run_42 : decode cX5_run 42 = .ok (.invokevirtual 74, 3) := by decide +kernel
theorem dX5_run_45 : decode cX5_run 45 = .ok (.ireturn, 1) := by decide +kernel
theorem dX5_run_46 : decode cX5_run 46 = .ok (.aload_n 0, 1) := by decide +kernel
theorem dX5_run_47 : decode cX5_run 47 = .ok (.getfield 14, 3) := by decide +kernel
theorem dX5_run_50 : decode cX5_run 50 = .ok (.iload_n 1, 1) := by decide +kernel
theorem dX5_run_51 : decode cX5_run 51 = .ok (.invokevirtual 106, 3) := by decide +kernel
theorem dX5_run_54 : decode cX5_run 54 = .ok (.bipush 10, 2) := by decide +kernel
theorem dX5_run_56 : decode cX5_run 56 = .ok (.if_icmp .le 9, 3) := by decide +kernel
theorem dX5_run_59 : decode cX5_run 59 = .ok (.aload_n 0, 1) := by decide +kernel
theorem dX5_run_60 : decode cX5_run 60 = .ok (.iconst 5, 1) := by decide +kernel
theorem dX5_run_61 : decode cX5_run 61 = .ok (.invokevirtual 74, 3) := by decide +kernel
theorem dX5_run_64 : decode cX5_run 64 = .ok (.ireturn, 1) := by decide +kernel
theorem dX5_run_65 : decode cX5_run 65 = .ok (.aload_n 0, 1) := by decide +kernel
theorem dX5_run_66 : decode cX5_run 66 = .ok (.iload_n 1, 1) := by decide +kernel
theorem dX5_run_67 : decode cX5_run 67 = .ok (.invokevirtual 182, 3) := by decide +kernel
theorem dX5_run_70 : decode cX5_run 70 = .ok (.ifCond .ne 9, 3) := by decide +kernel
theorem dX5_run_73 : decode cX5_run 73 = .ok (.aload_n 0, 1) := by decide +kernel
theorem dX5_run_74 : decode cX5_run 74 = .ok (.iconst 3, 1) := by decide +kernel
theorem dX5_run_75 : decode cX5_run 75 = .ok (.invokevirtual 74, 3) := by decide +kernel
theorem dX5_run_78 : decode cX5_run 78 = .ok (.ireturn, 1) := by decide +kernel
theorem dX5_run_79 : decode cX5_run 79 = .ok (.aload_n 0, 1) := by decide +kernel
theorem dX5_run_80 : decode cX5_run 80 = .ok (.getfield 41, 3) := by decide +kernel
theorem dX5_run_83 : decode cX5_run 83 = .ok (.aload_n 0, 1) := by decide +kernel
theorem dX5_run_84 : decode cX5_run 84 = .ok (.getfield 34, 3) := by decide +kernel
theorem dX5_run_87 : decode cX5_run 87 = .ok (.aload_n 0, 1) := by decide +kernel
theorem dX5_run_88 : decode cX5_run 88 = .ok (.getfield 14, 3) := by decide +kernel
theorem dX5_run_91 : decode cX5_run 91 = .ok (.iload_n 1, 1) := by decide +kernel
theorem dX5_run_92 : decode cX5_run 92 = .ok (.invokevirtual 185, 3) := by decide +kernel
theorem dX5_run_95 : decode cX5_run 95 = .ok (.astore_n 3, 1) := by decide +kernel
theorem dX5_run_96 : decode cX5_run 96 = .ok (.aload_n 0, 1) := by decide +kernel
theorem dX5_run_97 : decode cX5_run 97 = .ok (.getfield 14, 3) := by decide +kernel
theorem dX5_run_100 : decode cX5_run 100 = .ok (.iload_n 2, 1) := by decide +kernel
theorem dX5_run_101 : decode cX5_run 101 = .ok (.aload_n 3, 1) := by decide +kernel
theorem dX5_run_102 : decode cX5_run 102 = .ok (.aload_n 0, 1) := by decide +kernel
theorem dX5_run_103 : decode cX5_run 103 = .ok (.getfield 34, 3) := by decide +kernel
theorem dX5_run_106 : decode cX5_run 106 = .ok (.getfield 123, 3) := by decide +kernel
theorem dX5_run_109 : decode cX5_run 109 = .ok (.invokevirtual 189, 3) := by decide +kernel
theorem dX5_run_112 : decode cX5_run 112 = .ok (.aload_n 3, 1) := by decide +kernel
theorem dX5_run_113 : decode cX5_run 113 = .ok (.iconst 0, 1) := by decide +kernel
theorem dX5_run_114 : decode cX5_run 114 = .ok (.iaload, 1) := by decide +kernel
theorem dX5_run_115 : decode cX5_run 115 = .ok (.ireturn, 1) := by decide +kernel
theorem dX5_fewest_0 : decode cX5_fewest 0 = .ok (.aload_n 0, 1) := by decide +kernel
theorem dX5_fewest_1 : decode cX5_fewest 1 = .ok (.iload_n 1, 1) := by decide +kernel
theorem dX5_fewest_2 : decode cX5_fewest 2 = .ok (.invokevirtual 126, 3) := by decide +kernel
theorem dX5_fewest_5 : decode cX5_fewest 5 = .ok (.ifCond .eq 18, 3) := by decide +kernel
theorem dX5_fewest_8 : decode cX5_fewest 8 = .ok (.aload_n 0, 1) := by decide +kernel
theorem dX5_fewest_9 : decode cX5_fewest 9 = .ok (.iload_n 2, 1) := by decide +kernel
theorem dX5_fewest_10 : decode cX5_fewest 10 = .ok (.invokevirtual 126, 3) := by decide +kernel
theorem dX5_fewest_13 : decode cX5_fewest 13 = .ok (.ifCond .eq 10, 3) := by decide +kernel
theorem dX5_fewest_16 : decode cX5_fewest 16 = .ok (.iload_n 3, 1) := by decide +kernel
theorem dX5_fewest_17 : decode cX5_fewest 17 = .ok (.invokestatic 70, 3) := by decide +kernel
theorem dX5_fewest_20 : decode cX5_fewest 20 = .ok (.ifCond .ne 5, 3) := by decide +kernel
theorem dX5_fewest_23 : decode cX5_fewest 23 = .ok (.iconst (-1), 1) := by decide +kernel
theorem dX5_fewest_24 : decode cX5_fewest 24 = .ok (.ireturn, 1) := by decide +kernel
theorem dX5_fewest_25 : decode cX5_fewest 25 = .ok (.aload_n 0, 1) := by decide +kernel
theorem dX5_fewest_26 : decode cX5_fewest 26 = .ok (.getfield 41, 3) := by decide +kernel
theorem dX5_fewest_29 : decode cX5_fewest 29 = .ok (.iload_n 1, 1) := by decide +kernel
theorem dX5_fewest_30 : decode cX5_fewest 30 = .ok (.iload_n 2, 1) := by decide +kernel
theorem dX5_fewest_31 : decode cX5_fewest 31 = .ok (.invokevirtual 193, 3) := by decide +kernel
theorem dX5_fewest_34 : decode cX5_fewest 34 = .ok (.aload_n 0, 1) := by decide +kernel
theorem dX5_fewest_35 : decode cX5_fewest 35 = .ok (.iload_n 3, 1) := by decide +kernel
theorem dX5_fewest_36 : decode cX5_fewest 36 = .ok (.invokevirtual 196, 3) := by decide +kernel
theorem dX5_fewest_39 : decode cX5_fewest 39 = .ok (.ireturn, 1) := by decide +kernel
theorem dX5_order_0 : decode cX5_order 0 = .ok (.iload_n 1, 1) := by decide +kernel
theorem dX5_order_1 : decode cX5_order 1 = .ok (.invokestatic 153, 3) := by decide +kernel
theorem dX5_order_4 : decode cX5_order 4 = .ok (.ifCond .eq 10, 3) := by decide +kernel
theorem dX5_order_7 : decode cX5_order 7 = .ok (.iload_n 2, 1) := by decide +kernel
theorem dX5_order_8 : decode cX5_order 8 = .ok (.invokestatic 70, 3) := by decide +kernel
theorem dX5_order_11 : decode cX5_order 11 = .ok (.ifCond .ne 5, 3) := by decide +kernel
theorem dX5_order_14 : decode cX5_order 14 = .ok (.iconst (-1), 1) := by decide +kernel
theorem dX5_order_15 : decode cX5_order 15 = .ok (.ireturn, 1) := by decide +kernel
theorem dX5_order_16 : decode cX5_order 16 = .ok (.aload_n 0, 1) := by decide +kernel
theorem dX5_order_17 : decode cX5_order 17 = .ok (.getfield 34, 3) := by decide +kernel
theorem dX5_order_20 : decode cX5_order 20 = .ok (.getfield 123, 3) := by decide +kernel
theorem dX5_order_23 : decode cX5_order 23 = .ok (.ifCond .ne 6, 3) := by decide +kernel
theorem dX5_order_26 : decode cX5_order 26 = .ok (.bipush (-4), 2) := by decide +kernel
theorem dX5_order_28 : decode cX5_order 28 = .ok (.ireturn, 1) := by decide +kernel
theorem dX5_order_29 : decode cX5_order 29 = .ok (.aload_n 0, 1) := by decide +kernel
theorem dX5_order_30 : decode cX5_order 30 = .ok (.getfield 41, 3) := by decide +kernel
theorem dX5_order_33 : decode cX5_order 33 = .ok (.iload_n 1, 1) := by decide +kernel
theorem dX5_order_34 : decode cX5_order 34 = .ok (.invokevirtual 199, 3) := by decide +kernel
theorem dX5_order_37 : decode cX5_order 37 = .ok (.aload_n 0, 1) := by decide +kernel
theorem dX5_order_38 : decode cX5_order 38 = .ok (.iload_n 2, 1) := by decide +kernel
theorem dX5_order_39 : decode cX5_order 39 = .ok (.invokevirtual 196, 3) := by decide +kernel
theorem dX5_order_42 : decode cX5_order 42 = .ok (.ireturn, 1) := by decide +kernel
theorem dX5_columns_0 : decode cX5_columns 0 = .ok (.iload_n 1, 1) := by decide +kernel
theorem dX5_columns_1 : decode cX5_columns 1 = .ok (.invokestatic 70, 3) := by decide +kernel
theorem dX5_columns_4 : decode cX5_columns 4 = .ok (.ifCond .ne 5, 3) := by decide +kernel
theorem dX5_columns_7 : decode cX5_columns 7 = .ok (.iconst (-1), 1) := by decide +kernel
theorem dX5_columns_8 : decode cX5_columns 8 = .ok (.ireturn, 1) := by decide +kernel
theorem dX5_columns_9 : decode cX5_columns 9 = .ok (.aload_n 0, 1) := by decide +kernel
theorem dX5_columns_10 : decode cX5_columns 10 = .ok (.getfield 34, 3) := by decide +kernel
theorem dX5_columns_13 : decode cX5_columns 13 = .ok (.getfield 123, 3) := by decide +kernel
theorem dX5_columns_16 : decode cX5_columns 16 = .ok (.ifCond .ne 6, 3) := by decide +kernel
theorem dX5_columns_19 : decode cX5_columns 19 = .ok (.bipush (-4), 2) := by decide +kernel
theorem dX5_columns_21 : decode cX5_columns 21 = .ok (.ireturn, 1) := by decide +kernel
theorem dX5_columns_22 : decode cX5_columns 22 = .ok (.aload_n 0, 1) := by decide +kernel
theorem dX5_columns_23 : decode cX5_columns 23 = .ok (.getfield 14, 3) := by decide +kernel
theorem dX5_columns_26 : decode cX5_columns 26 = .ok (.iload_n 1, 1) := by decide +kernel
theorem dX5_columns_27 : decode cX5_columns 27 = .ok (.invokevirtual 99, 3) := by decide +kernel
theorem dX5_columns_30 : decode cX5_columns 30 = .ok (.ifCond .ne 9, 3) := by decide +kernel
theorem dX5_columns_33 : decode cX5_columns 33 = .ok (.aload_n 0, 1) := by decide +kernel
theorem dX5_columns_34 : decode cX5_columns 34 = .ok (.iconst 1, 1) := by decide +kernel
theorem dX5_columns_35 : decode cX5_columns 35 = .ok (.invokevirtual 74, 3) := by decide +kernel
theorem dX5_columns_38 : decode cX5_columns 38 = .ok (.ireturn, 1) := by decide +kernel
theorem dX5_columns_39 : decode cX5_columns 39 = .ok (.aload_n 0, 1) := by decide +kernel
theorem dX5_columns_40 : decode cX5_columns 40 = .ok (.getfield 14, 3) := by decide +kernel
theorem dX5_columns_43 : decode cX5_columns 43 = .ok (.iload_n 1, 1) := by decide +kernel
theorem dX5_columns_44 : decode cX5_columns 44 = .ok (.invokevirtual 106, 3) := by decide +kernel
theorem dX5_columns_47 : decode cX5_columns 47 = .ok (.aload_n 0, 1) := by decide +kernel
theorem dX5_columns_48 : decode cX5_columns 48 = .ok (.getfield 34, 3) := by decide +kernel
theorem dX5_columns_51 : decode cX5_columns 51 = .ok (.getfield 123, 3) := by decide +kernel
theorem dX5_columns_54 : decode cX5_columns 54 = .ok (.if_icmp .eq 9, 3) := by decide +kernel
theorem dX5_columns_57 : decode cX5_columns 57 = .ok (.aload_n 0, 1) := by decide +kernel
theorem dX5_columns_58 : decode cX5_columns 58 = .ok (.iconst 5, 1) := by decide +kernel
theorem dX5_columns_59 : decode cX5_columns 59 = .ok (.invokevirtual 74, 3) := by decide +kernel
theorem dX5_columns_62 : decode cX5_columns 62 = .ok (.ireturn, 1) := by decide +kernel
theorem dX5_columns_63 : decode cX5_columns 63 = .ok (.aload_n 0, 1) := by decide +kernel
theorem dX5_columns_64 : decode cX5_columns 64 = .ok (.iload_n 1, 1) := by decide +kernel
theorem dX5_columns_65 : decode cX5_columns 65 = .ok (.invokevirtual 202, 3) := by decide +kernel
theorem dX5_columns_68 : decode cX5_columns 68 = .ok (.ifCond .ne 9, 3) := by decide +kernel
theorem dX5_columns_71 : decode cX5_columns 71 = .ok (.aload_n 0, 1) := by decide +kernel
theorem dX5_columns_72 : decode cX5_columns 72 = .ok (.iconst 3, 1) := by decide +kernel
theorem dX5_columns_73 : decode cX5_columns 73 = .ok (.invokevirtual 74, 3) := by decide +kernel
theorem dX5_columns_76 : decode cX5_columns 76 = .ok (.ireturn, 1) := by decide +kernel
theorem dX5_columns_77 : decode cX5_columns 77 = .ok (.iconst 0, 1) := by decide +kernel
theorem dX5_columns_78 : decode cX5_columns 78 = .ok (.istore_n 2, 1) := by decide +kernel
theorem dX5_columns_79 : decode cX5_columns 79 = .ok (.iconst 0, 1) := by decide +kernel
theorem dX5_columns_80 : decode cX5_columns 80 = .ok (.istore_n 3, 1) := by decide +kernel
theorem dX5_columns_81 : decode cX5_columns 81 = .ok (.iload_n 3, 1) := by decide +kernel
theorem dX5_columns_82 : decode cX5_columns 82 = .ok (.iconst 3, 1) := by decide +kernel
theorem dX5_columns_83 : decode cX5_columns 83 = .ok (.if_icmp .ge 36, 3) := by decide +kernel
theorem dX5_columns_86 : decode cX5_columns 86 = .ok (.aload_n 0, 1) := by decide +kernel
theorem dX5_columns_87 : decode cX5_columns 87 = .ok (.iload_n 1, 1) := by decide +kernel
theorem dX5_columns_88 : decode cX5_columns 88 = .ok (.aload_n 0, 1) := by decide +kernel
theorem dX5_columns_89 : decode cX5_columns 89 = .ok (.getfield 41, 3) := by decide +kernel
theorem dX5_columns_92 : decode cX5_columns 92 = .ok (.aload_n 0, 1) := by decide +kernel
theorem dX5_columns_93 : decode cX5_columns 93 = .ok (.getfield 34, 3) := by decide +kernel
theorem dX5_columns_96 : decode cX5_columns 96 = .ok (.iload_n 3, 1) := by decide +kernel
theorem dX5_columns_97 : decode cX5_columns 97 = .ok (.iconst 0, 1) := by decide +kernel
theorem dX5_columns_98 : decode cX5_columns 98 = .ok (.invokevirtual 205, 3) := by decide +kernel
theorem dX5_columns_101 : decode cX5_columns 101 = .ok (.invokevirtual 209, 3) := by decide +kernel
theorem dX5_columns_104 : decode cX5_columns 104 = .ok (.ifCond .eq 9, 3) := by decide +kernel
theorem dX5_columns_107 : decode cX5_columns 107 = .ok (.iload_n 2, 1) := by decide +kernel
theorem dX5_columns_108 : decode cX5_columns 108 = .ok (.iconst 1, 1) := by decide +kernel
theorem dX5_columns_109 : decode cX5_columns 109 = .ok (.iload_n 3, 1) := by decide +kernel
theorem dX5_columns_110 : decode cX5_columns 110 = .ok (.ishl, 1) := by decide +kernel
theorem dX5_columns_111 : decode cX5_columns 111 = .ok (.ior, 1) := by decide +kernel
theorem dX5_columns_112 : decode cX5_columns 112 = .ok (.istore_n 2, 1) := by decide +kernel
theorem dX5_columns_113 : decode cX5_columns 113 = .ok (.iinc 3 1, 3) := by decide +kernel
theorem dX5_columns_116 : decode cX5_columns 116 = .ok (.goto (-35), 3) := by decide +kernel
theorem dX5_columns_119 : decode cX5_columns 119 = .ok (.iload_n 2, 1) := by decide +kernel
theorem dX5_columns_120 : decode cX5_columns 120 = .ok (.ireturn, 1) := by decide +kernel
theorem dX5_kinds_0 : decode cX5_kinds 0 = .ok (.aload_n 0, 1) := by decide +kernel
theorem dX5_kinds_1 : decode cX5_kinds 1 = .ok (.iload_n 1, 1) := by decide +kernel
theorem dX5_kinds_2 : decode cX5_kinds 2 = .ok (.iconst 0, 1) := by decide +kernel
theorem dX5_kinds_3 : decode cX5_kinds 3 = .ok (.iload_n 2, 1) := by decide +kernel
theorem dX5_kinds_4 : decode cX5_kinds 4 = .ok (.invokevirtual 213, 3) := by decide +kernel
theorem dX5_kinds_7 : decode cX5_kinds 7 = .ok (.istore_n 3, 1) := by decide +kernel
theorem dX5_kinds_8 : decode cX5_kinds 8 = .ok (.iload_n 3, 1) := by decide +kernel
theorem dX5_kinds_9 : decode cX5_kinds 9 = .ok (.ifCond .eq 5, 3) := by decide +kernel
theorem dX5_kinds_12 : decode cX5_kinds 12 = .ok (.iload_n 3, 1) := by decide +kernel
theorem dX5_kinds_13 : decode cX5_kinds 13 = .ok (.ireturn, 1) := by decide +kernel
theorem dX5_kinds_14 : decode cX5_kinds 14 = .ok (.aload_n 0, 1) := by decide +kernel
theorem dX5_kinds_15 : decode cX5_kinds 15 = .ok (.getfield 48, 3) := by decide +kernel
theorem dX5_kinds_18 : decode cX5_kinds 18 = .ok (.aload_n 0, 1) := by decide +kernel
theorem dX5_kinds_19 : decode cX5_kinds 19 = .ok (.getfield 34, 3) := by decide +kernel
theorem dX5_kinds_22 : decode cX5_kinds 22 = .ok (.iload_n 1, 1) := by decide +kernel
theorem dX5_kinds_23 : decode cX5_kinds 23 = .ok (.aload_n 0, 1) := by decide +kernel
theorem dX5_kinds_24 : decode cX5_kinds 24 = .ok (.getfield 14, 3) := by decide +kernel
theorem dX5_kinds_27 : decode cX5_kinds 27 = .ok (.iload_n 2, 1) := by decide +kernel
theorem dX5_kinds_28 : decode cX5_kinds 28 = .ok (.invokevirtual 216, 3) := by decide +kernel
theorem dX5_kinds_31 : decode cX5_kinds 31 = .ok (.ireturn, 1) := by decide +kernel
theorem dX5_figures_0 : decode cX5_figures 0 = .ok (.aload_n 0, 1) := by decide +kernel
theorem dX5_figures_1 : decode cX5_figures 1 = .ok (.iload_n 1, 1) := by decide +kernel
theorem dX5_figures_2 : decode cX5_figures 2 = .ok (.iload_n 2, 1) := by decide +kernel
theorem dX5_figures_3 : decode cX5_figures 3 = .ok (.iload_n 3, 1) := by decide +kernel
theorem dX5_figures_4 : decode cX5_figures 4 = .ok (.invokevirtual 213, 3) := by decide +kernel
theorem dX5_figures_7 : decode cX5_figures 7 = .ok (.istore 4, 2) := by decide +kernel
theorem dX5_figures_9 : decode cX5_figures 9 = .ok (.iload 4, 2) := by decide +kernel
theorem dX5_figures_11 : decode cX5_figures 11 = .ok (.ifCond .eq 6, 3) := by decide +kernel
theorem dX5_figures_14 : decode cX5_figures 14 = .ok (.iload 4, 2) := by decide +kernel
theorem dX5_figures_16 : decode cX5_figures 16 = .ok (.ireturn, 1) := by decide +kernel
theorem dX5_figures_17 : decode cX5_figures 17 = .ok (.aload_n 0, 1) := by decide +kernel
theorem dX5_figures_18 : decode cX5_figures 18 = .ok (.getfield 48, 3) := by decide +kernel
theorem dX5_figures_21 : decode cX5_figures 21 = .ok (.aload_n 0, 1) := by decide +kernel
theorem dX5_figures_22 : decode cX5_figures 22 = .ok (.getfield 34, 3) := by decide +kernel
theorem dX5_figures_25 : decode cX5_figures 25 = .ok (.iload_n 1, 1) := by decide +kernel
theorem dX5_figures_26 : decode cX5_figures 26 = .ok (.iload_n 2, 1) := by decide +kernel
theorem dX5_figures_27 : decode cX5_figures 27 = .ok (.aload_n 0, 1) := by decide +kernel
theorem dX5_figures_28 : decode cX5_figures 28 = .ok (.getfield 14, 3) := by decide +kernel
theorem dX5_figures_31 : decode cX5_figures 31 = .ok (.iload_n 3, 1) := by decide +kernel
theorem dX5_figures_32 : decode cX5_figures 32 = .ok (.invokevirtual 220, 3) := by decide +kernel
theorem dX5_figures_35 : decode cX5_figures 35 = .ok (.ireturn, 1) := by decide +kernel
theorem dX5_next_0 : decode cX5_next 0 = .ok (.aload_n 0, 1) := by decide +kernel
theorem dX5_next_1 : decode cX5_next 1 = .ok (.iload_n 1, 1) := by decide +kernel
theorem dX5_next_2 : decode cX5_next 2 = .ok (.iconst 0, 1) := by decide +kernel
theorem dX5_next_3 : decode cX5_next 3 = .ok (.iload_n 2, 1) := by decide +kernel
theorem dX5_next_4 : decode cX5_next 4 = .ok (.invokevirtual 213, 3) := by decide +kernel
theorem dX5_next_7 : decode cX5_next 7 = .ok (.istore_n 3, 1) := by decide +kernel
theorem dX5_next_8 : decode cX5_next 8 = .ok (.iload_n 3, 1) := by decide +kernel
theorem dX5_next_9 : decode cX5_next 9 = .ok (.ifCond .eq 5, 3) := by decide +kernel
theorem dX5_next_12 : decode cX5_next 12 = .ok (.iload_n 3, 1) := by decide +kernel
theorem dX5_next_13 : decode cX5_next 13 = .ok (.ireturn, 1) := by decide +kernel
theorem dX5_next_14 : decode cX5_next 14 = .ok (.aload_n 0, 1) := by decide +kernel
theorem dX5_next_15 : decode cX5_next 15 = .ok (.getfield 48, 3) := by decide +kernel
theorem dX5_next_18 : decode cX5_next 18 = .ok (.aload_n 0, 1) := by decide +kernel
theorem dX5_next_19 : decode cX5_next 19 = .ok (.getfield 34, 3) := by decide +kernel
theorem dX5_next_22 : decode cX5_next 22 = .ok (.iload_n 1, 1) := by decide +kernel
theorem dX5_next_23 : decode cX5_next 23 = .ok (.aload_n 0, 1) := by decide +kernel
theorem dX5_next_24 : decode cX5_next 24 = .ok (.getfield 14, 3) := by decide +kernel
theorem dX5_next_27 : decode cX5_next 27 = .ok (.iload_n 2, 1) := by decide +kernel
theorem dX5_next_28 : decode cX5_next 28 = .ok (.invokevirtual 216, 3) := by decide +kernel
theorem dX5_next_31 : decode cX5_next 31 = .ok (.istore 4, 2) := by decide +kernel
theorem dX5_next_33 : decode cX5_next 33 = .ok (.iload 4, 2) := by decide +kernel
theorem dX5_next_35 : decode cX5_next 35 = .ok (.ifCond .ne 6, 3) := by decide +kernel
theorem dX5_next_38 : decode cX5_next 38 = .ok (.bipush (-9), 2) := by decide +kernel
theorem dX5_next_40 : decode cX5_next 40 = .ok (.ireturn, 1) := by decide +kernel
theorem dX5_next_41 : decode cX5_next 41 = .ok (.iconst 0, 1) := by decide +kernel
theorem dX5_next_42 : decode cX5_next 42 = .ok (.istore 5, 2) := by decide +kernel
theorem dX5_next_44 : decode cX5_next 44 = .ok (.aload_n 0, 1) := by decide +kernel
theorem dX5_next_45 : decode cX5_next 45 = .ok (.getfield 48, 3) := by decide +kernel
theorem dX5_next_48 : decode cX5_next 48 = .ok (.aload_n 0, 1) := by decide +kernel
theorem dX5_next_49 : decode cX5_next 49 = .ok (.getfield 34, 3) := by decide +kernel
theorem dX5_next_52 : decode cX5_next 52 = .ok (.iload_n 1, 1) := by decide +kernel
theorem dX5_next_53 : decode cX5_next 53 = .ok (.iconst 0, 1) := by decide +kernel
theorem dX5_next_54 : decode cX5_next 54 = .ok (.iload 4, 2) := by decide +kernel
theorem dX5_next_56 : decode cX5_next 56 = .ok (.invokevirtual 224, 3) := by decide +kernel
theorem dX5_next_59 : decode cX5_next 59 = .ok (.istore 6, 2) := by decide +kernel
theorem dX5_next_61 : decode cX5_next 61 = .ok (.iconst 1, 1) := by decide +kernel
theorem dX5_next_62 : decode cX5_next 62 = .ok (.istore 7, 2) := by decide +kernel
theorem dX5_next_64 : decode cX5_next 64 = .ok (.iload 7, 2) := by decide +kernel
theorem dX5_next_66 : decode cX5_next 66 = .ok (.iconst 3, 1) := by decide +kernel
theorem dX5_next_67 : decode cX5_next 67 = .ok (.if_icmp .ge 42, 3) := by decide +kernel
theorem dX5_next_70 : decode cX5_next 70 = .ok (.aload_n 0, 1) := by decide +kernel
theorem dX5_next_71 : decode cX5_next 71 = .ok (.getfield 48, 3) := by decide +kernel
theorem dX5_next_74 : decode cX5_next 74 = .ok (.aload_n 0, 1) := by decide +kernel
theorem dX5_next_75 : decode cX5_next 75 = .ok (.getfield 34, 3) := by decide +kernel
theorem dX5_next_78 : decode cX5_next 78 = .ok (.iload_n 1, 1) := by decide +kernel
theorem dX5_next_79 : decode cX5_next 79 = .ok (.iload 7, 2) := by decide +kernel
theorem dX5_next_81 : decode cX5_next 81 = .ok (.iload 4, 2) := by decide +kernel
theorem dX5_next_83 : decode cX5_next 83 = .ok (.invokevirtual 224, 3) := by decide +kernel
theorem dX5_next_86 : decode cX5_next 86 = .ok (.istore 8, 2) := by decide +kernel
theorem dX5_next_88 : decode cX5_next 88 = .ok (.iload 8, 2) := by decide +kernel
theorem dX5_next_90 : decode cX5_next 90 = .ok (.iload 6, 2) := by decide +kernel
theorem dX5_next_92 : decode cX5_next 92 = .ok (.if_icmp .ge 11, 3) := by decide +kernel
theorem dX5_next_95 : decode cX5_next 95 = .ok (.iload 8, 2) := by decide +kernel
theorem dX5_next_97 : decode cX5_next 97 = .ok (.istore 6, 2) := by decide +kernel
theorem dX5_next_99 : decode cX5_next 99 = .ok (.iload 7, 2) := by decide +kernel
theorem dX5_next_101 : decode cX5_next 101 = .ok (.istore 5, 2) := by decide +kernel
theorem dX5_next_103 : decode cX5_next 103 = .ok (.iinc 7 1, 3) := by decide +kernel
theorem dX5_next_106 : decode cX5_next 106 = .ok (.goto (-42), 3) := by decide +kernel
theorem dX5_next_109 : decode cX5_next 109 = .ok (.aload_n 0, 1) := by decide +kernel
theorem dX5_next_110 : decode cX5_next 110 = .ok (.iload 6, 2) := by decide +kernel
theorem dX5_next_112 : decode cX5_next 112 = .ok (.putfield 60, 3) := by decide +kernel
theorem dX5_next_115 : decode cX5_next 115 = .ok (.iload 5, 2) := by decide +kernel
theorem dX5_next_117 : decode cX5_next 117 = .ok (.ireturn, 1) := by decide +kernel
theorem dX5_sets_0 : decode cX5_sets 0 = .ok (.aload_n 0, 1) := by decide +kernel
theorem dX5_sets_1 : decode cX5_sets 1 = .ok (.iload_n 1, 1) := by decide +kernel
theorem dX5_sets_2 : decode cX5_sets 2 = .ok (.iload_n 2, 1) := by decide +kernel
theorem dX5_sets_3 : decode cX5_sets 3 = .ok (.invokevirtual 228, 3) := by decide +kernel
theorem dX5_sets_6 : decode cX5_sets 6 = .ok (.istore_n 3, 1) := by decide +kernel
theorem dX5_sets_7 : decode cX5_sets 7 = .ok (.iload_n 3, 1) := by decide +kernel
theorem dX5_sets_8 : decode cX5_sets 8 = .ok (.ifCond .eq 5, 3) := by decide +kernel
theorem dX5_sets_11 : decode cX5_sets 11 = .ok (.iload_n 3, 1) := by decide +kernel
theorem dX5_sets_12 : decode cX5_sets 12 = .ok (.ireturn, 1) := by decide +kernel
theorem dX5_sets_13 : decode cX5_sets 13 = .ok (.iconst 0, 1) := by decide +kernel
theorem dX5_sets_14 : decode cX5_sets 14 = .ok (.istore 4, 2) := by decide +kernel
theorem dX5_sets_16 : decode cX5_sets 16 = .ok (.bipush (-9), 2) := by decide +kernel
theorem dX5_sets_18 : decode cX5_sets 18 = .ok (.istore 5, 2) := by decide +kernel
theorem dX5_sets_20 : decode cX5_sets 20 = .ok (.iconst 0, 1) := by decide +kernel
theorem dX5_sets_21 : decode cX5_sets 21 = .ok (.istore 6, 2) := by decide +kernel
theorem dX5_sets_23 : decode cX5_sets 23 = .ok (.iload 6, 2) := by decide +kernel
theorem dX5_sets_25 : decode cX5_sets 25 = .ok (.iconst 1, 1) := by decide +kernel
theorem dX5_sets_26 : decode cX5_sets 26 = .ok (.aload_n 0, 1) := by decide +kernel
theorem dX5_sets_27 : decode cX5_sets 27 = .ok (.getfield 34, 3) := by decide +kernel
theorem dX5_sets_30 : decode cX5_sets 30 = .ok (.getfield 123, 3) := by decide +kernel
theorem dX5_sets_33 : decode cX5_sets 33 = .ok (.ishl, 1) := by decide +kernel
theorem dX5_sets_34 : decode cX5_sets 34 = .ok (.if_icmp .ge 37, 3) := by decide +kernel
theorem dX5_sets_37 : decode cX5_sets 37 = .ok (.aload_n 0, 1) := by decide +kernel
theorem dX5_sets_38 : decode cX5_sets 38 = .ok (.getfield 34, 3) := by decide +kernel
theorem dX5_sets_41 : decode cX5_sets 41 = .ok (.iload 6, 2) := by decide +kernel
theorem dX5_sets_43 : decode cX5_sets 43 = .ok (.iload_n 1, 1) := by decide +kernel
theorem dX5_sets_44 : decode cX5_sets 44 = .ok (.invokevirtual 231, 3) := by decide +kernel
theorem dX5_sets_47 : decode cX5_sets 47 = .ok (.iload_n 2, 1) := by decide +kernel
theorem dX5_sets_48 : decode cX5_sets 48 = .ok (.if_icmp .ne 17, 3) := by decide +kernel
theorem dX5_sets_51 : decode cX5_sets 51 = .ok (.iinc 4 1, 3) := by decide +kernel
theorem dX5_sets_54 : decode cX5_sets 54 = .ok (.iload 5, 2) := by decide +kernel
theorem dX5_sets_56 : decode cX5_sets 56 = .ok (.bipush (-9), 2) := by decide +kernel
theorem dX5_sets_58 : decode cX5_sets 58 = .ok (.if_icmp .ne 7, 3) := by decide +kernel
theorem dX5_sets_61 : decode cX5_sets 61 = .ok (.iload 6, 2) := by decide +kernel
theorem dX5_sets_63 : decode cX5_sets 63 = .ok (.istore 5, 2) := by decide +kernel
theorem dX5_sets_65 : decode cX5_sets 65 = .ok (.iinc 6 1, 3) := by decide +kernel
theorem dX5_sets_68 : decode cX5_sets 68 = .ok (.goto (-45), 3) := by decide +kernel
theorem dX5_sets_71 : decode cX5_sets 71 = .ok (.aload_n 0, 1) := by decide +kernel
theorem dX5_sets_72 : decode cX5_sets 72 = .ok (.iload 5, 2) := by decide +kernel
theorem dX5_sets_74 : decode cX5_sets 74 = .ok (.putfield 60, 3) := by decide +kernel
theorem dX5_sets_77 : decode cX5_sets 77 = .ok (.aload_n 0, 1) := by decide +kernel
theorem dX5_sets_78 : decode cX5_sets 78 = .ok (.iload 4, 2) := by decide +kernel
theorem dX5_sets_80 : decode cX5_sets 80 = .ok (.i2l, 1) := by decide +kernel
theorem dX5_sets_81 : decode cX5_sets 81 = .ok (.lconst 1, 1) := by decide +kernel
theorem dX5_sets_82 : decode cX5_sets 82 = .ok (.invokevirtual 234, 3) := by decide +kernel
theorem dX5_sets_85 : decode cX5_sets 85 = .ok (.iconst 1, 1) := by decide +kernel
theorem dX5_sets_86 : decode cX5_sets 86 = .ok (.ireturn, 1) := by decide +kernel
theorem dX5_sure_0 : decode cX5_sure 0 = .ok (.aload_n 0, 1) := by decide +kernel
theorem dX5_sure_1 : decode cX5_sure 1 = .ok (.iload_n 1, 1) := by decide +kernel
theorem dX5_sure_2 : decode cX5_sure 2 = .ok (.iload_n 2, 1) := by decide +kernel
theorem dX5_sure_3 : decode cX5_sure 3 = .ok (.invokevirtual 228, 3) := by decide +kernel
theorem dX5_sure_6 : decode cX5_sure 6 = .ok (.istore_n 3, 1) := by decide +kernel
theorem dX5_sure_7 : decode cX5_sure 7 = .ok (.iload_n 3, 1) := by decide +kernel
theorem dX5_sure_8 : decode cX5_sure 8 = .ok (.ifCond .eq 5, 3) := by decide +kernel
theorem dX5_sure_11 : decode cX5_sure 11 = .ok (.iload_n 3, 1) := by decide +kernel
theorem dX5_sure_12 : decode cX5_sure 12 = .ok (.ireturn, 1) := by decide +kernel
theorem dX5_sure_13 : decode cX5_sure 13 = .ok (.iconst 1, 1) := by decide +kernel
theorem dX5_sure_14 : decode cX5_sure 14 = .ok (.aload_n 0, 1) := by decide +kernel
theorem dX5_sure_15 : decode cX5_sure 15 = .ok (.getfield 34, 3) := by decide +kernel
theorem dX5_sure_18 : decode cX5_sure 18 = .ok (.getfield 123, 3) := by decide +kernel
theorem dX5_sure_21 : decode cX5_sure 21 = .ok (.ishl, 1) := by decide +kernel
theorem dX5_sure_22 : decode cX5_sure 22 = .ok (.iconst 1, 1) := by decide +kernel
theorem dX5_sure_23 : decode cX5_sure 23 = .ok (.isub, 1) := by decide +kernel
theorem dX5_sure_24 : decode cX5_sure 24 = .ok (.istore 4, 2) := by decide +kernel
theorem dX5_sure_26 : decode cX5_sure 26 = .ok (.iload 4, 2) := by decide +kernel
theorem dX5_sure_28 : decode cX5_sure 28 = .ok (.istore 5, 2) := by decide +kernel
theorem dX5_sure_30 : decode cX5_sure 30 = .ok (.iconst 0, 1) := by decide +kernel
theorem dX5_sure_31 : decode cX5_sure 31 = .ok (.istore 6, 2) := by decide +kernel
theorem dX5_sure_33 : decode cX5_sure 33 = .ok (.iconst 0, 1) := by decide +kernel
theorem dX5_sure_34 : decode cX5_sure 34 = .ok (.istore 7, 2) := by decide +kernel
theorem dX5_sure_36 : decode cX5_sure 36 = .ok (.iconst 0, 1) := by decide +kernel
theorem dX5_sure_37 : decode cX5_sure 37 = .ok (.istore 8, 2) := by decide +kernel
theorem dX5_sure_39 : decode cX5_sure 39 = .ok (.iload 8, 2) := by decide +kernel
theorem dX5_sure_41 : decode cX5_sure 41 = .ok (.iload 4, 2) := by decide +kernel
theorem dX5_sure_43 : decode cX5_sure 43 = .ok (.if_icmp .gt 40, 3) := by decide +kernel
theorem dX5_sure_46 : decode cX5_sure 46 = .ok (.aload_n 0, 1) := by decide +kernel
theorem dX5_sure_47 : decode cX5_sure 47 = .ok (.getfield 34, 3) := by decide +kernel
theorem dX5_sure_50 : decode cX5_sure 50 = .ok (.iload 8, 2) := by decide +kernel
theorem dX5_sure_52 : decode cX5_sure 52 = .ok (.iload_n 1, 1) := by decide +kernel
theorem dX5_sure_53 : decode cX5_sure 53 = .ok (.invokevirtual 231, 3) := by decide +kernel
theorem dX5_sure_56 : decode cX5_sure 56 = .ok (.iload_n 2, 1) := by decide +kernel
theorem dX5_sure_57 : decode cX5_sure 57 = .ok (.if_icmp .ne 20, 3) := by decide +kernel
theorem dX5_sure_60 : decode cX5_sure 60 = .ok (.iconst 1, 1) := by decide +kernel
theorem dX5_sure_61 : decode cX5_sure 61 = .ok (.istore 7, 2) := by decide +kernel
theorem dX5_sure_63 : decode cX5_sure 63 = .ok (.iload 5, 2) := by decide +kernel
theorem dX5_sure_65 : decode cX5_sure 65 = .ok (.iload 8, 2) := by decide +kernel
theorem dX5_sure_67 : decode cX5_sure 67 = .ok (.iand, 1) := by decide +kernel
theorem dX5_sure_68 : decode cX5_sure 68 = .ok (.istore 5, 2) := by decide +kernel
theorem dX5_sure_70 : decode cX5_sure 70 = .ok (.iload 6, 2) := by decide +kernel
theorem dX5_sure_72 : decode cX5_sure 72 = .ok (.iload 8, 2) := by decide +kernel
theorem dX5_sure_74 : decode cX5_sure 74 = .ok (.ior, 1) := by decide +kernel
theorem dX5_sure_75 : decode cX5_sure 75 = .ok (.istore 6, 2) := by decide +kernel
theorem dX5_sure_77 : decode cX5_sure 77 = .ok (.iinc 8 1, 3) := by decide +kernel
theorem dX5_sure_80 : decode cX5_sure 80 = .ok (.goto (-41), 3) := by decide +kernel
theorem dX5_sure_83 : decode cX5_sure 83 = .ok (.iload 7, 2) := by decide +kernel
theorem dX5_sure_85 : decode cX5_sure 85 = .ok (.ifCond .ne 9, 3) := by decide +kernel
theorem dX5_sure_88 : decode cX5_sure 88 = .ok (.aload_n 0, 1) := by decide +kernel
theorem dX5_sure_89 : decode cX5_sure 89 = .ok (.iconst 4, 1) := by decide +kernel
theorem dX5_sure_90 : decode cX5_sure 90 = .ok (.invokevirtual 74, 3) := by decide +kernel
theorem dX5_sure_93 : decode cX5_sure 93 = .ok (.ireturn, 1) := by decide +kernel
theorem dX5_sure_94 : decode cX5_sure 94 = .ok (.aload_n 0, 1) := by decide +kernel
theorem dX5_sure_95 : decode cX5_sure 95 = .ok (.iload 4, 2) := by decide +kernel
theorem dX5_sure_97 : decode cX5_sure 97 = .ok (.iload 6, 2) := by decide +kernel
theorem dX5_sure_99 : decode cX5_sure 99 = .ok (.iconst (-1), 1) := by decide +kernel
theorem dX5_sure_100 : decode cX5_sure 100 = .ok (.ixor, 1) := by decide +kernel
theorem dX5_sure_101 : decode cX5_sure 101 = .ok (.iand, 1) := by decide +kernel
theorem dX5_sure_102 : decode cX5_sure 102 = .ok (.putfield 60, 3) := by decide +kernel
theorem dX5_sure_105 : decode cX5_sure 105 = .ok (.iload 5, 2) := by decide +kernel
theorem dX5_sure_107 : decode cX5_sure 107 = .ok (.ireturn, 1) := by decide +kernel
theorem dX5_duel_0 : decode cX5_duel 0 = .ok (.aload_n 0, 1) := by decide +kernel
theorem dX5_duel_1 : decode cX5_duel 1 = .ok (.iload_n 1, 1) := by decide +kernel
theorem dX5_duel_2 : decode cX5_duel 2 = .ok (.invokevirtual 126, 3) := by decide +kernel
theorem dX5_duel_5 : decode cX5_duel 5 = .ok (.ifCond .eq 25, 3) := by decide +kernel
theorem dX5_duel_8 : decode cX5_duel 8 = .ok (.aload_n 0, 1) := by decide +kernel
theorem dX5_duel_9 : decode cX5_duel 9 = .ok (.iload_n 2, 1) := by decide +kernel
theorem dX5_duel_10 : decode cX5_duel 10 = .ok (.invokevirtual 126, 3) := by decide +kernel
theorem dX5_duel_13 : decode cX5_duel 13 = .ok (.ifCond .eq 17, 3) := by decide +kernel
theorem dX5_duel_16 : decode cX5_duel 16 = .ok (.iload_n 1, 1) := by decide +kernel
theorem dX5_duel_17 : decode cX5_duel 17 = .ok (.iload_n 2, 1) := by decide +kernel
theorem dX5_duel_18 : decode cX5_duel 18 = .ok (.if_icmp .eq 12, 3) := by decide +kernel
theorem dX5_duel_21 : decode cX5_duel 21 = .ok (.iload_n 3, 1) := by decide +kernel
theorem dX5_duel_22 : decode cX5_duel 22 = .ok (.ifCond .lt 8, 3) := by decide +kernel
theorem dX5_duel_25 : decode cX5_duel 25 = .ok (.iload_n 3, 1) := by decide +kernel
theorem dX5_duel_26 : decode cX5_duel 26 = .ok (.iconst 3, 1) := by decide +kernel
theorem dX5_duel_27 : decode cX5_duel 27 = .ok (.if_icmp .le 5, 3) := by decide +kernel
theorem dX5_duel_30 : decode cX5_duel 30 = .ok (.iconst (-1), 1) := by decide +kernel
theorem dX5_duel_31 : decode cX5_duel 31 = .ok (.ireturn, 1) := by decide +kernel
theorem dX5_duel_32 : decode cX5_duel 32 = .ok (.aload_n 0, 1) := by decide +kernel
theorem dX5_duel_33 : decode cX5_duel 33 = .ok (.aload_n 0, 1) := by decide +kernel
theorem dX5_duel_34 : decode cX5_duel 34 = .ok (.getfield 41, 3) := by decide +kernel
theorem dX5_duel_37 : decode cX5_duel 37 = .ok (.aload_n 0, 1) := by decide +kernel
theorem dX5_duel_38 : decode cX5_duel 38 = .ok (.getfield 34, 3) := by decide +kernel
theorem dX5_duel_41 : decode cX5_duel 41 = .ok (.iload_n 1, 1) := by decide +kernel
theorem dX5_duel_42 : decode cX5_duel 42 = .ok (.iload_n 2, 1) := by decide +kernel
theorem dX5_duel_43 : decode cX5_duel 43 = .ok (.iload_n 3, 1) := by decide +kernel
theorem dX5_duel_44 : decode cX5_duel 44 = .ok (.invokevirtual 238, 3) := by decide +kernel
theorem dX5_duel_47 : decode cX5_duel 47 = .ok (.putfield 60, 3) := by decide +kernel
theorem dX5_duel_50 : decode cX5_duel 50 = .ok (.iconst 1, 1) := by decide +kernel
theorem dX5_duel_51 : decode cX5_duel 51 = .ok (.ireturn, 1) := by decide +kernel
theorem dX5_odds_0 : decode cX5_odds 0 = .ok (.aload_n 0, 1) := by decide +kernel
theorem dX5_odds_1 : decode cX5_odds 1 = .ok (.iload_n 1, 1) := by decide +kernel
theorem dX5_odds_2 : decode cX5_odds 2 = .ok (.iload_n 2, 1) := by decide +kernel
theorem dX5_odds_3 : decode cX5_odds 3 = .ok (.iload_n 3, 1) := by decide +kernel
theorem dX5_odds_4 : decode cX5_odds 4 = .ok (.invokevirtual 241, 3) := by decide +kernel
theorem dX5_odds_7 : decode cX5_odds 7 = .ok (.ifCond .ne 5, 3) := by decide +kernel
theorem dX5_odds_10 : decode cX5_odds 10 = .ok (.iconst (-1), 1) := by decide +kernel
theorem dX5_odds_11 : decode cX5_odds 11 = .ok (.ireturn, 1) := by decide +kernel
theorem dX5_odds_12 : decode cX5_odds 12 = .ok (.lconst 0, 1) := by decide +kernel
theorem dX5_odds_13 : decode cX5_odds 13 = .ok (.lstore 4, 2) := by decide +kernel
theorem dX5_odds_15 : decode cX5_odds 15 = .ok (.iconst 0, 1) := by decide +kernel
theorem dX5_odds_16 : decode cX5_odds 16 = .ok (.istore 6, 2) := by decide +kernel
theorem dX5_odds_18 : decode cX5_odds 18 = .ok (.iload 6, 2) := by decide +kernel
theorem dX5_odds_20 : decode cX5_odds 20 = .ok (.iconst 1, 1) := by decide +kernel
theorem dX5_odds_21 : decode cX5_odds 21 = .ok (.aload_n 0, 1) := by decide +kernel
theorem dX5_odds_22 : decode cX5_odds 22 = .ok (.getfield 34, 3) := by decide +kernel
theorem dX5_odds_25 : decode cX5_odds 25 = .ok (.getfield 123, 3) := by decide +kernel
theorem dX5_odds_28 : decode cX5_odds 28 = .ok (.ishl, 1) := by decide +kernel
theorem dX5_odds_29 : decode cX5_odds 29 = .ok (.if_icmp .ge 41, 3) := by decide +kernel
theorem dX5_odds_32 : decode cX5_odds 32 = .ok (.aload_n 0, 1) := by decide +kernel
theorem dX5_odds_33 : decode cX5_odds 33 = .ok (.getfield 41, 3) := by decide +kernel
theorem dX5_odds_36 : decode cX5_odds 36 = .ok (.aload_n 0, 1) := by decide +kernel
theorem dX5_odds_37 : decode cX5_odds 37 = .ok (.getfield 34, 3) := by decide +kernel
theorem dX5_odds_40 : decode cX5_odds 40 = .ok (.iload_n 2, 1) := by decide +kernel
theorem dX5_odds_41 : decode cX5_odds 41 = .ok (.iload 6, 2) := by decide +kernel
theorem dX5_odds_43 : decode cX5_odds 43 = .ok (.invokevirtual 205, 3) := by decide +kernel
theorem dX5_odds_46 : decode cX5_odds 46 = .ok (.iconst 0, 1) := by decide +kernel
theorem dX5_odds_47 : decode cX5_odds 47 = .ok (.iaload, 1) := by decide +kernel
theorem dX5_odds_48 : decode cX5_odds 48 = .ok (.iload_n 1, 1) := by decide +kernel
theorem dX5_odds_49 : decode cX5_odds 49 = .ok (.if_icmp .ne 15, 3) := by decide +kernel
theorem dX5_odds_52 : decode cX5_odds 52 = .ok (.lload 4, 2) := by decide +kernel
theorem dX5_odds_54 : decode cX5_odds 54 = .ok (.aload_n 0, 1) := by decide +kernel
theorem dX5_odds_55 : decode cX5_odds 55 = .ok (.iload 6, 2) := by decide +kernel
theorem dX5_odds_57 : decode cX5_odds 57 = .ok (.iload_n 3, 1) := by decide +kernel
theorem dX5_odds_58 : decode cX5_odds 58 = .ok (.invokevirtual 244, 3) := by decide +kernel
theorem dX5_odds_61 : decode cX5_odds 61 = .ok (.ladd, 1) := by decide +kernel
theorem dX5_odds_62 : decode cX5_odds 62 = .ok (.lstore 4, 2) := by decide +kernel
theorem dX5_odds_64 : decode cX5_odds 64 = .ok (.iinc 6 1, 3) := by decide +kernel
theorem dX5_odds_67 : decode cX5_odds 67 = .ok (.goto (-49), 3) := by decide +kernel
theorem dX5_odds_70 : decode cX5_odds 70 = .ok (.aload_n 0, 1) := by decide +kernel
theorem dX5_odds_71 : decode cX5_odds 71 = .ok (.lload 4, 2) := by decide +kernel
theorem dX5_odds_73 : decode cX5_odds 73 = .ok (.aload_n 0, 1) := by decide +kernel
theorem dX5_odds_74 : decode cX5_odds 74 = .ok (.invokevirtual 248, 3) := by decide +kernel
theorem dX5_odds_77 : decode cX5_odds 77 = .ok (.invokevirtual 234, 3) := by decide +kernel
theorem dX5_odds_80 : decode cX5_odds 80 = .ok (.iconst 1, 1) := by decide +kernel
theorem dX5_odds_81 : decode cX5_odds 81 = .ok (.ireturn, 1) := by decide +kernel
theorem dX5_mid_0 : decode cX5_mid 0 = .ok (.aload_n 0, 1) := by decide +kernel
theorem dX5_mid_1 : decode cX5_mid 1 = .ok (.iload_n 1, 1) := by decide +kernel
theorem dX5_mid_2 : decode cX5_mid 2 = .ok (.iload_n 2, 1) := by decide +kernel
theorem dX5_mid_3 : decode cX5_mid 3 = .ok (.iload_n 3, 1) := by decide +kernel
theorem dX5_mid_4 : decode cX5_mid 4 = .ok (.invokevirtual 241, 3) := by decide +kernel
theorem dX5_mid_7 : decode cX5_mid 7 = .ok (.ifCond .ne 5, 3) := by decide +kernel
theorem dX5_mid_10 : decode cX5_mid 10 = .ok (.iconst (-1), 1) := by decide +kernel
theorem dX5_mid_11 : decode cX5_mid 11 = .ok (.ireturn, 1) := by decide +kernel
theorem dX5_mid_12 : decode cX5_mid 12 = .ok (.lconst 0, 1) := by decide +kernel
theorem dX5_mid_13 : decode cX5_mid 13 = .ok (.lstore 4, 2) := by decide +kernel
theorem dX5_mid_15 : decode cX5_mid 15 = .ok (.iconst 0, 1) := by decide +kernel
theorem dX5_mid_16 : decode cX5_mid 16 = .ok (.istore 6, 2) := by decide +kernel
theorem dX5_mid_18 : decode cX5_mid 18 = .ok (.iload 6, 2) := by decide +kernel
theorem dX5_mid_20 : decode cX5_mid 20 = .ok (.iconst 1, 1) := by decide +kernel
theorem dX5_mid_21 : decode cX5_mid 21 = .ok (.aload_n 0, 1) := by decide +kernel
theorem dX5_mid_22 : decode cX5_mid 22 = .ok (.getfield 34, 3) := by decide +kernel
theorem dX5_mid_25 : decode cX5_mid 25 = .ok (.getfield 123, 3) := by decide +kernel
theorem dX5_mid_28 : decode cX5_mid 28 = .ok (.ishl, 1) := by decide +kernel
theorem dX5_mid_29 : decode cX5_mid 29 = .ok (.if_icmp .ge 52, 3) := by decide +kernel
theorem dX5_mid_32 : decode cX5_mid 32 = .ok (.aload_n 0, 1) := by decide +kernel
theorem dX5_mid_33 : decode cX5_mid 33 = .ok (.getfield 41, 3) := by decide +kernel
theorem dX5_mid_36 : decode cX5_mid 36 = .ok (.aload_n 0, 1) := by decide +kernel
theorem dX5_mid_37 : decode cX5_mid 37 = .ok (.getfield 34, 3) := by decide +kernel
theorem dX5_mid_40 : decode cX5_mid 40 = .ok (.iload_n 2, 1) := by decide +kernel
theorem dX5_mid_41 : decode cX5_mid 41 = .ok (.iload 6, 2) := by decide +kernel
theorem dX5_mid_43 : decode cX5_mid 43 = .ok (.invokevirtual 205, 3) := by decide +kernel
theorem dX5_mid_46 : decode cX5_mid 46 = .ok (.iload_n 1, 1) := by decide +kernel
theorem dX5_mid_47 : decode cX5_mid 47 = .ok (.aload_n 0, 1) := by decide +kernel
theorem dX5_mid_48 : decode cX5_mid 48 = .ok (.getfield 34, 3) := by decide +kernel
theorem dX5_mid_51 : decode cX5_mid 51 = .ok (.getfield 123, 3) := by decide +kernel
theorem dX5_mid_54 : decode cX5_mid 54 = .ok (.invokestatic 252, 3) := by decide +kernel
theorem dX5_mid_57 : decode cX5_mid 57 = .ok (.istore 7, 2) := by decide +kernel
theorem dX5_mid_59 : decode cX5_mid 59 = .ok (.lload 4, 2) := by decide +kernel
theorem dX5_mid_61 : decode cX5_mid 61 = .ok (.iload 7, 2) := by decide +kernel
theorem dX5_mid_63 : decode cX5_mid 63 = .ok (.i2l, 1) := by decide +kernel
theorem dX5_mid_64 : decode cX5_mid 64 = .ok (.aload_n 0, 1) := by decide +kernel
theorem dX5_mid_65 : decode cX5_mid 65 = .ok (.iload 6, 2) := by decide +kernel
theorem dX5_mid_67 : decode cX5_mid 67 = .ok (.iload_n 3, 1) := by decide +kernel
theorem dX5_mid_68 : decode cX5_mid 68 = .ok (.invokevirtual 244, 3) := by decide +kernel
theorem dX5_mid_71 : decode cX5_mid 71 = .ok (.lmul, 1) := by decide +kernel
theorem dX5_mid_72 : decode cX5_mid 72 = .ok (.ladd, 1) := by decide +kernel
theorem dX5_mid_73 : decode cX5_mid 73 = .ok (.lstore 4, 2) := by decide +kernel
theorem dX5_mid_75 : decode cX5_mid 75 = .ok (.iinc 6 1, 3) := by decide +kernel
theorem dX5_mid_78 : decode cX5_mid 78 = .ok (.goto (-60), 3) := by decide +kernel
theorem dX5_mid_81 : decode cX5_mid 81 = .ok (.aload_n 0, 1) := by decide +kernel
theorem dX5_mid_82 : decode cX5_mid 82 = .ok (.lload 4, 2) := by decide +kernel
theorem dX5_mid_84 : decode cX5_mid 84 = .ok (.aload_n 0, 1) := by decide +kernel
theorem dX5_mid_85 : decode cX5_mid 85 = .ok (.invokevirtual 248, 3) := by decide +kernel
theorem dX5_mid_88 : decode cX5_mid 88 = .ok (.invokevirtual 234, 3) := by decide +kernel
theorem dX5_mid_91 : decode cX5_mid 91 = .ok (.iconst 1, 1) := by decide +kernel
theorem dX5_mid_92 : decode cX5_mid 92 = .ok (.ireturn, 1) := by decide +kernel
theorem dX5_lots_0 : decode cX5_lots 0 = .ok (.iload_n 1, 1) := by decide +kernel
theorem dX5_lots_1 : decode cX5_lots 1 = .ok (.iconst 1, 1) := by decide +kernel
theorem dX5_lots_2 : decode cX5_lots 2 = .ok (.if_icmp .lt 23, 3) := by decide +kernel
theorem dX5_lots_5 : decode cX5_lots 5 = .ok (.iload_n 1, 1) := by decide +kernel
theorem dX5_lots_6 : decode cX5_lots 6 = .ok (.bipush 20, 2) := by decide +kernel
theorem dX5_lots_8 : decode cX5_lots 8 = .ok (.if_icmp .gt 17, 3) := by decide +kernel
theorem dX5_lots_11 : decode cX5_lots 11 = .ok (.iload_n 2, 1) := by decide +kernel
theorem dX5_lots_12 : decode cX5_lots 12 = .ok (.iconst 1, 1) := by decide +kernel
theorem dX5_lots_13 : decode cX5_lots 13 = .ok (.if_icmp .lt 12, 3) := by decide +kernel
theorem dX5_lots_16 : decode cX5_lots 16 = .ok (.iload_n 2, 1) := by decide +kernel
theorem dX5_lots_17 : decode cX5_lots 17 = .ok (.i2l, 1) := by decide +kernel
theorem dX5_lots_18 : decode cX5_lots 18 = .ok (.ldc2_w 256, 3) := by decide +kernel
theorem dX5_lots_21 : decode cX5_lots 21 = .ok (.lcmp, 1) := by decide +kernel
theorem dX5_lots_22 : decode cX5_lots 22 = .ok (.ifCond .lt 5, 3) := by decide +kernel
theorem dX5_lots_25 : decode cX5_lots 25 = .ok (.iconst (-1), 1) := by decide +kernel
theorem dX5_lots_26 : decode cX5_lots 26 = .ok (.ireturn, 1) := by decide +kernel
theorem dX5_lots_27 : decode cX5_lots 27 = .ok (.aload_n 0, 1) := by decide +kernel
theorem dX5_lots_28 : decode cX5_lots 28 = .ok (.iload_n 1, 1) := by decide +kernel
theorem dX5_lots_29 : decode cX5_lots 29 = .ok (.invokevirtual 156, 3) := by decide +kernel
theorem dX5_lots_32 : decode cX5_lots 32 = .ok (.istore_n 3, 1) := by decide +kernel
theorem dX5_lots_33 : decode cX5_lots 33 = .ok (.iload_n 3, 1) := by decide +kernel
theorem dX5_lots_34 : decode cX5_lots 34 = .ok (.ifCond .eq 5, 3) := by decide +kernel
theorem dX5_lots_37 : decode cX5_lots 37 = .ok (.iload_n 3, 1) := by decide +kernel
theorem dX5_lots_38 : decode cX5_lots 38 = .ok (.ireturn, 1) := by decide +kernel
theorem dX5_lots_39 : decode cX5_lots 39 = .ok (.iload_n 2, 1) := by decide +kernel
theorem dX5_lots_40 : decode cX5_lots 40 = .ok (.i2l, 1) := by decide +kernel
theorem dX5_lots_41 : decode cX5_lots 41 = .ok (.lstore 4, 2) := by decide +kernel
theorem dX5_lots_43 : decode cX5_lots 43 = .ok (.iconst 0, 1) := by decide +kernel
theorem dX5_lots_44 : decode cX5_lots 44 = .ok (.istore 6, 2) := by decide +kernel
theorem dX5_lots_46 : decode cX5_lots 46 = .ok (.iload 6, 2) := by decide +kernel
theorem dX5_lots_48 : decode cX5_lots 48 = .ok (.iload_n 1, 1) := by decide +kernel
theorem dX5_lots_49 : decode cX5_lots 49 = .ok (.if_icmp .ge 42, 3) := by decide +kernel
theorem dX5_lots_52 : decode cX5_lots 52 = .ok (.lload 4, 2) := by decide +kernel
theorem dX5_lots_54 : decode cX5_lots 54 = .ok (.ldc2_w 258, 3) := by decide +kernel
theorem dX5_lots_57 : decode cX5_lots 57 = .ok (.lmul, 1) := by decide +kernel
theorem dX5_lots_58 : decode cX5_lots 58 = .ok (.ldc2_w 256, 3) := by decide +kernel
theorem dX5_lots_61 : decode cX5_lots 61 = .ok (.lrem, 1) := by decide +kernel
theorem dX5_lots_62 : decode cX5_lots 62 = .ok (.lstore 4, 2) := by decide +kernel
theorem dX5_lots_64 : decode cX5_lots 64 = .ok (.aload_n 0, 1) := by decide +kernel
theorem dX5_lots_65 : decode cX5_lots 65 = .ok (.getfield 34, 3) := by decide +kernel
theorem dX5_lots_68 : decode cX5_lots 68 = .ok (.lload 4, 2) := by decide +kernel
theorem dX5_lots_70 : decode cX5_lots 70 = .ok (.l2i, 1) := by decide +kernel
theorem dX5_lots_71 : decode cX5_lots 71 = .ok (.aload_n 0, 1) := by decide +kernel
theorem dX5_lots_72 : decode cX5_lots 72 = .ok (.getfield 34, 3) := by decide +kernel
theorem dX5_lots_75 : decode cX5_lots 75 = .ok (.getfield 123, 3) := by decide +kernel
theorem dX5_lots_78 : decode cX5_lots 78 = .ok (.invokestatic 260, 3) := by decide +kernel
theorem dX5_lots_81 : decode cX5_lots 81 = .ok (.invokevirtual 163, 3) := by decide +kernel
theorem dX5_lots_84 : decode cX5_lots 84 = .ok (.pop, 1) := by decide +kernel
theorem dX5_lots_85 : decode cX5_lots 85 = .ok (.iinc 6 1, 3) := by decide +kernel
theorem dX5_lots_88 : decode cX5_lots 88 = .ok (.goto (-42), 3) := by decide +kernel
theorem dX5_lots_91 : decode cX5_lots 91 = .ok (.aload_n 0, 1) := by decide +kernel
theorem dX5_lots_92 : decode cX5_lots 92 = .ok (.getfield 34, 3) := by decide +kernel
theorem dX5_lots_95 : decode cX5_lots 95 = .ok (.getfield 263, 3) := by decide +kernel
theorem dX5_lots_98 : decode cX5_lots 98 = .ok (.iconst 0, 1) := by decide +kernel
theorem dX5_lots_99 : decode cX5_lots 99 = .ok (.iaload, 1) := by decide +kernel
theorem dX5_lots_100 : decode cX5_lots 100 = .ok (.ireturn, 1) := by decide +kernel
theorem dX5_asked_0 : decode cX5_asked 0 = .ok (.aload_n 0, 1) := by decide +kernel
theorem dX5_asked_1 : decode cX5_asked 1 = .ok (.getfield 60, 3) := by decide +kernel
theorem dX5_asked_4 : decode cX5_asked 4 = .ok (.ireturn, 1) := by decide +kernel
theorem dX5_upper_0 : decode cX5_upper 0 = .ok (.aload_n 0, 1) := by decide +kernel
theorem dX5_upper_1 : decode cX5_upper 1 = .ok (.getfield 63, 3) := by decide +kernel
theorem dX5_upper_4 : decode cX5_upper 4 = .ok (.lreturn, 1) := by decide +kernel
theorem dX5_lower_0 : decode cX5_lower 0 = .ok (.aload_n 0, 1) := by decide +kernel
theorem dX5_lower_1 : decode cX5_lower 1 = .ok (.getfield 67, 3) := by decide +kernel
theorem dX5_lower_4 : decode cX5_lower 4 = .ok (.lreturn, 1) := by decide +kernel
theorem dX5_count_0 : decode cX5_count 0 = .ok (.iload_n 1, 1) := by decide +kernel
theorem dX5_count_1 : decode cX5_count 1 = .ok (.ifCond .lt 9, 3) := by decide +kernel
theorem dX5_count_4 : decode cX5_count 4 = .ok (.iload_n 1, 1) := by decide +kernel
theorem dX5_count_5 : decode cX5_count 5 = .ok (.bipush 10, 2) := by decide +kernel
theorem dX5_count_7 : decode cX5_count 7 = .ok (.if_icmp .lt 5, 3) := by decide +kernel
theorem dX5_count_10 : decode cX5_count 10 = .ok (.iconst (-1), 1) := by decide +kernel
theorem dX5_count_11 : decode cX5_count 11 = .ok (.ireturn, 1) := by decide +kernel
theorem dX5_count_12 : decode cX5_count 12 = .ok (.aload_n 0, 1) := by decide +kernel
theorem dX5_count_13 : decode cX5_count 13 = .ok (.iload_n 1, 1) := by decide +kernel
theorem dX5_count_14 : decode cX5_count 14 = .ok (.invokevirtual 266, 3) := by decide +kernel
theorem dX5_count_17 : decode cX5_count 17 = .ok (.ireturn, 1) := by decide +kernel
theorem dX5_finding_0 : decode cX5_finding 0 = .ok (.aload_n 0, 1) := by decide +kernel
theorem dX5_finding_1 : decode cX5_finding 1 = .ok (.getfield 56, 3) := by decide +kernel
theorem dX5_finding_4 : decode cX5_finding 4 = .ok (.ireturn, 1) := by decide +kernel
theorem dX5_findings_0 : decode cX5_findings 0 = .ok (.iload_n 1, 1) := by decide +kernel
theorem dX5_findings_1 : decode cX5_findings 1 = .ok (.iconst 1, 1) := by decide +kernel
theorem dX5_findings_2 : decode cX5_findings 2 = .ok (.if_icmp .lt 8, 3) := by decide +kernel
theorem dX5_findings_5 : decode cX5_findings 5 = .ok (.iload_n 1, 1) := by decide +kernel
theorem dX5_findings_6 : decode cX5_findings 6 = .ok (.iconst 5, 1) := by decide +kernel
theorem dX5_findings_7 : decode cX5_findings 7 = .ok (.if_icmp .le 5, 3) := by decide +kernel
theorem dX5_findings_10 : decode cX5_findings 10 = .ok (.iconst (-1), 1) := by decide +kernel
theorem dX5_findings_11 : decode cX5_findings 11 = .ok (.ireturn, 1) := by decide +kernel
theorem dX5_findings_12 : decode cX5_findings 12 = .ok (.aload_n 0, 1) := by decide +kernel
theorem dX5_findings_13 : decode cX5_findings 13 = .ok (.getfield 52, 3) := by decide +kernel
theorem dX5_findings_16 : decode cX5_findings 16 = .ok (.iload_n 1, 1) := by decide +kernel
theorem dX5_findings_17 : decode cX5_findings 17 = .ok (.iaload, 1) := by decide +kernel
theorem dX5_findings_18 : decode cX5_findings 18 = .ok (.ireturn, 1) := by decide +kernel
theorem dX5_digest_0 : decode cX5_digest 0 = .ok (.ldc2_w 269, 3) := by decide +kernel
theorem dX5_digest_3 : decode cX5_digest 3 = .ok (.lstore_n 1, 1) := by decide +kernel
theorem dX5_digest_4 : decode cX5_digest 4 = .ok (.iconst 0, 1) := by decide +kernel
theorem dX5_digest_5 : decode cX5_digest 5 = .ok (.istore_n 3, 1) := by decide +kernel
theorem dX5_digest_6 : decode cX5_digest 6 = .ok (.iload_n 3, 1) := by decide +kernel
theorem dX5_digest_7 : decode cX5_digest 7 = .ok (.bipush 10, 2) := by decide +kernel
theorem dX5_digest_9 : decode cX5_digest 9 = .ok (.if_icmp .ge 22, 3) := by decide +kernel
theorem dX5_digest_12 : decode cX5_digest 12 = .ok (.ldc2_w 271, 3) := by decide +kernel
theorem dX5_digest_15 : decode cX5_digest 15 = .ok (.lload_n 1, 1) := by decide +kernel
theorem dX5_digest_16 : decode cX5_digest 16 = .ok (.lmul, 1) := by decide +kernel
theorem dX5_digest_17 : decode cX5_digest 17 = .ok (.aload_n 0, 1) := by decide +kernel
theorem dX5_digest_18 : decode cX5_digest 18 = .ok (.iload_n 3, 1) := by decide +kernel
theorem dX5_digest_19 : decode cX5_digest 19 = .ok (.invokevirtual 266, 3) := by decide +kernel
theorem dX5_digest_22 : decode cX5_digest 22 = .ok (.i2l, 1) := by decide +kernel
theorem dX5_digest_23 : decode cX5_digest 23 = .ok (.ladd, 1) := by decide +kernel
theorem dX5_digest_24 : decode cX5_digest 24 = .ok (.lstore_n 1, 1) := by decide +kernel
theorem dX5_digest_25 : decode cX5_digest 25 = .ok (.iinc 3 1, 3) := by decide +kernel
theorem dX5_digest_28 : decode cX5_digest 28 = .ok (.goto (-22), 3) := by decide +kernel
theorem dX5_digest_31 : decode cX5_digest 31 = .ok (.iconst 0, 1) := by decide +kernel
theorem dX5_digest_32 : decode cX5_digest 32 = .ok (.istore_n 3, 1) := by decide +kernel
theorem dX5_digest_33 : decode cX5_digest 33 = .ok (.iload_n 3, 1) := by decide +kernel
theorem dX5_digest_34 : decode cX5_digest 34 = .ok (.aload_n 0, 1) := by decide +kernel
theorem dX5_digest_35 : decode cX5_digest 35 = .ok (.getfield 34, 3) := by decide +kernel
theorem dX5_digest_38 : decode cX5_digest 38 = .ok (.getfield 123, 3) := by decide +kernel
theorem dX5_digest_41 : decode cX5_digest 41 = .ok (.if_icmp .ge 40, 3) := by decide +kernel
theorem dX5_digest_44 : decode cX5_digest 44 = .ok (.iconst 0, 1) := by decide +kernel
theorem dX5_digest_45 : decode cX5_digest 45 = .ok (.istore 4, 2) := by decide +kernel
theorem dX5_digest_47 : decode cX5_digest 47 = .ok (.iload 4, 2) := by decide +kernel
theorem dX5_digest_49 : decode cX5_digest 49 = .ok (.bipush 8, 2) := by decide +kernel
theorem dX5_digest_51 : decode cX5_digest 51 = .ok (.if_icmp .ge 24, 3) := by decide +kernel
theorem dX5_digest_54 : decode cX5_digest 54 = .ok (.ldc2_w 271, 3) := by decide +kernel
theorem dX5_digest_57 : decode cX5_digest 57 = .ok (.lload_n 1, 1) := by decide +kernel
theorem dX5_digest_58 : decode cX5_digest 58 = .ok (.lmul, 1) := by decide +kernel
theorem dX5_digest_59 : decode cX5_digest 59 = .ok (.aload_n 0, 1) := by decide +kernel
theorem dX5_digest_60 : decode cX5_digest 60 = .ok (.iload_n 3, 1) := by decide +kernel
theorem dX5_digest_61 : decode cX5_digest 61 = .ok (.iload 4, 2) := by decide +kernel
theorem dX5_digest_63 : decode cX5_digest 63 = .ok (.invokevirtual 129, 3) := by decide +kernel
theorem dX5_digest_66 : decode cX5_digest 66 = .ok (.i2l, 1) := by decide +kernel
theorem dX5_digest_67 : decode cX5_digest 67 = .ok (.ladd, 1) := by decide +kernel
theorem dX5_digest_68 : decode cX5_digest 68 = .ok (.lstore_n 1, 1) := by decide +kernel
theorem dX5_digest_69 : decode cX5_digest 69 = .ok (.iinc 4 1, 3) := by decide +kernel
theorem dX5_digest_72 : decode cX5_digest 72 = .ok (.goto (-25), 3) := by decide +kernel
theorem dX5_digest_75 : decode cX5_digest 75 = .ok (.iinc 3 1, 3) := by decide +kernel
theorem dX5_digest_78 : decode cX5_digest 78 = .ok (.goto (-45), 3) := by decide +kernel
theorem dX5_digest_81 : decode cX5_digest 81 = .ok (.iconst 0, 1) := by decide +kernel
theorem dX5_digest_82 : decode cX5_digest 82 = .ok (.istore_n 3, 1) := by decide +kernel
theorem dX5_digest_83 : decode cX5_digest 83 = .ok (.iload_n 3, 1) := by decide +kernel
theorem dX5_digest_84 : decode cX5_digest 84 = .ok (.iconst 3, 1) := by decide +kernel
theorem dX5_digest_85 : decode cX5_digest 85 = .ok (.if_icmp .ge 25, 3) := by decide +kernel
theorem dX5_digest_88 : decode cX5_digest 88 = .ok (.ldc2_w 271, 3) := by decide +kernel
theorem dX5_digest_91 : decode cX5_digest 91 = .ok (.lload_n 1, 1) := by decide +kernel
theorem dX5_digest_92 : decode cX5_digest 92 = .ok (.lmul, 1) := by decide +kernel
theorem dX5_digest_93 : decode cX5_digest 93 = .ok (.aload_n 0, 1) := by decide +kernel
theorem dX5_digest_94 : decode cX5_digest 94 = .ok (.getfield 21, 3) := by decide +kernel
theorem dX5_digest_97 : decode cX5_digest 97 = .ok (.iload_n 3, 1) := by decide +kernel
theorem dX5_digest_98 : decode cX5_digest 98 = .ok (.invokevirtual 106, 3) := by decide +kernel
theorem dX5_digest_101 : decode cX5_digest 101 = .ok (.i2l, 1) := by decide +kernel
theorem dX5_digest_102 : decode cX5_digest 102 = .ok (.ladd, 1) := by decide +kernel
theorem dX5_digest_103 : decode cX5_digest 103 = .ok (.lstore_n 1, 1) := by decide +kernel
theorem dX5_digest_104 : decode cX5_digest 104 = .ok (.iinc 3 1, 3) := by decide +kernel
theorem dX5_digest_107 : decode cX5_digest 107 = .ok (.goto (-24), 3) := by decide +kernel
theorem dX5_digest_110 : decode cX5_digest 110 = .ok (.aload_n 0, 1) := by decide +kernel
theorem dX5_digest_111 : decode cX5_digest 111 = .ok (.getfield 18, 3) := by decide +kernel
theorem dX5_digest_114 : decode cX5_digest 114 = .ok (.aload_n 0, 1) := by decide +kernel
theorem dX5_digest_115 : decode cX5_digest 115 = .ok (.getfield 14, 3) := by decide +kernel
theorem dX5_digest_118 : decode cX5_digest 118 = .ok (.lload_n 1, 1) := by decide +kernel
theorem dX5_digest_119 : decode cX5_digest 119 = .ok (.invokevirtual 273, 3) := by decide +kernel
theorem dX5_digest_122 : decode cX5_digest 122 = .ok (.invokevirtual 273, 3) := by decide +kernel
theorem dX5_digest_125 : decode cX5_digest 125 = .ok (.lreturn, 1) := by decide +kernel
theorem dX5_found_0 : decode cX5_found 0 = .ok (.aload_n 0, 1) := by decide +kernel
theorem dX5_found_1 : decode cX5_found 1 = .ok (.iload_n 1, 1) := by decide +kernel
theorem dX5_found_2 : decode cX5_found 2 = .ok (.putfield 56, 3) := by decide +kernel
theorem dX5_found_5 : decode cX5_found 5 = .ok (.aload_n 0, 1) := by decide +kernel
theorem dX5_found_6 : decode cX5_found 6 = .ok (.getfield 52, 3) := by decide +kernel
theorem dX5_found_9 : decode cX5_found 9 = .ok (.iload_n 1, 1) := by decide +kernel
theorem dX5_found_10 : decode cX5_found 10 = .ok (.dup2, 1) := by decide +kernel
theorem dX5_found_11 : decode cX5_found 11 = .ok (.iaload, 1) := by decide +kernel
theorem dX5_found_12 : decode cX5_found 12 = .ok (.iconst 1, 1) := by decide +kernel
theorem dX5_found_13 : decode cX5_found 13 = .ok (.iadd, 1) := by decide +kernel
theorem dX5_found_14 : decode cX5_found 14 = .ok (.iastore, 1) := by decide +kernel
theorem dX5_found_15 : decode cX5_found 15 = .ok (.bipush (-3), 2) := by decide +kernel
theorem dX5_found_17 : decode cX5_found 17 = .ok (.ireturn, 1) := by decide +kernel
theorem dX5_refusedRow_0 : decode cX5_refusedRow 0 = .ok (.iload_n 1, 1) := by decide +kernel
theorem dX5_refusedRow_1 : decode cX5_refusedRow 1 = .ok (.invokestatic 70, 3) := by decide +kernel
theorem dX5_refusedRow_4 : decode cX5_refusedRow 4 = .ok (.ifCond .ne 5, 3) := by decide +kernel
theorem dX5_refusedRow_7 : decode cX5_refusedRow 7 = .ok (.iconst (-1), 1) := by decide +kernel
theorem dX5_refusedRow_8 : decode cX5_refusedRow 8 = .ok (.ireturn, 1) := by decide +kernel
theorem dX5_refusedRow_9 : decode cX5_refusedRow 9 = .ok (.aload_n 0, 1) := by decide +kernel
theorem dX5_refusedRow_10 : decode cX5_refusedRow 10 = .ok (.getfield 14, 3) := by decide +kernel
theorem dX5_refusedRow_13 : decode cX5_refusedRow 13 = .ok (.iload_n 1, 1) := by decide +kernel
theorem dX5_refusedRow_14 : decode cX5_refusedRow 14 = .ok (.invokevirtual 99, 3) := by decide +kernel
theorem dX5_refusedRow_17 : decode cX5_refusedRow 17 = .ok (.ifCond .eq 7, 3) := by decide +kernel
theorem dX5_refusedRow_20 : decode cX5_refusedRow 20 = .ok (.iconst 0, 1) := by decide +kernel
theorem dX5_refusedRow_21 : decode cX5_refusedRow 21 = .ok (.goto 8, 3) := by decide +kernel
theorem dX5_refusedRow_24 : decode cX5_refusedRow 24 = .ok (.aload_n 0, 1) := by decide +kernel
theorem dX5_refusedRow_25 : decode cX5_refusedRow 25 = .ok (.iconst 1, 1) := by decide +kernel
theorem dX5_refusedRow_26 : decode cX5_refusedRow 26 = .ok (.invokevirtual 74, 3) := by decide +kernel
theorem dX5_refusedRow_29 : decode cX5_refusedRow 29 = .ok (.ireturn, 1) := by decide +kernel
theorem dX5_refusedPlace_0 : decode cX5_refusedPlace 0 = .ok (.aload_n 0, 1) := by decide +kernel
theorem dX5_refusedPlace_1 : decode cX5_refusedPlace 1 = .ok (.iload_n 1, 1) := by decide +kernel
theorem dX5_refusedPlace_2 : decode cX5_refusedPlace 2 = .ok (.invokevirtual 92, 3) := by decide +kernel
theorem dX5_refusedPlace_5 : decode cX5_refusedPlace 5 = .ok (.istore_n 3, 1) := by decide +kernel
theorem dX5_refusedPlace_6 : decode cX5_refusedPlace 6 = .ok (.iload_n 3, 1) := by decide +kernel
theorem dX5_refusedPlace_7 : decode cX5_refusedPlace 7 = .ok (.ifCond .eq 5, 3) := by decide +kernel
theorem dX5_refusedPlace_10 : decode cX5_refusedPlace 10 = .ok (.iload_n 3, 1) := by decide +kernel
theorem dX5_refusedPlace_11 : decode cX5_refusedPlace 11 = .ok (.ireturn, 1) := by decide +kernel
theorem dX5_refusedPlace_12 : decode cX5_refusedPlace 12 = .ok (.aload_n 0, 1) := by decide +kernel
theorem dX5_refusedPlace_13 : decode cX5_refusedPlace 13 = .ok (.getfield 14, 3) := by decide +kernel
theorem dX5_refusedPlace_16 : decode cX5_refusedPlace 16 = .ok (.iload_n 1, 1) := by decide +kernel
theorem dX5_refusedPlace_17 : decode cX5_refusedPlace 17 = .ok (.iload_n 2, 1) := by decide +kernel
theorem dX5_refusedPlace_18 : decode cX5_refusedPlace 18 = .ok (.iconst 1, 1) := by decide +kernel
theorem dX5_refusedPlace_19 : decode cX5_refusedPlace 19 = .ok (.invokevirtual 102, 3) := by decide +kernel
theorem dX5_refusedPlace_22 : decode cX5_refusedPlace 22 = .ok (.ifCond .eq 7, 3) := by decide +kernel
theorem dX5_refusedPlace_25 : decode cX5_refusedPlace 25 = .ok (.iconst 0, 1) := by decide +kernel
theorem dX5_refusedPlace_26 : decode cX5_refusedPlace 26 = .ok (.goto 8, 3) := by decide +kernel
theorem dX5_refusedPlace_29 : decode cX5_refusedPlace 29 = .ok (.aload_n 0, 1) := by decide +kernel
theorem dX5_refusedPlace_30 : decode cX5_refusedPlace 30 = .ok (.iconst 2, 1) := by decide +kernel
theorem dX5_refusedPlace_31 : decode cX5_refusedPlace 31 = .ok (.invokevirtual 74, 3) := by decide +kernel
theorem dX5_refusedPlace_34 : decode cX5_refusedPlace 34 = .ok (.ireturn, 1) := by decide +kernel
theorem dX5_refusedText_0 : decode cX5_refusedText 0 = .ok (.iload_n 1, 1) := by decide +kernel
theorem dX5_refusedText_1 : decode cX5_refusedText 1 = .ok (.invokestatic 109, 3) := by decide +kernel
theorem dX5_refusedText_4 : decode cX5_refusedText 4 = .ok (.ifCond .ne 5, 3) := by decide +kernel
theorem dX5_refusedText_7 : decode cX5_refusedText 7 = .ok (.iconst (-1), 1) := by decide +kernel
theorem dX5_refusedText_8 : decode cX5_refusedText 8 = .ok (.ireturn, 1) := by decide +kernel
theorem dX5_refusedText_9 : decode cX5_refusedText 9 = .ok (.aload_n 0, 1) := by decide +kernel
theorem dX5_refusedText_10 : decode cX5_refusedText 10 = .ok (.getfield 18, 3) := by decide +kernel
theorem dX5_refusedText_13 : decode cX5_refusedText 13 = .ok (.iload_n 1, 1) := by decide +kernel
theorem dX5_refusedText_14 : decode cX5_refusedText 14 = .ok (.invokevirtual 99, 3) := by decide +kernel
theorem dX5_refusedText_17 : decode cX5_refusedText 17 = .ok (.ifCond .eq 7, 3) := by decide +kernel
theorem dX5_refusedText_20 : decode cX5_refusedText 20 = .ok (.iconst 0, 1) := by decide +kernel
theorem dX5_refusedText_21 : decode cX5_refusedText 21 = .ok (.goto 8, 3) := by decide +kernel
theorem dX5_refusedText_24 : decode cX5_refusedText 24 = .ok (.aload_n 0, 1) := by decide +kernel
theorem dX5_refusedText_25 : decode cX5_refusedText 25 = .ok (.iconst 1, 1) := by decide +kernel
theorem dX5_refusedText_26 : decode cX5_refusedText 26 = .ok (.invokevirtual 74, 3) := by decide +kernel
theorem dX5_refusedText_29 : decode cX5_refusedText 29 = .ok (.ireturn, 1) := by decide +kernel
theorem dX5_refusedDeeds_0 : decode cX5_refusedDeeds 0 = .ok (.aload_n 0, 1) := by decide +kernel
theorem dX5_refusedDeeds_1 : decode cX5_refusedDeeds 1 = .ok (.getfield 34, 3) := by decide +kernel
theorem dX5_refusedDeeds_4 : decode cX5_refusedDeeds 4 = .ok (.getfield 123, 3) := by decide +kernel
theorem dX5_refusedDeeds_7 : decode cX5_refusedDeeds 7 = .ok (.ifCond .ne 6, 3) := by decide +kernel
theorem dX5_refusedDeeds_10 : decode cX5_refusedDeeds 10 = .ok (.bipush (-4), 2) := by decide +kernel
theorem dX5_refusedDeeds_12 : decode cX5_refusedDeeds 12 = .ok (.ireturn, 1) := by decide +kernel
theorem dX5_refusedDeeds_13 : decode cX5_refusedDeeds 13 = .ok (.aload_n 0, 1) := by decide +kernel
theorem dX5_refusedDeeds_14 : decode cX5_refusedDeeds 14 = .ok (.getfield 34, 3) := by decide +kernel
theorem dX5_refusedDeeds_17 : decode cX5_refusedDeeds 17 = .ok (.getfield 169, 3) := by decide +kernel
theorem dX5_refusedDeeds_20 : decode cX5_refusedDeeds 20 = .ok (.iload_n 1, 1) := by decide +kernel
theorem dX5_refusedDeeds_21 : decode cX5_refusedDeeds 21 = .ok (.iadd, 1) := by decide +kernel
theorem dX5_refusedDeeds_22 : decode cX5_refusedDeeds 22 = .ok (.bipush 40, 2) := by decide +kernel
theorem dX5_refusedDeeds_24 : decode cX5_refusedDeeds 24 = .ok (.if_icmp .le 8, 3) := by decide +kernel
theorem dX5_refusedDeeds_27 : decode cX5_refusedDeeds 27 = .ok (.bipush (-2), 2) := by decide +kernel
theorem dX5_refusedDeeds_29 : decode cX5_refusedDeeds 29 = .ok (.goto 4, 3) := by decide +kernel
theorem dX5_refusedDeeds_32 : decode cX5_refusedDeeds 32 = .ok (.iconst 0, 1) := by decide +kernel
theorem dX5_refusedDeeds_33 : decode cX5_refusedDeeds 33 = .ok (.ireturn, 1) := by decide +kernel
theorem dX5_refusedClues_0 : decode cX5_refusedClues 0 = .ok (.aload_n 0, 1) := by decide +kernel
theorem dX5_refusedClues_1 : decode cX5_refusedClues 1 = .ok (.iload_n 1, 1) := by decide +kernel
theorem dX5_refusedClues_2 : decode cX5_refusedClues 2 = .ok (.invokevirtual 126, 3) := by decide +kernel
theorem dX5_refusedClues_5 : decode cX5_refusedClues 5 = .ok (.ifCond .eq 17, 3) := by decide +kernel
theorem dX5_refusedClues_8 : decode cX5_refusedClues 8 = .ok (.iload_n 2, 1) := by decide +kernel
theorem dX5_refusedClues_9 : decode cX5_refusedClues 9 = .ok (.invokestatic 153, 3) := by decide +kernel
theorem dX5_refusedClues_12 : decode cX5_refusedClues 12 = .ok (.ifCond .eq 10, 3) := by decide +kernel
theorem dX5_refusedClues_15 : decode cX5_refusedClues 15 = .ok (.iload_n 3, 1) := by decide +kernel
theorem dX5_refusedClues_16 : decode cX5_refusedClues 16 = .ok (.invokestatic 70, 3) := by decide +kernel
theorem dX5_refusedClues_19 : decode cX5_refusedClues 19 = .ok (.ifCond .ne 5, 3) := by decide +kernel
theorem dX5_refusedClues_22 : decode cX5_refusedClues 22 = .ok (.iconst (-1), 1) := by decide +kernel
theorem dX5_refusedClues_23 : decode cX5_refusedClues 23 = .ok (.ireturn, 1) := by decide +kernel
theorem dX5_refusedClues_24 : decode cX5_refusedClues 24 = .ok (.aload_n 0, 1) := by decide +kernel
theorem dX5_refusedClues_25 : decode cX5_refusedClues 25 = .ok (.getfield 14, 3) := by decide +kernel
theorem dX5_refusedClues_28 : decode cX5_refusedClues 28 = .ok (.iload_n 3, 1) := by decide +kernel
theorem dX5_refusedClues_29 : decode cX5_refusedClues 29 = .ok (.invokevirtual 99, 3) := by decide +kernel
theorem dX5_refusedClues_32 : decode cX5_refusedClues 32 = .ok (.ifCond .ne 9, 3) := by decide +kernel
theorem dX5_refusedClues_35 : decode cX5_refusedClues 35 = .ok (.aload_n 0, 1) := by decide +kernel
theorem dX5_refusedClues_36 : decode cX5_refusedClues 36 = .ok (.iconst 1, 1) := by decide +kernel
theorem dX5_refusedClues_37 : decode cX5_refusedClues 37 = .ok (.invokevirtual 74, 3) := by decide +kernel
theorem dX5_refusedClues_40 : decode cX5_refusedClues 40 = .ok (.ireturn, 1) := by decide +kernel
theorem dX5_refusedClues_41 : decode cX5_refusedClues 41 = .ok (.aload_n 0, 1) := by decide +kernel
theorem dX5_refusedClues_42 : decode cX5_refusedClues 42 = .ok (.getfield 14, 3) := by decide +kernel
theorem dX5_refusedClues_45 : decode cX5_refusedClues 45 = .ok (.iload_n 3, 1) := by decide +kernel
theorem dX5_refusedClues_46 : decode cX5_refusedClues 46 = .ok (.invokevirtual 106, 3) := by decide +kernel
theorem dX5_refusedClues_49 : decode cX5_refusedClues 49 = .ok (.istore 4, 2) := by decide +kernel
theorem dX5_refusedClues_51 : decode cX5_refusedClues 51 = .ok (.iload 4, 2) := by decide +kernel
theorem dX5_refusedClues_53 : decode cX5_refusedClues 53 = .ok (.iconst 2, 1) := by decide +kernel
theorem dX5_refusedClues_54 : decode cX5_refusedClues 54 = .ok (.irem, 1) := by decide +kernel
theorem dX5_refusedClues_55 : decode cX5_refusedClues 55 = .ok (.ifCond .ne 10, 3) := by decide +kernel
theorem dX5_refusedClues_58 : decode cX5_refusedClues 58 = .ok (.iload 4, 2) := by decide +kernel
theorem dX5_refusedClues_60 : decode cX5_refusedClues 60 = .ok (.bipush 16, 2) := by decide +kernel
theorem dX5_refusedClues_62 : decode cX5_refusedClues 62 = .ok (.if_icmp .le 9, 3) := by decide +kernel
theorem dX5_refusedClues_65 : decode cX5_refusedClues 65 = .ok (.aload_n 0, 1) := by decide +kernel
theorem dX5_refusedClues_66 : decode cX5_refusedClues 66 = .ok (.iconst 5, 1) := by decide +kernel
theorem dX5_refusedClues_67 : decode cX5_refusedClues 67 = .ok (.invokevirtual 74, 3) := by decide +kernel
theorem dX5_refusedClues_70 : decode cX5_refusedClues 70 = .ok (.ireturn, 1) := by decide +kernel
theorem dX5_refusedClues_71 : decode cX5_refusedClues 71 = .ok (.iconst 0, 1) := by decide +kernel
theorem dX5_refusedClues_72 : decode cX5_refusedClues 72 = .ok (.istore 5, 2) := by decide +kernel
theorem dX5_refusedClues_74 : decode cX5_refusedClues 74 = .ok (.iload 5, 2) := by decide +kernel
theorem dX5_refusedClues_76 : decode cX5_refusedClues 76 = .ok (.iconst 1, 1) := by decide +kernel
theorem dX5_refusedClues_77 : decode cX5_refusedClues 77 = .ok (.iadd, 1) := by decide +kernel
theorem dX5_refusedClues_78 : decode cX5_refusedClues 78 = .ok (.iload 4, 2) := by decide +kernel
theorem dX5_refusedClues_80 : decode cX5_refusedClues 80 = .ok (.if_icmp .ge 57, 3) := by decide +kernel
theorem dX5_refusedClues_83 : decode cX5_refusedClues 83 = .ok (.aload_n 0, 1) := by decide +kernel
theorem dX5_refusedClues_84 : decode cX5_refusedClues 84 = .ok (.getfield 14, 3) := by decide +kernel
theorem dX5_refusedClues_87 : decode cX5_refusedClues 87 = .ok (.iload_n 3, 1) := by decide +kernel
theorem dX5_refusedClues_88 : decode cX5_refusedClues 88 = .ok (.iload 5, 2) := by decide +kernel
theorem dX5_refusedClues_90 : decode cX5_refusedClues 90 = .ok (.iconst 1, 1) := by decide +kernel
theorem dX5_refusedClues_91 : decode cX5_refusedClues 91 = .ok (.iadd, 1) := by decide +kernel
theorem dX5_refusedClues_92 : decode cX5_refusedClues 92 = .ok (.invokevirtual 86, 3) := by decide +kernel
theorem dX5_refusedClues_95 : decode cX5_refusedClues 95 = .ok (.istore 6, 2) := by decide +kernel
theorem dX5_refusedClues_97 : decode cX5_refusedClues 97 = .ok (.aload_n 0, 1) := by decide +kernel
theorem dX5_refusedClues_98 : decode cX5_refusedClues 98 = .ok (.getfield 14, 3) := by decide +kernel
theorem dX5_refusedClues_101 : decode cX5_refusedClues 101 = .ok (.iload_n 3, 1) := by decide +kernel
theorem dX5_refusedClues_102 : decode cX5_refusedClues 102 = .ok (.iload 5, 2) := by decide +kernel
theorem dX5_refusedClues_104 : decode cX5_refusedClues 104 = .ok (.invokevirtual 86, 3) := by decide +kernel
theorem dX5_refusedClues_107 : decode cX5_refusedClues 107 = .ok (.invokestatic 153, 3) := by decide +kernel
theorem dX5_refusedClues_110 : decode cX5_refusedClues 110 = .ok (.ifCond .eq 15, 3) := by decide +kernel
theorem dX5_refusedClues_113 : decode cX5_refusedClues 113 = .ok (.iload 6, 2) := by decide +kernel
theorem dX5_refusedClues_115 : decode cX5_refusedClues 115 = .ok (.ifCond .lt 10, 3) := by decide +kernel
theorem dX5_refusedClues_118 : decode cX5_refusedClues 118 = .ok (.iload 6, 2) := by decide +kernel
theorem dX5_refusedClues_120 : decode cX5_refusedClues 120 = .ok (.bipush 11, 2) := by decide +kernel
theorem dX5_refusedClues_122 : decode cX5_refusedClues 122 = .ok (.if_icmp .lt 9, 3) := by decide +kernel
theorem dX5_refusedClues_125 : decode cX5_refusedClues 125 = .ok (.aload_n 0, 1) := by decide +kernel
theorem dX5_refusedClues_126 : decode cX5_refusedClues 126 = .ok (.iconst 3, 1) := by decide +kernel
theorem dX5_refusedClues_127 : decode cX5_refusedClues 127 = .ok (.invokevirtual 74, 3) := by decide +kernel
theorem dX5_refusedClues_130 : decode cX5_refusedClues 130 = .ok (.ireturn, 1) := by decide +kernel
theorem dX5_refusedClues_131 : decode cX5_refusedClues 131 = .ok (.iinc 5 2, 3) := by decide +kernel
theorem dX5_refusedClues_134 : decode cX5_refusedClues 134 = .ok (.goto (-60), 3) := by decide +kernel
theorem dX5_refusedClues_137 : decode cX5_refusedClues 137 = .ok (.iconst 0, 1) := by decide +kernel
theorem dX5_refusedClues_138 : decode cX5_refusedClues 138 = .ok (.ireturn, 1) := by decide +kernel
theorem dX5_refusedSum_0 : decode cX5_refusedSum 0 = .ok (.iload_n 1, 1) := by decide +kernel
theorem dX5_refusedSum_1 : decode cX5_refusedSum 1 = .ok (.invokestatic 153, 3) := by decide +kernel
theorem dX5_refusedSum_4 : decode cX5_refusedSum 4 = .ok (.ifCond .eq 13, 3) := by decide +kernel
theorem dX5_refusedSum_7 : decode cX5_refusedSum 7 = .ok (.iload_n 2, 1) := by decide +kernel
theorem dX5_refusedSum_8 : decode cX5_refusedSum 8 = .ok (.ifCond .lt 9, 3) := by decide +kernel
theorem dX5_refusedSum_11 : decode cX5_refusedSum 11 = .ok (.iload_n 2, 1) := by decide +kernel
theorem dX5_refusedSum_12 : decode cX5_refusedSum 12 = .ok (.bipush 54, 2) := by decide +kernel
theorem dX5_refusedSum_14 : decode cX5_refusedSum 14 = .ok (.if_icmp .le 5, 3) := by decide +kernel
theorem dX5_refusedSum_17 : decode cX5_refusedSum 17 = .ok (.iconst (-1), 1) := by decide +kernel
theorem dX5_refusedSum_18 : decode cX5_refusedSum 18 = .ok (.ireturn, 1) := by decide +kernel
theorem dX5_refusedSum_19 : decode cX5_refusedSum 19 = .ok (.aload_n 0, 1) := by decide +kernel
theorem dX5_refusedSum_20 : decode cX5_refusedSum 20 = .ok (.getfield 34, 3) := by decide +kernel
theorem dX5_refusedSum_23 : decode cX5_refusedSum 23 = .ok (.getfield 123, 3) := by decide +kernel
theorem dX5_refusedSum_26 : decode cX5_refusedSum 26 = .ok (.ifCond .ne 8, 3) := by decide +kernel
theorem dX5_refusedSum_29 : decode cX5_refusedSum 29 = .ok (.bipush (-4), 2) := by decide +kernel
theorem dX5_refusedSum_31 : decode cX5_refusedSum 31 = .ok (.goto 4, 3) := by decide +kernel
theorem dX5_refusedSum_34 : decode cX5_refusedSum 34 = .ok (.iconst 0, 1) := by decide +kernel
theorem dX5_refusedSum_35 : decode cX5_refusedSum 35 = .ok (.ireturn, 1) := by decide +kernel
theorem dX5_isRow_0 : decode cX5_isRow 0 = .ok (.iload_n 0, 1) := by decide +kernel
theorem dX5_isRow_1 : decode cX5_isRow 1 = .ok (.ifCond .lt 13, 3) := by decide +kernel
theorem dX5_isRow_4 : decode cX5_isRow 4 = .ok (.iload_n 0, 1) := by decide +kernel
theorem dX5_isRow_5 : decode cX5_isRow 5 = .ok (.bipush 6, 2) := by decide +kernel
theorem dX5_isRow_7 : decode cX5_isRow 7 = .ok (.if_icmp .ge 7, 3) := by decide +kernel
theorem dX5_isRow_10 : decode cX5_isRow 10 = .ok (.iconst 1, 1) := by decide +kernel
theorem dX5_isRow_11 : decode cX5_isRow 11 = .ok (.goto 4, 3) := by decide +kernel
theorem dX5_isRow_14 : decode cX5_isRow 14 = .ok (.iconst 0, 1) := by decide +kernel
theorem dX5_isRow_15 : decode cX5_isRow 15 = .ok (.ireturn, 1) := by decide +kernel
theorem dX5_isText_0 : decode cX5_isText 0 = .ok (.iload_n 0, 1) := by decide +kernel
theorem dX5_isText_1 : decode cX5_isText 1 = .ok (.ifCond .lt 12, 3) := by decide +kernel
theorem dX5_isText_4 : decode cX5_isText 4 = .ok (.iload_n 0, 1) := by decide +kernel
theorem dX5_isText_5 : decode cX5_isText 5 = .ok (.iconst 4, 1) := by decide +kernel
theorem dX5_isText_6 : decode cX5_isText 6 = .ok (.if_icmp .ge 7, 3) := by decide +kernel
theorem dX5_isText_9 : decode cX5_isText 9 = .ok (.iconst 1, 1) := by decide +kernel
theorem dX5_isText_10 : decode cX5_isText 10 = .ok (.goto 4, 3) := by decide +kernel
theorem dX5_isText_13 : decode cX5_isText 13 = .ok (.iconst 0, 1) := by decide +kernel
theorem dX5_isText_14 : decode cX5_isText 14 = .ok (.ireturn, 1) := by decide +kernel
theorem dX5_isColumn_0 : decode cX5_isColumn 0 = .ok (.iload_n 0, 1) := by decide +kernel
theorem dX5_isColumn_1 : decode cX5_isColumn 1 = .ok (.ifCond .lt 12, 3) := by decide +kernel
theorem dX5_isColumn_4 : decode cX5_isColumn 4 = .ok (.iload_n 0, 1) := by decide +kernel
theorem dX5_isColumn_5 : decode cX5_isColumn 5 = .ok (.iconst 3, 1) := by decide +kernel
theorem dX5_isColumn_6 : decode cX5_isColumn 6 = .ok (.if_icmp .ge 7, 3) := by decide +kernel
theorem dX5_isColumn_9 : decode cX5_isColumn 9 = .ok (.iconst 1, 1) := by decide +kernel
theorem dX5_isColumn_10 : decode cX5_isColumn 10 = .ok (.goto 4, 3) := by decide +kernel
theorem dX5_isColumn_13 : decode cX5_isColumn 13 = .ok (.iconst 0, 1) := by decide +kernel
theorem dX5_isColumn_14 : decode cX5_isColumn 14 = .ok (.ireturn, 1) := by decide +kernel
theorem dX5_isCard_0 : decode cX5_isCard 0 = .ok (.iload_n 1, 1) := by decide +kernel
theorem dX5_isCard_1 : decode cX5_isCard 1 = .ok (.ifCond .lt 18, 3) := by decide +kernel
theorem dX5_isCard_4 : decode cX5_isCard 4 = .ok (.iload_n 1, 1) := by decide +kernel
theorem dX5_isCard_5 : decode cX5_isCard 5 = .ok (.aload_n 0, 1) := by decide +kernel
theorem dX5_isCard_6 : decode cX5_isCard 6 = .ok (.getfield 34, 3) := by decide +kernel
theorem dX5_isCard_9 : decode cX5_isCard 9 = .ok (.getfield 123, 3) := by decide +kernel
theorem dX5_isCard_12 : decode cX5_isCard 12 = .ok (.if_icmp .ge 7, 3) := by decide +kernel
theorem dX5_isCard_15 : decode cX5_isCard 15 = .ok (.iconst 1, 1) := by decide +kernel
theorem dX5_isCard_16 : decode cX5_isCard 16 = .ok (.goto 4, 3) := by decide +kernel
theorem dX5_isCard_19 : decode cX5_isCard 19 = .ok (.iconst 0, 1) := by decide +kernel
theorem dX5_isCard_20 : decode cX5_isCard 20 = .ok (.ireturn, 1) := by decide +kernel
theorem dX5_isChance_0 : decode cX5_isChance 0 = .ok (.aload_n 0, 1) := by decide +kernel
theorem dX5_isChance_1 : decode cX5_isChance 1 = .ok (.iload_n 1, 1) := by decide +kernel
theorem dX5_isChance_2 : decode cX5_isChance 2 = .ok (.invokevirtual 126, 3) := by decide +kernel
theorem dX5_isChance_5 : decode cX5_isChance 5 = .ok (.ifCond .eq 24, 3) := by decide +kernel
theorem dX5_isChance_8 : decode cX5_isChance 8 = .ok (.iload_n 2, 1) := by decide +kernel
theorem dX5_isChance_9 : decode cX5_isChance 9 = .ok (.invokestatic 153, 3) := by decide +kernel
theorem dX5_isChance_12 : decode cX5_isChance 12 = .ok (.ifCond .eq 17, 3) := by decide +kernel
theorem dX5_isChance_15 : decode cX5_isChance 15 = .ok (.iload_n 3, 1) := by decide +kernel
theorem dX5_isChance_16 : decode cX5_isChance 16 = .ok (.ifCond .lt 13, 3) := by decide +kernel
theorem dX5_isChance_19 : decode cX5_isChance 19 = .ok (.iload_n 3, 1) := by decide +kernel
theorem dX5_isChance_20 : decode cX5_isChance 20 = .ok (.bipush 12, 2) := by decide +kernel
theorem dX5_isChance_22 : decode cX5_isChance 22 = .ok (.if_icmp .gt 7, 3) := by decide +kernel
theorem dX5_isChance_25 : decode cX5_isChance 25 = .ok (.iconst 1, 1) := by decide +kernel
theorem dX5_isChance_26 : decode cX5_isChance 26 = .ok (.goto 4, 3) := by decide +kernel
theorem dX5_isChance_29 : decode cX5_isChance 29 = .ok (.iconst 0, 1) := by decide +kernel
theorem dX5_isChance_30 : decode cX5_isChance 30 = .ok (.ireturn, 1) := by decide +kernel
theorem dX5_allColumns_0 : decode cX5_allColumns 0 = .ok (.iconst 0, 1) := by decide +kernel
theorem dX5_allColumns_1 : decode cX5_allColumns 1 = .ok (.istore_n 2, 1) := by decide +kernel
theorem dX5_allColumns_2 : decode cX5_allColumns 2 = .ok (.iload_n 2, 1) := by decide +kernel
theorem dX5_allColumns_3 : decode cX5_allColumns 3 = .ok (.aload_n 0, 1) := by decide +kernel
theorem dX5_allColumns_4 : decode cX5_allColumns 4 = .ok (.getfield 14, 3) := by decide +kernel
theorem dX5_allColumns_7 : decode cX5_allColumns 7 = .ok (.iload_n 1, 1) := by decide +kernel
theorem dX5_allColumns_8 : decode cX5_allColumns 8 = .ok (.invokevirtual 106, 3) := by decide +kernel
theorem dX5_allColumns_11 : decode cX5_allColumns 11 = .ok (.if_icmp .ge 26, 3) := by decide +kernel
theorem dX5_allColumns_14 : decode cX5_allColumns 14 = .ok (.aload_n 0, 1) := by decide +kernel
theorem dX5_allColumns_15 : decode cX5_allColumns 15 = .ok (.getfield 14, 3) := by decide +kernel
theorem dX5_allColumns_18 : decode cX5_allColumns 18 = .ok (.iload_n 1, 1) := by decide +kernel
theorem dX5_allColumns_19 : decode cX5_allColumns 19 = .ok (.iload_n 2, 1) := by decide +kernel
theorem dX5_allColumns_20 : decode cX5_allColumns 20 = .ok (.invokevirtual 86, 3) := by decide +kernel
theorem dX5_allColumns_23 : decode cX5_allColumns 23 = .ok (.invokestatic 153, 3) := by decide +kernel
theorem dX5_allColumns_26 : decode cX5_allColumns 26 = .ok (.ifCond .ne 5, 3) := by decide +kernel
theorem dX5_allColumns_29 : decode cX5_allColumns 29 = .ok (.iconst 0, 1) := by decide +kernel
theorem dX5_allColumns_30 : decode cX5_allColumns 30 = .ok (.ireturn, 1) := by decide +kernel
theorem dX5_allColumns_31 : decode cX5_allColumns 31 = .ok (.iinc 2 1, 3) := by decide +kernel
theorem dX5_allColumns_34 : decode cX5_allColumns 34 = .ok (.goto (-32), 3) := by decide +kernel
theorem dX5_allColumns_37 : decode cX5_allColumns 37 = .ok (.iconst 1, 1) := by decide +kernel
theorem dX5_allColumns_38 : decode cX5_allColumns 38 = .ok (.ireturn, 1) := by decide +kernel
theorem dX5_eachCardOnce_0 : decode cX5_eachCardOnce 0 = .ok (.iconst 0, 1) := by decide +kernel
theorem dX5_eachCardOnce_1 : decode cX5_eachCardOnce 1 = .ok (.istore_n 2, 1) := by decide +kernel
theorem dX5_eachCardOnce_2 : decode cX5_eachCardOnce 2 = .ok (.iconst 0, 1) := by decide +kernel
theorem dX5_eachCardOnce_3 : decode cX5_eachCardOnce 3 = .ok (.istore_n 3, 1) := by decide +kernel
theorem dX5_eachCardOnce_4 : decode cX5_eachCardOnce 4 = .ok (.iload_n 3, 1) := by decide +kernel
theorem dX5_eachCardOnce_5 : decode cX5_eachCardOnce 5 = .ok (.aload_n 0, 1) := by decide +kernel
theorem dX5_eachCardOnce_6 : decode cX5_eachCardOnce 6 = .ok (.getfield 14, 3) := by decide +kernel
theorem dX5_eachCardOnce_9 : decode cX5_eachCardOnce 9 = .ok (.iload_n 1, 1) := by decide +kernel
theorem dX5_eachCardOnce_10 : decode cX5_eachCardOnce 10 = .ok (.invokevirtual 106, 3) := by decide +kernel
theorem dX5_eachCardOnce_13 : decode cX5_eachCardOnce 13 = .ok (.if_icmp .ge 47, 3) := by decide +kernel
theorem dX5_eachCardOnce_16 : decode cX5_eachCardOnce 16 = .ok (.aload_n 0, 1) := by decide +kernel
theorem dX5_eachCardOnce_17 : decode cX5_eachCardOnce 17 = .ok (.getfield 14, 3) := by decide +kernel
theorem dX5_eachCardOnce_20 : decode cX5_eachCardOnce 20 = .ok (.iload_n 1, 1) := by decide +kernel
theorem dX5_eachCardOnce_21 : decode cX5_eachCardOnce 21 = .ok (.iload_n 3, 1) := by decide +kernel
theorem dX5_eachCardOnce_22 : decode cX5_eachCardOnce 22 = .ok (.invokevirtual 86, 3) := by decide +kernel
theorem dX5_eachCardOnce_25 : decode cX5_eachCardOnce 25 = .ok (.istore 4, 2) := by decide +kernel
theorem dX5_eachCardOnce_27 : decode cX5_eachCardOnce 27 = .ok (.aload_n 0, 1) := by decide +kernel
theorem dX5_eachCardOnce_28 : decode cX5_eachCardOnce 28 = .ok (.iload 4, 2) := by decide +kernel
theorem dX5_eachCardOnce_30 : decode cX5_eachCardOnce 30 = .ok (.invokevirtual 126, 3) := by decide +kernel
theorem dX5_eachCardOnce_33 : decode cX5_eachCardOnce 33 = .ok (.ifCond .eq 12, 3) := by decide +kernel
theorem dX5_eachCardOnce_36 : decode cX5_eachCardOnce 36 = .ok (.iload_n 2, 1) := by decide +kernel
theorem dX5_eachCardOnce_37 : decode cX5_eachCardOnce 37 = .ok (.iload 4, 2) := by decide +kernel
theorem dX5_eachCardOnce_39 : decode cX5_eachCardOnce 39 = .ok (.ishr, 1) := by decide +kernel
theorem dX5_eachCardOnce_40 : decode cX5_eachCardOnce 40 = .ok (.iconst 1, 1) := by decide +kernel
theorem dX5_eachCardOnce_41 : decode cX5_eachCardOnce 41 = .ok (.iand, 1) := by decide +kernel
theorem dX5_eachCardOnce_42 : decode cX5_eachCardOnce 42 = .ok (.ifCond .eq 5, 3) := by decide +kernel
theorem dX5_eachCardOnce_45 : decode cX5_eachCardOnce 45 = .ok (.iconst 0, 1) := by decide +kernel
theorem dX5_eachCardOnce_46 : decode cX5_eachCardOnce 46 = .ok (.ireturn, 1) := by decide +kernel
theorem dX5_eachCardOnce_47 : decode cX5_eachCardOnce 47 = .ok (.iload_n 2, 1) := by decide +kernel
theorem dX5_eachCardOnce_48 : decode cX5_eachCardOnce 48 = .ok (.iconst 1, 1) := by decide +kernel
theorem dX5_eachCardOnce_49 : decode cX5_eachCardOnce 49 = .ok (.iload 4, 2) := by decide +kernel
theorem dX5_eachCardOnce_51 : decode cX5_eachCardOnce 51 = .ok (.ishl, 1) := by decide +kernel
theorem dX5_eachCardOnce_52 : decode cX5_eachCardOnce 52 = .ok (.ior, 1) := by decide +kernel
theorem dX5_eachCardOnce_53 : decode cX5_eachCardOnce 53 = .ok (.istore_n 2, 1) := by decide +kernel
theorem dX5_eachCardOnce_54 : decode cX5_eachCardOnce 54 = .ok (.iinc 3 1, 3) := by decide +kernel
theorem dX5_eachCardOnce_57 : decode cX5_eachCardOnce 57 = .ok (.goto (-53), 3) := by decide +kernel
theorem dX5_eachCardOnce_60 : decode cX5_eachCardOnce 60 = .ok (.iconst 1, 1) := by decide +kernel
theorem dX5_eachCardOnce_61 : decode cX5_eachCardOnce 61 = .ok (.ireturn, 1) := by decide +kernel
theorem dX5_liesAs_0 : decode cX5_liesAs 0 = .ok (.iconst 0, 1) := by decide +kernel
theorem dX5_liesAs_1 : decode cX5_liesAs 1 = .ok (.istore_n 3, 1) := by decide +kernel
theorem dX5_liesAs_2 : decode cX5_liesAs 2 = .ok (.iload_n 3, 1) := by decide +kernel
theorem dX5_liesAs_3 : decode cX5_liesAs 3 = .ok (.aload_n 0, 1) := by decide +kernel
theorem dX5_liesAs_4 : decode cX5_liesAs 4 = .ok (.getfield 34, 3) := by decide +kernel
theorem dX5_liesAs_7 : decode cX5_liesAs 7 = .ok (.getfield 123, 3) := by decide +kernel
theorem dX5_liesAs_10 : decode cX5_liesAs 10 = .ok (.if_icmp .ge 26, 3) := by decide +kernel
theorem dX5_liesAs_13 : decode cX5_liesAs 13 = .ok (.aload_n 0, 1) := by decide +kernel
theorem dX5_liesAs_14 : decode cX5_liesAs 14 = .ok (.getfield 14, 3) := by decide +kernel
theorem dX5_liesAs_17 : decode cX5_liesAs 17 = .ok (.iload_n 1, 1) := by decide +kernel
theorem dX5_liesAs_18 : decode cX5_liesAs 18 = .ok (.iload_n 3, 1) := by decide +kernel
theorem dX5_liesAs_19 : decode cX5_liesAs 19 = .ok (.invokevirtual 86, 3) := by decide +kernel
theorem dX5_liesAs_22 : decode cX5_liesAs 22 = .ok (.aload_n 2, 1) := by decide +kernel
theorem dX5_liesAs_23 : decode cX5_liesAs 23 = .ok (.iload_n 3, 1) := by decide +kernel
theorem dX5_liesAs_24 : decode cX5_liesAs 24 = .ok (.iaload, 1) := by decide +kernel
theorem dX5_liesAs_25 : decode cX5_liesAs 25 = .ok (.if_icmp .eq 5, 3) := by decide +kernel
theorem dX5_liesAs_28 : decode cX5_liesAs 28 = .ok (.iconst 0, 1) := by decide +kernel
theorem dX5_liesAs_29 : decode cX5_liesAs 29 = .ok (.ireturn, 1) := by decide +kernel
theorem dX5_liesAs_30 : decode cX5_liesAs 30 = .ok (.iinc 3 1, 3) := by decide +kernel
theorem dX5_liesAs_33 : decode cX5_liesAs 33 = .ok (.goto (-31), 3) := by decide +kernel
theorem dX5_liesAs_36 : decode cX5_liesAs 36 = .ok (.iconst 1, 1) := by decide +kernel
theorem dX5_liesAs_37 : decode cX5_liesAs 37 = .ok (.ireturn, 1) := by decide +kernel
theorem dX5_cardFact_0 : decode cX5_cardFact 0 = .ok (.iload_n 2, 1) := by decide +kernel
theorem dX5_cardFact_1 : decode cX5_cardFact 1 = .ok (.ifCond .ne 13, 3) := by decide +kernel
theorem dX5_cardFact_4 : decode cX5_cardFact 4 = .ok (.aload_n 0, 1) := by decide +kernel
theorem dX5_cardFact_5 : decode cX5_cardFact 5 = .ok (.getfield 34, 3) := by decide +kernel
theorem dX5_cardFact_8 : decode cX5_cardFact 8 = .ok (.getfield 132, 3) := by decide +kernel
theorem dX5_cardFact_11 : decode cX5_cardFact 11 = .ok (.iload_n 1, 1) := by decide +kernel
theorem dX5_cardFact_12 : decode cX5_cardFact 12 = .ok (.iaload, 1) := by decide +kernel
theorem dX5_cardFact_13 : decode cX5_cardFact 13 = .ok (.ireturn, 1) := by decide +kernel
theorem dX5_cardFact_14 : decode cX5_cardFact 14 = .ok (.iload_n 2, 1) := by decide +kernel
theorem dX5_cardFact_15 : decode cX5_cardFact 15 = .ok (.iconst 3, 1) := by decide +kernel
theorem dX5_cardFact_16 : decode cX5_cardFact 16 = .ok (.if_icmp .gt 15, 3) := by decide +kernel
theorem dX5_cardFact_19 : decode cX5_cardFact 19 = .ok (.aload_n 0, 1) := by decide +kernel
theorem dX5_cardFact_20 : decode cX5_cardFact 20 = .ok (.getfield 34, 3) := by decide +kernel
theorem dX5_cardFact_23 : decode cX5_cardFact 23 = .ok (.iload_n 1, 1) := by decide +kernel
theorem dX5_cardFact_24 : decode cX5_cardFact 24 = .ok (.iload_n 2, 1) := by decide +kernel
theorem dX5_cardFact_25 : decode cX5_cardFact 25 = .ok (.iconst 1, 1) := by decide +kernel
theorem dX5_cardFact_26 : decode cX5_cardFact 26 = .ok (.isub, 1) := by decide +kernel
theorem dX5_cardFact_27 : decode cX5_cardFact 27 = .ok (.invokevirtual 166, 3) := by decide +kernel
theorem dX5_cardFact_30 : decode cX5_cardFact 30 = .ok (.ireturn, 1) := by decide +kernel
theorem dX5_cardFact_31 : decode cX5_cardFact 31 = .ok (.iload_n 2, 1) := by decide +kernel
theorem dX5_cardFact_32 : decode cX5_cardFact 32 = .ok (.iconst 4, 1) := by decide +kernel
theorem dX5_cardFact_33 : decode cX5_cardFact 33 = .ok (.if_icmp .ne 12, 3) := by decide +kernel
theorem dX5_cardFact_36 : decode cX5_cardFact 36 = .ok (.aload_n 0, 1) := by decide +kernel
theorem dX5_cardFact_37 : decode cX5_cardFact 37 = .ok (.getfield 34, 3) := by decide +kernel
theorem dX5_cardFact_40 : decode cX5_cardFact 40 = .ok (.iload_n 1, 1) := by decide +kernel
theorem dX5_cardFact_41 : decode cX5_cardFact 41 = .ok (.invokevirtual 147, 3) := by decide +kernel
theorem dX5_cardFact_44 : decode cX5_cardFact 44 = .ok (.ireturn, 1) := by decide +kernel
theorem dX5_cardFact_45 : decode cX5_cardFact 45 = .ok (.aload_n 0, 1) := by decide +kernel
theorem dX5_cardFact_46 : decode cX5_cardFact 46 = .ok (.getfield 34, 3) := by decide +kernel
theorem dX5_cardFact_49 : decode cX5_cardFact 49 = .ok (.iload_n 1, 1) := by decide +kernel
theorem dX5_cardFact_50 : decode cX5_cardFact 50 = .ok (.iload_n 2, 1) := by decide +kernel
theorem dX5_cardFact_51 : decode cX5_cardFact 51 = .ok (.iconst 3, 1) := by decide +kernel
theorem dX5_cardFact_52 : decode cX5_cardFact 52 = .ok (.isub, 1) := by decide +kernel
theorem dX5_cardFact_53 : decode cX5_cardFact 53 = .ok (.iconst 2, 1) := by decide +kernel
theorem dX5_cardFact_54 : decode cX5_cardFact 54 = .ok (.isub, 1) := by decide +kernel
theorem dX5_cardFact_55 : decode cX5_cardFact 55 = .ok (.aload_n 0, 1) := by decide +kernel
theorem dX5_cardFact_56 : decode cX5_cardFact 56 = .ok (.getfield 34, 3) := by decide +kernel
theorem dX5_cardFact_59 : decode cX5_cardFact 59 = .ok (.getfield 139, 3) := by decide +kernel
theorem dX5_cardFact_62 : decode cX5_cardFact 62 = .ok (.invokevirtual 178, 3) := by decide +kernel
theorem dX5_cardFact_65 : decode cX5_cardFact 65 = .ok (.ireturn, 1) := by decide +kernel
theorem dX5_markedColumns_0 : decode cX5_markedColumns 0 = .ok (.iconst 0, 1) := by decide +kernel
theorem dX5_markedColumns_1 : decode cX5_markedColumns 1 = .ok (.istore_n 3, 1) := by decide +kernel
theorem dX5_markedColumns_2 : decode cX5_markedColumns 2 = .ok (.iconst 0, 1) := by decide +kernel
theorem dX5_markedColumns_3 : decode cX5_markedColumns 3 = .ok (.istore 4, 2) := by decide +kernel
theorem dX5_markedColumns_5 : decode cX5_markedColumns 5 = .ok (.iload 4, 2) := by decide +kernel
theorem dX5_markedColumns_7 : decode cX5_markedColumns 7 = .ok (.iconst 3, 1) := by decide +kernel
theorem dX5_markedColumns_8 : decode cX5_markedColumns 8 = .ok (.if_icmp .ge 106, 3) := by decide +kernel
theorem dX5_markedColumns_11 : decode cX5_markedColumns 11 = .ok (.aload_n 0, 1) := by decide +kernel
theorem dX5_markedColumns_12 : decode cX5_markedColumns 12 = .ok (.getfield 34, 3) := by decide +kernel
theorem dX5_markedColumns_15 : decode cX5_markedColumns 15 = .ok (.iload_n 1, 1) := by decide +kernel
theorem dX5_markedColumns_16 : decode cX5_markedColumns 16 = .ok (.iload 4, 2) := by decide +kernel
theorem dX5_markedColumns_18 : decode cX5_markedColumns 18 = .ok (.aload_n 0, 1) := by decide +kernel
theorem dX5_markedColumns_19 : decode cX5_markedColumns 19 = .ok (.getfield 34, 3) := by decide +kernel
theorem dX5_markedColumns_22 : decode cX5_markedColumns 22 = .ok (.getfield 139, 3) := by decide +kernel
theorem dX5_markedColumns_25 : decode cX5_markedColumns 25 = .ok (.invokevirtual 178, 3) := by decide +kernel
theorem dX5_markedColumns_28 : decode cX5_markedColumns 28 = .ok (.istore 5, 2) := by decide +kernel
theorem dX5_markedColumns_30 : decode cX5_markedColumns 30 = .ok (.aload_n 0, 1) := by decide +kernel
theorem dX5_markedColumns_31 : decode cX5_markedColumns 31 = .ok (.getfield 34, 3) := by decide +kernel
theorem dX5_markedColumns_34 : decode cX5_markedColumns 34 = .ok (.iload_n 1, 1) := by decide +kernel
theorem dX5_markedColumns_35 : decode cX5_markedColumns 35 = .ok (.iload 4, 2) := by decide +kernel
theorem dX5_markedColumns_37 : decode cX5_markedColumns 37 = .ok (.invokevirtual 166, 3) := by decide +kernel
theorem dX5_markedColumns_40 : decode cX5_markedColumns 40 = .ok (.istore 6, 2) := by decide +kernel
theorem dX5_markedColumns_42 : decode cX5_markedColumns 42 = .ok (.iload_n 2, 1) := by decide +kernel
theorem dX5_markedColumns_43 : decode cX5_markedColumns 43 = .ok (.iconst 1, 1) := by decide +kernel
theorem dX5_markedColumns_44 : decode cX5_markedColumns 44 = .ok (.if_icmp .ne 20, 3) := by decide +kernel
theorem dX5_markedColumns_47 : decode cX5_markedColumns 47 = .ok (.iload 5, 2) := by decide +kernel
theorem dX5_markedColumns_49 : decode cX5_markedColumns 49 = .ok (.iload 6, 2) := by decide +kernel
theorem dX5_markedColumns_51 : decode cX5_markedColumns 51 = .ok (.if_icmp .eq 7, 3) := by decide +kernel
theorem dX5_markedColumns_54 : decode cX5_markedColumns 54 = .ok (.iconst 1, 1) := by decide +kernel
theorem dX5_markedColumns_55 : decode cX5_markedColumns 55 = .ok (.goto 4, 3) := by decide +kernel
theorem dX5_markedColumns_58 : decode cX5_markedColumns 58 = .ok (.iconst 0, 1) := by decide +kernel
theorem dX5_markedColumns_59 : decode cX5_markedColumns 59 = .ok (.istore 7, 2) := by decide +kernel
theorem dX5_markedColumns_61 : decode cX5_markedColumns 61 = .ok (.goto 39, 3) := by decide +kernel
theorem dX5_markedColumns_64 : decode cX5_markedColumns 64 = .ok (.iload_n 2, 1) := by decide +kernel
theorem dX5_markedColumns_65 : decode cX5_markedColumns 65 = .ok (.iconst 3, 1) := by decide +kernel
theorem dX5_markedColumns_66 : decode cX5_markedColumns 66 = .ok (.if_icmp .ne 20, 3) := by decide +kernel
theorem dX5_markedColumns_69 : decode cX5_markedColumns 69 = .ok (.iload 5, 2) := by decide +kernel
theorem dX5_markedColumns_71 : decode cX5_markedColumns 71 = .ok (.iload 6, 2) := by decide +kernel
theorem dX5_markedColumns_73 : decode cX5_markedColumns 73 = .ok (.if_icmp .le 7, 3) := by decide +kernel
theorem dX5_markedColumns_76 : decode cX5_markedColumns 76 = .ok (.iconst 1, 1) := by decide +kernel
theorem dX5_markedColumns_77 : decode cX5_markedColumns 77 = .ok (.goto 4, 3) := by decide +kernel
theorem dX5_markedColumns_80 : decode cX5_markedColumns 80 = .ok (.iconst 0, 1) := by decide +kernel
theorem dX5_markedColumns_81 : decode cX5_markedColumns 81 = .ok (.istore 7, 2) := by decide +kernel
theorem dX5_markedColumns_83 : decode cX5_markedColumns 83 = .ok (.goto 17, 3) := by decide +kernel
theorem dX5_markedColumns_86 : decode cX5_markedColumns 86 = .ok (.iload 5, 2) := by decide +kernel
theorem dX5_markedColumns_88 : decode cX5_markedColumns 88 = .ok (.bipush 10, 2) := by decide +kernel
theorem dX5_markedColumns_90 : decode cX5_markedColumns 90 = .ok (.if_icmp .ne 7, 3) := by decide +kernel
theorem dX5_markedColumns_93 : decode cX5_markedColumns 93 = .ok (.iconst 1, 1) := by decide +kernel
theorem dX5_markedColumns_94 : decode cX5_markedColumns 94 = .ok (.goto 4, 3) := by decide +kernel
theorem dX5_markedColumns_97 : decode cX5_markedColumns 97 = .ok (.iconst 0, 1) := by decide +kernel
theorem dX5_markedColumns_98 : decode cX5_markedColumns 98 = .ok (.istore 7, 2) := by decide +kernel
theorem dX5_markedColumns_100 : decode cX5_markedColumns 100 = .ok (.iload 7, 2) := by decide +kernel
theorem dX5_markedColumns_102 : decode cX5_markedColumns 102 = .ok (.ifCond .eq 6, 3) := by decide +kernel
theorem dX5_markedColumns_105 : decode cX5_markedColumns 105 = .ok (.iinc 3 1, 3) := by decide +kernel
theorem dX5_markedColumns_108 : decode cX5_markedColumns 108 = .ok (.iinc 4 1, 3) := by decide +kernel
theorem dX5_markedColumns_111 : decode cX5_markedColumns 111 = .ok (.goto (-106), 3) := by decide +kernel
theorem dX5_markedColumns_114 : decode cX5_markedColumns 114 = .ok (.iload_n 3, 1) := by decide +kernel
theorem dX5_markedColumns_115 : decode cX5_markedColumns 115 = .ok (.ireturn, 1) := by decide +kernel
theorem dX5_counted_0 : decode cX5_counted 0 = .ok (.iload_n 1, 1) := by decide +kernel
theorem dX5_counted_1 : decode cX5_counted 1 = .ok (.tableswitch 142 0 8 #[51, 59, 67, 75, 100, 108, 117, 126, 134], 51) := by decide +kernel
theorem dX5_counted_52 : decode cX5_counted 52 = .ok (.aload_n 0, 1) := by decide +kernel
theorem dX5_counted_53 : decode cX5_counted 53 = .ok (.getfield 34, 3) := by decide +kernel
theorem dX5_counted_56 : decode cX5_counted 56 = .ok (.getfield 123, 3) := by decide +kernel
theorem dX5_counted_59 : decode cX5_counted 59 = .ok (.ireturn, 1) := by decide +kernel
theorem dX5_counted_60 : decode cX5_counted 60 = .ok (.aload_n 0, 1) := by decide +kernel
theorem dX5_counted_61 : decode cX5_counted 61 = .ok (.getfield 34, 3) := by decide +kernel
theorem dX5_counted_64 : decode cX5_counted 64 = .ok (.getfield 139, 3) := by decide +kernel
theorem dX5_counted_67 : decode cX5_counted 67 = .ok (.ireturn, 1) := by decide +kernel
theorem dX5_counted_68 : decode cX5_counted 68 = .ok (.aload_n 0, 1) := by decide +kernel
theorem dX5_counted_69 : decode cX5_counted 69 = .ok (.getfield 34, 3) := by decide +kernel
theorem dX5_counted_72 : decode cX5_counted 72 = .ok (.getfield 169, 3) := by decide +kernel
theorem dX5_counted_75 : decode cX5_counted 75 = .ok (.ireturn, 1) := by decide +kernel
theorem dX5_counted_76 : decode cX5_counted 76 = .ok (.aload_n 0, 1) := by decide +kernel
theorem dX5_counted_77 : decode cX5_counted 77 = .ok (.getfield 34, 3) := by decide +kernel
theorem dX5_counted_80 : decode cX5_counted 80 = .ok (.getfield 123, 3) := by decide +kernel
theorem dX5_counted_83 : decode cX5_counted 83 = .ok (.ifCond .ne 8, 3) := by decide +kernel
theorem dX5_counted_86 : decode cX5_counted 86 = .ok (.bipush (-9), 2) := by decide +kernel
theorem dX5_counted_88 : decode cX5_counted 88 = .ok (.goto 12, 3) := by decide +kernel
theorem dX5_counted_91 : decode cX5_counted 91 = .ok (.aload_n 0, 1) := by decide +kernel
theorem dX5_counted_92 : decode cX5_counted 92 = .ok (.getfield 34, 3) := by decide +kernel
theorem dX5_counted_95 : decode cX5_counted 95 = .ok (.getfield 263, 3) := by decide +kernel
theorem dX5_counted_98 : decode cX5_counted 98 = .ok (.iconst 0, 1) := by decide +kernel
theorem dX5_counted_99 : decode cX5_counted 99 = .ok (.iaload, 1) := by decide +kernel
theorem dX5_counted_100 : decode cX5_counted 100 = .ok (.ireturn, 1) := by decide +kernel
theorem dX5_counted_101 : decode cX5_counted 101 = .ok (.aload_n 0, 1) := by decide +kernel
theorem dX5_counted_102 : decode cX5_counted 102 = .ok (.getfield 34, 3) := by decide +kernel
theorem dX5_counted_105 : decode cX5_counted 105 = .ok (.invokevirtual 277, 3) := by decide +kernel
theorem dX5_counted_108 : decode cX5_counted 108 = .ok (.ireturn, 1) := by decide +kernel
theorem dX5_counted_109 : decode cX5_counted 109 = .ok (.aload_n 0, 1) := by decide +kernel
theorem dX5_counted_110 : decode cX5_counted 110 = .ok (.getfield 34, 3) := by decide +kernel
theorem dX5_counted_113 : decode cX5_counted 113 = .ok (.iconst 2, 1) := by decide +kernel
theorem dX5_counted_114 : decode cX5_counted 114 = .ok (.invokevirtual 281, 3) := by decide +kernel
theorem dX5_counted_117 : decode cX5_counted 117 = .ok (.ireturn, 1) := by decide +kernel
theorem dX5_counted_118 : decode cX5_counted 118 = .ok (.aload_n 0, 1) := by decide +kernel
theorem dX5_counted_119 : decode cX5_counted 119 = .ok (.getfield 34, 3) := by decide +kernel
theorem dX5_counted_122 : decode cX5_counted 122 = .ok (.iconst 3, 1) := by decide +kernel
theorem dX5_counted_123 : decode cX5_counted 123 = .ok (.invokevirtual 281, 3) := by decide +kernel
theorem dX5_counted_126 : decode cX5_counted 126 = .ok (.ireturn, 1) := by decide +kernel
theorem dX5_counted_127 : decode cX5_counted 127 = .ok (.aload_n 0, 1) := by decide +kernel
theorem dX5_counted_128 : decode cX5_counted 128 = .ok (.getfield 14, 3) := by decide +kernel
theorem dX5_counted_131 : decode cX5_counted 131 = .ok (.invokevirtual 284, 3) := by decide +kernel
theorem dX5_counted_134 : decode cX5_counted 134 = .ok (.ireturn, 1) := by decide +kernel
theorem dX5_counted_135 : decode cX5_counted 135 = .ok (.aload_n 0, 1) := by decide +kernel
theorem dX5_counted_136 : decode cX5_counted 136 = .ok (.getfield 18, 3) := by decide +kernel
theorem dX5_counted_139 : decode cX5_counted 139 = .ok (.invokevirtual 284, 3) := by decide +kernel
theorem dX5_counted_142 : decode cX5_counted 142 = .ok (.ireturn, 1) := by decide +kernel
theorem dX5_counted_143 : decode cX5_counted 143 = .ok (.aload_n 0, 1) := by decide +kernel
theorem dX5_counted_144 : decode cX5_counted 144 = .ok (.getfield 21, 3) := by decide +kernel
theorem dX5_counted_147 : decode cX5_counted 147 = .ok (.invokevirtual 284, 3) := by decide +kernel
theorem dX5_counted_150 : decode cX5_counted 150 = .ok (.ireturn, 1) := by decide +kernel
theorem dX5_soughtInto_0 : decode cX5_soughtInto 0 = .ok (.aload_n 0, 1) := by decide +kernel
theorem dX5_soughtInto_1 : decode cX5_soughtInto 1 = .ok (.getfield 41, 3) := by decide +kernel
theorem dX5_soughtInto_4 : decode cX5_soughtInto 4 = .ok (.aload_n 0, 1) := by decide +kernel
theorem dX5_soughtInto_5 : decode cX5_soughtInto 5 = .ok (.getfield 34, 3) := by decide +kernel
theorem dX5_soughtInto_8 : decode cX5_soughtInto 8 = .ok (.invokevirtual 287, 3) := by decide +kernel
theorem dX5_soughtInto_11 : decode cX5_soughtInto 11 = .ok (.istore_n 2, 1) := by decide +kernel
theorem dX5_soughtInto_12 : decode cX5_soughtInto 12 = .ok (.iload_n 2, 1) := by decide +kernel
theorem dX5_soughtInto_13 : decode cX5_soughtInto 13 = .ok (.bipush (-9), 2) := by decide +kernel
theorem dX5_soughtInto_15 : decode cX5_soughtInto 15 = .ok (.if_icmp .eq 19, 3) := by decide +kernel
theorem dX5_soughtInto_18 : decode cX5_soughtInto 18 = .ok (.aload_n 0, 1) := by decide +kernel
theorem dX5_soughtInto_19 : decode cX5_soughtInto 19 = .ok (.getfield 14, 3) := by decide +kernel
theorem dX5_soughtInto_22 : decode cX5_soughtInto 22 = .ok (.iload_n 1, 1) := by decide +kernel
theorem dX5_soughtInto_23 : decode cX5_soughtInto 23 = .ok (.aload_n 0, 1) := by decide +kernel
theorem dX5_soughtInto_24 : decode cX5_soughtInto 24 = .ok (.getfield 41, 3) := by decide +kernel
theorem dX5_soughtInto_27 : decode cX5_soughtInto 27 = .ok (.getfield 291, 3) := by decide +kernel
theorem dX5_soughtInto_30 : decode cX5_soughtInto 30 = .ok (.iload_n 2, 1) := by decide +kernel
theorem dX5_soughtInto_31 : decode cX5_soughtInto 31 = .ok (.invokevirtual 189, 3) := by decide +kernel
theorem dX5_soughtInto_34 : decode cX5_soughtInto 34 = .ok (.iload_n 2, 1) := by decide +kernel
theorem dX5_soughtInto_35 : decode cX5_soughtInto 35 = .ok (.ireturn, 1) := by decide +kernel
theorem dX5_weightOf_0 : decode cX5_weightOf 0 = .ok (.lconst 1, 1) := by decide +kernel
theorem dX5_weightOf_1 : decode cX5_weightOf 1 = .ok (.lstore_n 3, 1) := by decide +kernel
theorem dX5_weightOf_2 : decode cX5_weightOf 2 = .ok (.iconst 0, 1) := by decide +kernel
theorem dX5_weightOf_3 : decode cX5_weightOf 3 = .ok (.istore 5, 2) := by decide +kernel
theorem dX5_weightOf_5 : decode cX5_weightOf 5 = .ok (.iload 5, 2) := by decide +kernel
theorem dX5_weightOf_7 : decode cX5_weightOf 7 = .ok (.aload_n 0, 1) := by decide +kernel
theorem dX5_weightOf_8 : decode cX5_weightOf 8 = .ok (.getfield 34, 3) := by decide +kernel
theorem dX5_weightOf_11 : decode cX5_weightOf 11 = .ok (.getfield 123, 3) := by decide +kernel
theorem dX5_weightOf_14 : decode cX5_weightOf 14 = .ok (.if_icmp .ge 31, 3) := by decide +kernel
theorem dX5_weightOf_17 : decode cX5_weightOf 17 = .ok (.lload_n 3, 1) := by decide +kernel
theorem dX5_weightOf_18 : decode cX5_weightOf 18 = .ok (.iload_n 1, 1) := by decide +kernel
theorem dX5_weightOf_19 : decode cX5_weightOf 19 = .ok (.iload 5, 2) := by decide +kernel
theorem dX5_weightOf_21 : decode cX5_weightOf 21 = .ok (.ishr, 1) := by decide +kernel
theorem dX5_weightOf_22 : decode cX5_weightOf 22 = .ok (.iconst 1, 1) := by decide +kernel
theorem dX5_weightOf_23 : decode cX5_weightOf 23 = .ok (.iand, 1) := by decide +kernel
theorem dX5_weightOf_24 : decode cX5_weightOf 24 = .ok (.ifCond .eq 8, 3) := by decide +kernel
theorem dX5_weightOf_27 : decode cX5_weightOf 27 = .ok (.iload_n 2, 1) := by decide +kernel
theorem dX5_weightOf_28 : decode cX5_weightOf 28 = .ok (.i2l, 1) := by decide +kernel
theorem dX5_weightOf_29 : decode cX5_weightOf 29 = .ok (.goto 8, 3) := by decide +kernel
theorem dX5_weightOf_32 : decode cX5_weightOf 32 = .ok (.bipush 12, 2) := by decide +kernel
theorem dX5_weightOf_34 : decode cX5_weightOf 34 = .ok (.iload_n 2, 1) := by decide +kernel
theorem dX5_weightOf_35 : decode cX5_weightOf 35 = .ok (.isub, 1) := by decide +kernel
theorem dX5_weightOf_36 : decode cX5_weightOf 36 = .ok (.i2l, 1) := by decide +kernel
theorem dX5_weightOf_37 : decode cX5_weightOf 37 = .ok (.lmul, 1) := by decide +kernel
theorem dX5_weightOf_38 : decode cX5_weightOf 38 = .ok (.lstore_n 3, 1) := by decide +kernel
theorem dX5_weightOf_39 : decode cX5_weightOf 39 = .ok (.iinc 5 1, 3) := by decide +kernel
theorem dX5_weightOf_42 : decode cX5_weightOf 42 = .ok (.goto (-37), 3) := by decide +kernel
theorem dX5_weightOf_45 : decode cX5_weightOf 45 = .ok (.lload_n 3, 1) := by decide +kernel
theorem dX5_weightOf_46 : decode cX5_weightOf 46 = .ok (.lreturn, 1) := by decide +kernel
theorem dX5_allWeights_0 : decode cX5_allWeights 0 = .ok (.lconst 1, 1) := by decide +kernel
theorem dX5_allWeights_1 : decode cX5_allWeights 1 = .ok (.lstore_n 1, 1) := by decide +kernel
theorem dX5_allWeights_2 : decode cX5_allWeights 2 = .ok (.iconst 0, 1) := by decide +kernel
theorem dX5_allWeights_3 : decode cX5_allWeights 3 = .ok (.istore_n 3, 1) := by decide +kernel
theorem dX5_allWeights_4 : decode cX5_allWeights 4 = .ok (.iload_n 3, 1) := by decide +kernel
theorem dX5_allWeights_5 : decode cX5_allWeights 5 = .ok (.aload_n 0, 1) := by decide +kernel
theorem dX5_allWeights_6 : decode cX5_allWeights 6 = .ok (.getfield 34, 3) := by decide +kernel
theorem dX5_allWeights_9 : decode cX5_allWeights 9 = .ok (.getfield 123, 3) := by decide +kernel
theorem dX5_allWeights_12 : decode cX5_allWeights 12 = .ok (.if_icmp .ge 15, 3) := by decide +kernel
theorem dX5_allWeights_15 : decode cX5_allWeights 15 = .ok (.lload_n 1, 1) := by decide +kernel
theorem dX5_allWeights_16 : decode cX5_allWeights 16 = .ok (.ldc2_w 294, 3) := by decide +kernel
theorem dX5_allWeights_19 : decode cX5_allWeights 19 = .ok (.lmul, 1) := by decide +kernel
theorem dX5_allWeights_20 : decode cX5_allWeights 20 = .ok (.lstore_n 1, 1) := by decide +kernel
theorem dX5_allWeights_21 : decode cX5_allWeights 21 = .ok (.iinc 3 1, 3) := by decide +kernel
theorem dX5_allWeights_24 : decode cX5_allWeights 24 = .ok (.goto (-20), 3) := by decide +kernel
theorem dX5_allWeights_27 : decode cX5_allWeights 27 = .ok (.lload_n 1, 1) := by decide +kernel
theorem dX5_allWeights_28 : decode cX5_allWeights 28 = .ok (.lreturn, 1) := by decide +kernel
theorem dX5_tellParts_0 : decode cX5_tellParts 0 = .ok (.lload_n 1, 1) := by decide +kernel
theorem dX5_tellParts_1 : decode cX5_tellParts 1 = .ok (.lload_n 3, 1) := by decide +kernel
theorem dX5_tellParts_2 : decode cX5_tellParts 2 = .ok (.invokestatic 296, 3) := by decide +kernel
theorem dX5_tellParts_5 : decode cX5_tellParts 5 = .ok (.lstore 5, 2) := by decide +kernel
theorem dX5_tellParts_7 : decode cX5_tellParts 7 = .ok (.lload 5, 2) := by decide +kernel
theorem dX5_tellParts_9 : decode cX5_tellParts 9 = .ok (.lconst 0, 1) := by decide +kernel
theorem dX5_tellParts_10 : decode cX5_tellParts 10 = .ok (.lcmp, 1) := by decide +kernel
theorem dX5_tellParts_11 : decode cX5_tellParts 11 = .ok (.ifCond .le 19, 3) := by decide +kernel
theorem dX5_tellParts_14 : decode cX5_tellParts 14 = .ok (.aload_n 0, 1) := by decide +kernel
theorem dX5_tellParts_15 : decode cX5_tellParts 15 = .ok (.lload_n 1, 1) := by decide +kernel
theorem dX5_tellParts_16 : decode cX5_tellParts 16 = .ok (.lload 5, 2) := by decide +kernel
theorem dX5_tellParts_18 : decode cX5_tellParts 18 = .ok (.ldiv, 1) := by decide +kernel
theorem dX5_tellParts_19 : decode cX5_tellParts 19 = .ok (.putfield 63, 3) := by decide +kernel
theorem dX5_tellParts_22 : decode cX5_tellParts 22 = .ok (.aload_n 0, 1) := by decide +kernel
theorem dX5_tellParts_23 : decode cX5_tellParts 23 = .ok (.lload_n 3, 1) := by decide +kernel
theorem dX5_tellParts_24 : decode cX5_tellParts 24 = .ok (.lload 5, 2) := by decide +kernel
theorem dX5_tellParts_26 : decode cX5_tellParts 26 = .ok (.ldiv, 1) := by decide +kernel
theorem dX5_tellParts_27 : decode cX5_tellParts 27 = .ok (.putfield 67, 3) := by decide +kernel
theorem dX5_tellParts_30 : decode cX5_tellParts 30 = .ok (.return_, 1) := by decide +kernel
theorem dX5_commonDivisor_0 : decode cX5_commonDivisor 0 = .ok (.iconst 0, 1) := by decide +kernel
theorem dX5_commonDivisor_1 : decode cX5_commonDivisor 1 = .ok (.istore 4, 2) := by decide +kernel
theorem dX5_commonDivisor_3 : decode cX5_commonDivisor 3 = .ok (.iload 4, 2) := by decide +kernel
theorem dX5_commonDivisor_5 : decode cX5_commonDivisor 5 = .ok (.sipush 200, 3) := by decide +kernel
theorem dX5_commonDivisor_8 : decode cX5_commonDivisor 8 = .ok (.if_icmp .ge 25, 3) := by decide +kernel
theorem dX5_commonDivisor_11 : decode cX5_commonDivisor 11 = .ok (.lload_n 2, 1) := by decide +kernel
theorem dX5_commonDivisor_12 : decode cX5_commonDivisor 12 = .ok (.lconst 0, 1) := by decide +kernel
theorem dX5_commonDivisor_13 : decode cX5_commonDivisor 13 = .ok (.lcmp, 1) := by decide +kernel
theorem dX5_commonDivisor_14 : decode cX5_commonDivisor 14 = .ok (.ifCond .eq 19, 3) := by decide +kernel
theorem dX5_commonDivisor_17 : decode cX5_commonDivisor 17 = .ok (.lload_n 0, 1) := by decide +kernel
theorem dX5_commonDivisor_18 : decode cX5_commonDivisor 18 = .ok (.lload_n 2, 1) := by decide +kernel
theorem dX5_commonDivisor_19 : decode cX5_commonDivisor 19 = .ok (.lrem, 1) := by decide +kernel
theorem dX5_commonDivisor_20 : decode cX5_commonDivisor 20 = .ok (.lstore 5, 2) := by decide +kernel
theorem dX5_commonDivisor_22 : decode cX5_commonDivisor 22 = .ok (.lload_n 2, 1) := by decide +kernel
theorem dX5_commonDivisor_23 : decode cX5_commonDivisor 23 = .ok (.lstore_n 0, 1) := by decide +kernel
theorem dX5_commonDivisor_24 : decode cX5_commonDivisor 24 = .ok (.lload 5, 2) := by decide +kernel
theorem dX5_commonDivisor_26 : decode cX5_commonDivisor 26 = .ok (.lstore_n 2, 1) := by decide +kernel
theorem dX5_commonDivisor_27 : decode cX5_commonDivisor 27 = .ok (.iinc 4 1, 3) := by decide +kernel
theorem dX5_commonDivisor_30 : decode cX5_commonDivisor 30 = .ok (.goto (-27), 3) := by decide +kernel
theorem dX5_commonDivisor_33 : decode cX5_commonDivisor 33 = .ok (.lload_n 0, 1) := by decide +kernel
theorem dX5_commonDivisor_34 : decode cX5_commonDivisor 34 = .ok (.lreturn, 1) := by decide +kernel
theorem dX5_deedOf_0 : decode cX5_deedOf 0 = .ok (.iload_n 0, 1) := by decide +kernel
theorem dX5_deedOf_1 : decode cX5_deedOf 1 = .ok (.bipush 10, 2) := by decide +kernel
theorem dX5_deedOf_3 : decode cX5_deedOf 3 = .ok (.imul, 1) := by decide +kernel
theorem dX5_deedOf_4 : decode cX5_deedOf 4 = .ok (.iload_n 1, 1) := by decide +kernel
theorem dX5_deedOf_5 : decode cX5_deedOf 5 = .ok (.iadd, 1) := by decide +kernel
theorem dX5_deedOf_6 : decode cX5_deedOf 6 = .ok (.bipush 10, 2) := by decide +kernel
theorem dX5_deedOf_8 : decode cX5_deedOf 8 = .ok (.imul, 1) := by decide +kernel
theorem dX5_deedOf_9 : decode cX5_deedOf 9 = .ok (.iload_n 2, 1) := by decide +kernel
theorem dX5_deedOf_10 : decode cX5_deedOf 10 = .ok (.iadd, 1) := by decide +kernel
theorem dX5_deedOf_11 : decode cX5_deedOf 11 = .ok (.bipush 10, 2) := by decide +kernel
theorem dX5_deedOf_13 : decode cX5_deedOf 13 = .ok (.imul, 1) := by decide +kernel
theorem dX5_deedOf_14 : decode cX5_deedOf 14 = .ok (.iload_n 3, 1) := by decide +kernel
theorem dX5_deedOf_15 : decode cX5_deedOf 15 = .ok (.iadd, 1) := by decide +kernel
theorem dX5_deedOf_16 : decode cX5_deedOf 16 = .ok (.ireturn, 1) := by decide +kernel
theorem dX5_deedByLot_0 : decode cX5_deedByLot 0 = .ok (.iload_n 0, 1) := by decide +kernel
theorem dX5_deedByLot_1 : decode cX5_deedByLot 1 = .ok (.bipush 8, 2) := by decide +kernel
theorem dX5_deedByLot_3 : decode cX5_deedByLot 3 = .ok (.idiv, 1) := by decide +kernel
theorem dX5_deedByLot_4 : decode cX5_deedByLot 4 = .ok (.bipush 8, 2) := by decide +kernel
theorem dX5_deedByLot_6 : decode cX5_deedByLot 6 = .ok (.irem, 1) := by decide +kernel
theorem dX5_deedByLot_7 : decode cX5_deedByLot 7 = .ok (.istore_n 2, 1) := by decide +kernel
theorem dX5_deedByLot_8 : decode cX5_deedByLot 8 = .ok (.iload_n 2, 1) := by decide +kernel
theorem dX5_deedByLot_9 : decode cX5_deedByLot 9 = .ok (.iconst 5, 1) := by decide +kernel
theorem dX5_deedByLot_10 : decode cX5_deedByLot 10 = .ok (.if_icmp .lt 8, 3) := by decide +kernel
theorem dX5_deedByLot_13 : decode cX5_deedByLot 13 = .ok (.iload_n 1, 1) := by decide +kernel
theorem dX5_deedByLot_14 : decode cX5_deedByLot 14 = .ok (.iconst 2, 1) := by decide +kernel
theorem dX5_deedByLot_15 : decode cX5_deedByLot 15 = .ok (.if_icmp .ge 13, 3) := by decide +kernel
theorem dX5_deedByLot_18 : decode cX5_deedByLot 18 = .ok (.iconst 0, 1) := by decide +kernel
theorem dX5_deedByLot_19 : decode cX5_deedByLot 19 = .ok (.iload_n 0, 1) := by decide +kernel
theorem dX5_deedByLot_20 : decode cX5_deedByLot 20 = .ok (.iconst 3, 1) := by decide +kernel
theorem dX5_deedByLot_21 : decode cX5_deedByLot 21 = .ok (.irem, 1) := by decide +kernel
theorem dX5_deedByLot_22 : decode cX5_deedByLot 22 = .ok (.iconst 0, 1) := by decide +kernel
theorem dX5_deedByLot_23 : decode cX5_deedByLot 23 = .ok (.iconst 0, 1) := by decide +kernel
theorem dX5_deedByLot_24 : decode cX5_deedByLot 24 = .ok (.invokestatic 159, 3) := by decide +kernel
theorem dX5_deedByLot_27 : decode cX5_deedByLot 27 = .ok (.ireturn, 1) := by decide +kernel
theorem dX5_deedByLot_28 : decode cX5_deedByLot 28 = .ok (.iload_n 2, 1) := by decide +kernel
theorem dX5_deedByLot_29 : decode cX5_deedByLot 29 = .ok (.iconst 5, 1) := by decide +kernel
theorem dX5_deedByLot_30 : decode cX5_deedByLot 30 = .ok (.if_icmp .ne 11, 3) := by decide +kernel
theorem dX5_deedByLot_33 : decode cX5_deedByLot 33 = .ok (.iconst 1, 1) := by decide +kernel
theorem dX5_deedByLot_34 : decode cX5_deedByLot 34 = .ok (.iconst 0, 1) := by decide +kernel
theorem dX5_deedByLot_35 : decode cX5_deedByLot 35 = .ok (.iconst 0, 1) := by decide +kernel
theorem dX5_deedByLot_36 : decode cX5_deedByLot 36 = .ok (.iconst 0, 1) := by decide +kernel
theorem dX5_deedByLot_37 : decode cX5_deedByLot 37 = .ok (.invokestatic 159, 3) := by decide +kernel
theorem dX5_deedByLot_40 : decode cX5_deedByLot 40 = .ok (.ireturn, 1) := by decide +kernel
theorem dX5_deedByLot_41 : decode cX5_deedByLot 41 = .ok (.iload_n 2, 1) := by decide +kernel
theorem dX5_deedByLot_42 : decode cX5_deedByLot 42 = .ok (.bipush 6, 2) := by decide +kernel
theorem dX5_deedByLot_44 : decode cX5_deedByLot 44 = .ok (.if_icmp .ne 20, 3) := by decide +kernel
theorem dX5_deedByLot_47 : decode cX5_deedByLot 47 = .ok (.iconst 2, 1) := by decide +kernel
theorem dX5_deedByLot_48 : decode cX5_deedByLot 48 = .ok (.iconst 1, 1) := by decide +kernel
theorem dX5_deedByLot_49 : decode cX5_deedByLot 49 = .ok (.iload_n 0, 1) := by decide +kernel
theorem dX5_deedByLot_50 : decode cX5_deedByLot 50 = .ok (.bipush 64, 2) := by decide +kernel
theorem dX5_deedByLot_52 : decode cX5_deedByLot 52 = .ok (.idiv, 1) := by decide +kernel
theorem dX5_deedByLot_53 : decode cX5_deedByLot 53 = .ok (.iload_n 1, 1) := by decide +kernel
theorem dX5_deedByLot_54 : decode cX5_deedByLot 54 = .ok (.iconst 1, 1) := by decide +kernel
theorem dX5_deedByLot_55 : decode cX5_deedByLot 55 = .ok (.isub, 1) := by decide +kernel
theorem dX5_deedByLot_56 : decode cX5_deedByLot 56 = .ok (.irem, 1) := by decide +kernel
theorem dX5_deedByLot_57 : decode cX5_deedByLot 57 = .ok (.iadd, 1) := by decide +kernel
theorem dX5_deedByLot_58 : decode cX5_deedByLot 58 = .ok (.iconst 0, 1) := by decide +kernel
theorem dX5_deedByLot_59 : decode cX5_deedByLot 59 = .ok (.iconst 0, 1) := by decide +kernel
theorem dX5_deedByLot_60 : decode cX5_deedByLot 60 = .ok (.invokestatic 159, 3) := by decide +kernel
theorem dX5_deedByLot_63 : decode cX5_deedByLot 63 = .ok (.ireturn, 1) := by decide +kernel
theorem dX5_deedByLot_64 : decode cX5_deedByLot 64 = .ok (.iconst 3, 1) := by decide +kernel
theorem dX5_deedByLot_65 : decode cX5_deedByLot 65 = .ok (.iload_n 0, 1) := by decide +kernel
theorem dX5_deedByLot_66 : decode cX5_deedByLot 66 = .ok (.bipush 64, 2) := by decide +kernel
theorem dX5_deedByLot_68 : decode cX5_deedByLot 68 = .ok (.idiv, 1) := by decide +kernel
theorem dX5_deedByLot_69 : decode cX5_deedByLot 69 = .ok (.iload_n 1, 1) := by decide +kernel
theorem dX5_deedByLot_70 : decode cX5_deedByLot 70 = .ok (.irem, 1) := by decide +kernel
theorem dX5_deedByLot_71 : decode cX5_deedByLot 71 = .ok (.iload_n 0, 1) := by decide +kernel
theorem dX5_deedByLot_72 : decode cX5_deedByLot 72 = .ok (.iconst 3, 1) := by decide +kernel
theorem dX5_deedByLot_73 : decode cX5_deedByLot 73 = .ok (.irem, 1) := by decide +kernel
theorem dX5_deedByLot_74 : decode cX5_deedByLot 74 = .ok (.iload_n 0, 1) := by decide +kernel
theorem dX5_deedByLot_75 : decode cX5_deedByLot 75 = .ok (.sipush 512, 3) := by decide +kernel
theorem dX5_deedByLot_78 : decode cX5_deedByLot 78 = .ok (.idiv, 1) := by decide +kernel
theorem dX5_deedByLot_79 : decode cX5_deedByLot 79 = .ok (.bipush 10, 2) := by decide +kernel
theorem dX5_deedByLot_81 : decode cX5_deedByLot 81 = .ok (.irem, 1) := by decide +kernel
theorem dX5_deedByLot_82 : decode cX5_deedByLot 82 = .ok (.invokestatic 159, 3) := by decide +kernel
theorem dX5_deedByLot_85 : decode cX5_deedByLot 85 = .ok (.ireturn, 1) := by decide +kernel
theorem dX5_isOf_0 : decode cX5_isOf 0 = .ok (.iload_n 0, 1) := by decide +kernel
theorem dX5_isOf_1 : decode cX5_isOf 1 = .ok (.iload_n 1, 1) := by decide +kernel
theorem dX5_isOf_2 : decode cX5_isOf 2 = .ok (.if_icmp .eq 12, 3) := by decide +kernel
theorem dX5_isOf_5 : decode cX5_isOf 5 = .ok (.getstatic 300, 3) := by decide +kernel
theorem dX5_isOf_8 : decode cX5_isOf 8 = .ok (.iload_n 0, 1) := by decide +kernel
theorem dX5_isOf_9 : decode cX5_isOf 9 = .ok (.iaload, 1) := by decide +kernel
theorem dX5_isOf_10 : decode cX5_isOf 10 = .ok (.iload_n 1, 1) := by decide +kernel
theorem dX5_isOf_11 : decode cX5_isOf 11 = .ok (.if_icmp .ne 7, 3) := by decide +kernel
theorem dX5_isOf_14 : decode cX5_isOf 14 = .ok (.iconst 1, 1) := by decide +kernel
theorem dX5_isOf_15 : decode cX5_isOf 15 = .ok (.goto 4, 3) := by decide +kernel
theorem dX5_isOf_18 : decode cX5_isOf 18 = .ok (.iconst 0, 1) := by decide +kernel
theorem dX5_isOf_19 : decode cX5_isOf 19 = .ok (.ireturn, 1) := by decide +kernel
theorem dX5_reading_0 : decode cX5_reading 0 = .ok (.aload_n 1, 1) := by decide +kernel
theorem dX5_reading_1 : decode cX5_reading 1 = .ok (.iload_n 2, 1) := by decide +kernel
theorem dX5_reading_2 : decode cX5_reading 2 = .ok (.iload_n 3, 1) := by decide +kernel
theorem dX5_reading_3 : decode cX5_reading 3 = .ok (.iadd, 1) := by decide +kernel
theorem dX5_reading_4 : decode cX5_reading 4 = .ok (.iaload, 1) := by decide +kernel
theorem dX5_reading_5 : decode cX5_reading 5 = .ok (.istore 5, 2) := by decide +kernel
theorem dX5_reading_7 : decode cX5_reading 7 = .ok (.iload_n 0, 1) := by decide +kernel
theorem dX5_reading_8 : decode cX5_reading 8 = .ok (.tableswitch 101 1 5 #[36, 46, 54, 61, 79], 36) := by decide +kernel
theorem dX5_reading_44 : decode cX5_reading 44 = .ok (.aload_n 1, 1) := by decide +kernel
theorem dX5_reading_45 : decode cX5_reading 45 = .ok (.iload_n 2, 1) := by decide +kernel
theorem dX5_reading_46 : decode cX5_reading 46 = .ok (.iconst 3, 1) := by decide +kernel
theorem dX5_reading_47 : decode cX5_reading 47 = .ok (.iadd, 1) := by decide +kernel
theorem dX5_reading_48 : decode cX5_reading 48 = .ok (.iconst 1, 1) := by decide +kernel
theorem dX5_reading_49 : decode cX5_reading 49 = .ok (.isub, 1) := by decide +kernel
theorem dX5_reading_50 : decode cX5_reading 50 = .ok (.iload_n 3, 1) := by decide +kernel
theorem dX5_reading_51 : decode cX5_reading 51 = .ok (.isub, 1) := by decide +kernel
theorem dX5_reading_52 : decode cX5_reading 52 = .ok (.iaload, 1) := by decide +kernel
theorem dX5_reading_53 : decode cX5_reading 53 = .ok (.ireturn, 1) := by decide +kernel
theorem dX5_reading_54 : decode cX5_reading 54 = .ok (.iload 5, 2) := by decide +kernel
theorem dX5_reading_56 : decode cX5_reading 56 = .ok (.iload 4, 2) := by decide +kernel
theorem dX5_reading_58 : decode cX5_reading 58 = .ok (.invokestatic 303, 3) := by decide +kernel
theorem dX5_reading_61 : decode cX5_reading 61 = .ok (.ireturn, 1) := by decide +kernel
theorem dX5_reading_62 : decode cX5_reading 62 = .ok (.aload_n 1, 1) := by decide +kernel
theorem dX5_reading_63 : decode cX5_reading 63 = .ok (.iload_n 2, 1) := by decide +kernel
theorem dX5_reading_64 : decode cX5_reading 64 = .ok (.iload_n 3, 1) := by decide +kernel
theorem dX5_reading_65 : decode cX5_reading 65 = .ok (.invokestatic 306, 3) := by decide +kernel
theorem dX5_reading_68 : decode cX5_reading 68 = .ok (.ireturn, 1) := by decide +kernel
theorem dX5_reading_69 : decode cX5_reading 69 = .ok (.iload 5, 2) := by decide +kernel
theorem dX5_reading_71 : decode cX5_reading 71 = .ok (.ifCond .ne 8, 3) := by decide +kernel
theorem dX5_reading_74 : decode cX5_reading 74 = .ok (.bipush 10, 2) := by decide +kernel
theorem dX5_reading_76 : decode cX5_reading 76 = .ok (.goto 10, 3) := by decide +kernel
theorem dX5_reading_79 : decode cX5_reading 79 = .ok (.iload 5, 2) := by decide +kernel
theorem dX5_reading_81 : decode cX5_reading 81 = .ok (.iload 4, 2) := by decide +kernel
theorem dX5_reading_83 : decode cX5_reading 83 = .ok (.invokestatic 303, 3) := by decide +kernel
theorem dX5_reading_86 : decode cX5_reading 86 = .ok (.ireturn, 1) := by decide +kernel
theorem dX5_reading_87 : decode cX5_reading 87 = .ok (.aload_n 1, 1) := by decide +kernel
theorem dX5_reading_88 : decode cX5_reading 88 = .ok (.iload_n 2, 1) := by decide +kernel
theorem dX5_reading_89 : decode cX5_reading 89 = .ok (.iload_n 3, 1) := by decide +kernel
theorem dX5_reading_90 : decode cX5_reading 90 = .ok (.invokestatic 306, 3) := by decide +kernel
theorem dX5_reading_93 : decode cX5_reading 93 = .ok (.istore 6, 2) := by decide +kernel
theorem dX5_reading_95 : decode cX5_reading 95 = .ok (.iload 6, 2) := by decide +kernel
theorem dX5_reading_97 : decode cX5_reading 97 = .ok (.bipush 9, 2) := by decide +kernel
theorem dX5_reading_99 : decode cX5_reading 99 = .ok (.if_icmp .ne 7, 3) := by decide +kernel
theorem dX5_reading_102 : decode cX5_reading 102 = .ok (.iconst 0, 1) := by decide +kernel
theorem dX5_reading_103 : decode cX5_reading 103 = .ok (.goto 5, 3) := by decide +kernel
theorem dX5_reading_106 : decode cX5_reading 106 = .ok (.iload 6, 2) := by decide +kernel
theorem dX5_reading_108 : decode cX5_reading 108 = .ok (.ireturn, 1) := by decide +kernel
theorem dX5_reading_109 : decode cX5_reading 109 = .ok (.iload 5, 2) := by decide +kernel
theorem dX5_reading_111 : decode cX5_reading 111 = .ok (.ireturn, 1) := by decide +kernel
theorem dX5_wornBy_0 : decode cX5_wornBy 0 = .ok (.iconst 0, 1) := by decide +kernel
theorem dX5_wornBy_1 : decode cX5_wornBy 1 = .ok (.iload_n 0, 1) := by decide +kernel
theorem dX5_wornBy_2 : decode cX5_wornBy 2 = .ok (.iload_n 1, 1) := by decide +kernel
theorem dX5_wornBy_3 : decode cX5_wornBy 3 = .ok (.iconst 4, 1) := by decide +kernel
theorem dX5_wornBy_4 : decode cX5_wornBy 4 = .ok (.idiv, 1) := by decide +kernel
theorem dX5_wornBy_5 : decode cX5_wornBy 5 = .ok (.isub, 1) := by decide +kernel
theorem dX5_wornBy_6 : decode cX5_wornBy 6 = .ok (.invokestatic 309, 3) := by decide +kernel
theorem dX5_wornBy_9 : decode cX5_wornBy 9 = .ok (.ireturn, 1) := by decide +kernel
theorem dX5_doubled_0 : decode cX5_doubled 0 = .ok (.aload_n 0, 1) := by decide +kernel
theorem dX5_doubled_1 : decode cX5_doubled 1 = .ok (.iload_n 1, 1) := by decide +kernel
theorem dX5_doubled_2 : decode cX5_doubled 2 = .ok (.iload_n 2, 1) := by decide +kernel
theorem dX5_doubled_3 : decode cX5_doubled 3 = .ok (.iadd, 1) := by decide +kernel
theorem dX5_doubled_4 : decode cX5_doubled 4 = .ok (.iaload, 1) := by decide +kernel
theorem dX5_doubled_5 : decode cX5_doubled 5 = .ok (.istore_n 3, 1) := by decide +kernel
theorem dX5_doubled_6 : decode cX5_doubled 6 = .ok (.aload_n 0, 1) := by decide +kernel
theorem dX5_doubled_7 : decode cX5_doubled 7 = .ok (.iload_n 1, 1) := by decide +kernel
theorem dX5_doubled_8 : decode cX5_doubled 8 = .ok (.iload_n 2, 1) := by decide +kernel
theorem dX5_doubled_9 : decode cX5_doubled 9 = .ok (.iconst 1, 1) := by decide +kernel
theorem dX5_doubled_10 : decode cX5_doubled 10 = .ok (.iadd, 1) := by decide +kernel
theorem dX5_doubled_11 : decode cX5_doubled 11 = .ok (.iconst 3, 1) := by decide +kernel
theorem dX5_doubled_12 : decode cX5_doubled 12 = .ok (.irem, 1) := by decide +kernel
theorem dX5_doubled_13 : decode cX5_doubled 13 = .ok (.iadd, 1) := by decide +kernel
theorem dX5_doubled_14 : decode cX5_doubled 14 = .ok (.iaload, 1) := by decide +kernel
theorem dX5_doubled_15 : decode cX5_doubled 15 = .ok (.istore 4, 2) := by decide +kernel
theorem dX5_doubled_17 : decode cX5_doubled 17 = .ok (.iload_n 3, 1) := by decide +kernel
theorem dX5_doubled_18 : decode cX5_doubled 18 = .ok (.iload 4, 2) := by decide +kernel
theorem dX5_doubled_20 : decode cX5_doubled 20 = .ok (.if_icmp .le 7, 3) := by decide +kernel
theorem dX5_doubled_23 : decode cX5_doubled 23 = .ok (.iload_n 3, 1) := by decide +kernel
theorem dX5_doubled_24 : decode cX5_doubled 24 = .ok (.goto 5, 3) := by decide +kernel
theorem dX5_doubled_27 : decode cX5_doubled 27 = .ok (.iload 4, 2) := by decide +kernel
theorem dX5_doubled_29 : decode cX5_doubled 29 = .ok (.ireturn, 1) := by decide +kernel
theorem dX5_placeIn_0 : decode cX5_placeIn 0 = .ok (.iconst 0, 1) := by decide +kernel
theorem dX5_placeIn_1 : decode cX5_placeIn 1 = .ok (.istore_n 3, 1) := by decide +kernel
theorem dX5_placeIn_2 : decode cX5_placeIn 2 = .ok (.iload_n 3, 1) := by decide +kernel
theorem dX5_placeIn_3 : decode cX5_placeIn 3 = .ok (.iload_n 2, 1) := by decide +kernel
theorem dX5_placeIn_4 : decode cX5_placeIn 4 = .ok (.if_icmp .ge 18, 3) := by decide +kernel
theorem dX5_placeIn_7 : decode cX5_placeIn 7 = .ok (.aload_n 0, 1) := by decide +kernel
theorem dX5_placeIn_8 : decode cX5_placeIn 8 = .ok (.iload_n 3, 1) := by decide +kernel
theorem dX5_placeIn_9 : decode cX5_placeIn 9 = .ok (.iaload, 1) := by decide +kernel
theorem dX5_placeIn_10 : decode cX5_placeIn 10 = .ok (.iload_n 1, 1) := by decide +kernel
theorem dX5_placeIn_11 : decode cX5_placeIn 11 = .ok (.if_icmp .ne 5, 3) := by decide +kernel
theorem dX5_placeIn_14 : decode cX5_placeIn 14 = .ok (.iload_n 3, 1) := by decide +kernel
theorem dX5_placeIn_15 : decode cX5_placeIn 15 = .ok (.ireturn, 1) := by decide +kernel
theorem dX5_placeIn_16 : decode cX5_placeIn 16 = .ok (.iinc 3 1, 3) := by decide +kernel
theorem dX5_placeIn_19 : decode cX5_placeIn 19 = .ok (.goto (-17), 3) := by decide +kernel
theorem dX5_placeIn_22 : decode cX5_placeIn 22 = .ok (.bipush (-9), 2) := by decide +kernel
theorem dX5_placeIn_24 : decode cX5_placeIn 24 = .ok (.ireturn, 1) := by decide +kernel
theorem dX5_onePassMore_0 : decode cX5_onePassMore 0 = .ok (.bipush 60, 2) := by decide +kernel
theorem dX5_onePassMore_2 : decode cX5_onePassMore 2 = .ok (.iload_n 0, 1) := by decide +kernel
theorem dX5_onePassMore_3 : decode cX5_onePassMore 3 = .ok (.iconst 1, 1) := by decide +kernel
theorem dX5_onePassMore_4 : decode cX5_onePassMore 4 = .ok (.iadd, 1) := by decide +kernel
theorem dX5_onePassMore_5 : decode cX5_onePassMore 5 = .ok (.invokestatic 142, 3) := by decide +kernel
theorem dX5_onePassMore_8 : decode cX5_onePassMore 8 = .ok (.ireturn, 1) := by decide +kernel
theorem dX6_init_0 : decode cX6_init 0 = .ok (.aload_n 0, 1) := by decide +kernel
theorem dX6_init_1 : decode cX6_init 1 = .ok (.invokespecial 1, 3) := by decide +kernel
theorem dX6_init_4 : decode cX6_init 4 = .ok (.aload_n 0, 1) := by decide +kernel
theorem dX6_init_5 : decode cX6_init 5 = .ok (.bipush 6, 2) := by decide +kernel
theorem dX6_init_7 : decode cX6_init 7 = .ok (.newarray .int, 2) := by decide +kernel
theorem dX6_init_9 : decode cX6_init 9 = .ok (.putfield 7, 3) := by decide +kernel
theorem dX6_init_12 : decode cX6_init 12 = .ok (.aload_n 0, 1) := by decide +kernel
theorem dX6_init_13 : decode cX6_init 13 = .ok (.sipush 240, 3) := by decide +kernel
theorem dX6_init_16 : decode cX6_init 16 = .ok (.newarray .int, 2) := by decide +kernel
theorem dX6_init_18 : decode cX6_init 18 = .ok (.putfield 13, 3) := by decide +kernel
theorem dX6_init_21 : decode cX6_init 21 = .ok (.aload_n 0, 1) := by decide +kernel
theorem dX6_init_22 : decode cX6_init 22 = .ok (.iconst 4, 1) := by decide +kernel
theorem dX6_init_23 : decode cX6_init 23 = .ok (.newarray .int, 2) := by decide +kernel
theorem dX6_init_25 : decode cX6_init 25 = .ok (.putfield 16, 3) := by decide +kernel
theorem dX6_init_28 : decode cX6_init 28 = .ok (.aload_n 0, 1) := by decide +kernel
theorem dX6_init_29 : decode cX6_init 29 = .ok (.sipush 240, 3) := by decide +kernel
theorem dX6_init_32 : decode cX6_init 32 = .ok (.newarray .int, 2) := by decide +kernel
theorem dX6_init_34 : decode cX6_init 34 = .ok (.putfield 19, 3) := by decide +kernel
theorem dX6_init_37 : decode cX6_init 37 = .ok (.aload_n 0, 1) := by decide +kernel
theorem dX6_init_38 : decode cX6_init 38 = .ok (.bipush 6, 2) := by decide +kernel
theorem dX6_init_40 : decode cX6_init 40 = .ok (.newarray .int, 2) := by decide +kernel
theorem dX6_init_42 : decode cX6_init 42 = .ok (.putfield 22, 3) := by decide +kernel
theorem dX6_init_45 : decode cX6_init 45 = .ok (.aload_n 0, 1) := by decide +kernel
theorem dX6_init_46 : decode cX6_init 46 = .ok (.bipush 25, 2) := by decide +kernel
theorem dX6_init_48 : decode cX6_init 48 = .ok (.newarray .int, 2) := by decide +kernel
theorem dX6_init_50 : decode cX6_init 50 = .ok (.putfield 25, 3) := by decide +kernel
theorem dX6_init_53 : decode cX6_init 53 = .ok (.aload_n 0, 1) := by decide +kernel
theorem dX6_init_54 : decode cX6_init 54 = .ok (.bipush 25, 2) := by decide +kernel
theorem dX6_init_56 : decode cX6_init 56 = .ok (.newarray .int, 2) := by decide +kernel
theorem dX6_init_58 : decode cX6_init 58 = .ok (.putfield 28, 3) := by decide +kernel
theorem dX6_init_61 : decode cX6_init 61 = .ok (.aload_n 0, 1) := by decide +kernel
theorem dX6_init_62 : decode cX6_init 62 = .ok (.sipush 1000, 3) := by decide +kernel
theorem dX6_init_65 : decode cX6_init 65 = .ok (.newarray .int, 2) := by decide +kernel
theorem dX6_init_67 : decode cX6_init 67 = .ok (.putfield 31, 3) := by decide +kernel
theorem dX6_init_70 : decode cX6_init 70 = .ok (.aload_n 0, 1) := by decide +kernel
theorem dX6_init_71 : decode cX6_init 71 = .ok (.sipush 3078, 3) := by decide +kernel
theorem dX6_init_74 : decode cX6_init 74 = .ok (.newarray .int, 2) := by decide +kernel
theorem dX6_init_76 : decode cX6_init 76 = .ok (.putfield 34, 3) := by decide +kernel
theorem dX6_init_79 : decode cX6_init 79 = .ok (.aload_n 0, 1) := by decide +kernel
theorem dX6_init_80 : decode cX6_init 80 = .ok (.iconst 3, 1) := by decide +kernel
theorem dX6_init_81 : decode cX6_init 81 = .ok (.newarray .boolean, 2) := by decide +kernel
theorem dX6_init_83 : decode cX6_init 83 = .ok (.putfield 37, 3) := by decide +kernel
theorem dX6_init_86 : decode cX6_init 86 = .ok (.aload_n 0, 1) := by decide +kernel
theorem dX6_init_87 : decode cX6_init 87 = .ok (.lconst 1, 1) := by decide +kernel
theorem dX6_init_88 : decode cX6_init 88 = .ok (.putfield 41, 3) := by decide +kernel
theorem dX6_init_91 : decode cX6_init 91 = .ok (.aload_n 0, 1) := by decide +kernel
theorem dX6_init_92 : decode cX6_init 92 = .ok (.bipush 6, 2) := by decide +kernel
theorem dX6_init_94 : decode cX6_init 94 = .ok (.newarray .int, 2) := by decide +kernel
theorem dX6_init_96 : decode cX6_init 96 = .ok (.putfield 45, 3) := by decide +kernel
theorem dX6_init_99 : decode cX6_init 99 = .ok (.aload_n 0, 1) := by decide +kernel
theorem dX6_init_100 : decode cX6_init 100 = .ok (.bipush 6, 2) := by decide +kernel
theorem dX6_init_102 : decode cX6_init 102 = .ok (.newarray .int, 2) := by decide +kernel
theorem dX6_init_104 : decode cX6_init 104 = .ok (.putfield 48, 3) := by decide +kernel
theorem dX6_init_107 : decode cX6_init 107 = .ok (.aload_n 0, 1) := by decide +kernel
theorem dX6_init_108 : decode cX6_init 108 = .ok (.bipush 18, 2) := by decide +kernel
theorem dX6_init_110 : decode cX6_init 110 = .ok (.newarray .int, 2) := by decide +kernel
theorem dX6_init_112 : decode cX6_init 112 = .ok (.putfield 51, 3) := by decide +kernel
theorem dX6_init_115 : decode cX6_init 115 = .ok (.aload_n 0, 1) := by decide +kernel
theorem dX6_init_116 : decode cX6_init 116 = .ok (.bipush 6, 2) := by decide +kernel
theorem dX6_init_118 : decode cX6_init 118 = .ok (.newarray .int, 2) := by decide +kernel
theorem dX6_init_120 : decode cX6_init 120 = .ok (.putfield 54, 3) := by decide +kernel
theorem dX6_init_123 : decode cX6_init 123 = .ok (.aload_n 0, 1) := by decide +kernel
theorem dX6_init_124 : decode cX6_init 124 = .ok (.sipush 4096, 3) := by decide +kernel
theorem dX6_init_127 : decode cX6_init 127 = .ok (.newarray .int, 2) := by decide +kernel
theorem dX6_init_129 : decode cX6_init 129 = .ok (.putfield 57, 3) := by decide +kernel
theorem dX6_init_132 : decode cX6_init 132 = .ok (.iconst 0, 1) := by decide +kernel
theorem dX6_init_133 : decode cX6_init 133 = .ok (.istore_n 1, 1) := by decide +kernel
theorem dX6_init_134 : decode cX6_init 134 = .ok (.iload_n 1, 1) := by decide +kernel
theorem dX6_init_135 : decode cX6_init 135 = .ok (.bipush 6, 2) := by decide +kernel
theorem dX6_init_137 : decode cX6_init 137 = .ok (.if_icmp .ge 16, 3) := by decide +kernel
theorem dX6_init_140 : decode cX6_init 140 = .ok (.aload_n 0, 1) := by decide +kernel
theorem dX6_init_141 : decode cX6_init 141 = .ok (.getfield 7, 3) := by decide +kernel
theorem dX6_init_144 : decode cX6_init 144 = .ok (.iload_n 1, 1) := by decide +kernel
theorem dX6_init_145 : decode cX6_init 145 = .ok (.iconst (-1), 1) := by decide +kernel
theorem dX6_init_146 : decode cX6_init 146 = .ok (.iastore, 1) := by decide +kernel
theorem dX6_init_147 : decode cX6_init 147 = .ok (.iinc 1 1, 3) := by decide +kernel
theorem dX6_init_150 : decode cX6_init 150 = .ok (.goto (-16), 3) := by decide +kernel
theorem dX6_init_153 : decode cX6_init 153 = .ok (.iconst 0, 1) := by decide +kernel
theorem dX6_init_154 : decode cX6_init 154 = .ok (.istore_n 1, 1) := by decide +kernel
theorem dX6_init_155 : decode cX6_init 155 = .ok (.iload_n 1, 1) := by decide +kernel
theorem dX6_init_156 : decode cX6_init 156 = .ok (.iconst 4, 1) := by decide +kernel
theorem dX6_init_157 : decode cX6_init 157 = .ok (.if_icmp .ge 16, 3) := by decide +kernel
theorem dX6_init_160 : decode cX6_init 160 = .ok (.aload_n 0, 1) := by decide +kernel
theorem dX6_init_161 : decode cX6_init 161 = .ok (.getfield 16, 3) := by decide +kernel
theorem dX6_init_164 : decode cX6_init 164 = .ok (.iload_n 1, 1) := by decide +kernel
theorem dX6_init_165 : decode cX6_init 165 = .ok (.iconst (-1), 1) := by decide +kernel
theorem dX6_init_166 : decode cX6_init 166 = .ok (.iastore, 1) := by decide +kernel
theorem dX6_init_167 : decode cX6_init 167 = .ok (.iinc 1 1, 3) := by decide +kernel
theorem dX6_init_170 : decode cX6_init 170 = .ok (.goto (-15), 3) := by decide +kernel
theorem dX6_init_173 : decode cX6_init 173 = .ok (.return_, 1) := by decide +kernel
theorem dX6_in_0 : decode cX6_in 0 = .ok (.lload_n 0, 1) := by decide +kernel
theorem dX6_in_1 : decode cX6_in 1 = .ok (.lload_n 2, 1) := by decide +kernel
theorem dX6_in_2 : decode cX6_in 2 = .ok (.lcmp, 1) := by decide +kernel
theorem dX6_in_3 : decode cX6_in 3 = .ok (.ifCond .lt 14, 3) := by decide +kernel
theorem dX6_in_6 : decode cX6_in 6 = .ok (.lload_n 0, 1) := by decide +kernel
theorem dX6_in_7 : decode cX6_in 7 = .ok (.lload 4, 2) := by decide +kernel
theorem dX6_in_9 : decode cX6_in 9 = .ok (.lcmp, 1) := by decide +kernel
theorem dX6_in_10 : decode cX6_in 10 = .ok (.ifCond .gt 7, 3) := by decide +kernel
theorem dX6_in_13 : decode cX6_in 13 = .ok (.iconst 1, 1) := by decide +kernel
theorem dX6_in_14 : decode cX6_in 14 = .ok (.goto 4, 3) := by decide +kernel
theorem dX6_in_17 : decode cX6_in 17 = .ok (.iconst 0, 1) := by decide +kernel
theorem dX6_in_18 : decode cX6_in 18 = .ok (.ireturn, 1) := by decide +kernel
theorem dX6_has_0 : decode cX6_has 0 = .ok (.iload_n 0, 1) := by decide +kernel
theorem dX6_has_1 : decode cX6_has 1 = .ok (.iload_n 1, 1) := by decide +kernel
theorem dX6_has_2 : decode cX6_has 2 = .ok (.ishr, 1) := by decide +kernel
theorem dX6_has_3 : decode cX6_has 3 = .ok (.iconst 1, 1) := by decide +kernel
theorem dX6_has_4 : decode cX6_has 4 = .ok (.iand, 1) := by decide +kernel
theorem dX6_has_5 : decode cX6_has 5 = .ok (.iconst 1, 1) := by decide +kernel
theorem dX6_has_6 : decode cX6_has 6 = .ok (.if_icmp .ne 7, 3) := by decide +kernel
theorem dX6_has_9 : decode cX6_has 9 = .ok (.iconst 1, 1) := by decide +kernel
theorem dX6_has_10 : decode cX6_has 10 = .ok (.goto 4, 3) := by decide +kernel
theorem dX6_has_13 : decode cX6_has 13 = .ok (.iconst 0, 1) := by decide +kernel
theorem dX6_has_14 : decode cX6_has 14 = .ok (.ireturn, 1) := by decide +kernel
theorem dX6_found_0 : decode cX6_found 0 = .ok (.aload_n 0, 1) := by decide +kernel
theorem dX6_found_1 : decode cX6_found 1 = .ok (.iload_n 1, 1) := by decide +kernel
theorem dX6_found_2 : decode cX6_found 2 = .ok (.putfield 60, 3) := by decide +kernel
theorem dX6_found_5 : decode cX6_found 5 = .ok (.aload_n 0, 1) := by decide +kernel
theorem dX6_found_6 : decode cX6_found 6 = .ok (.getfield 45, 3) := by decide +kernel
theorem dX6_found_9 : decode cX6_found 9 = .ok (.iload_n 1, 1) := by decide +kernel
theorem dX6_found_10 : decode cX6_found 10 = .ok (.dup2, 1) := by decide +kernel
theorem dX6_found_11 : decode cX6_found 11 = .ok (.iaload, 1) := by decide +kernel
theorem dX6_found_12 : decode cX6_found 12 = .ok (.iconst 1, 1) := by decide +kernel
theorem dX6_found_13 : decode cX6_found 13 = .ok (.iadd, 1) := by decide +kernel
theorem dX6_found_14 : decode cX6_found 14 = .ok (.iastore, 1) := by decide +kernel
theorem dX6_found_15 : decode cX6_found 15 = .ok (.bipush (-3), 2) := by decide +kernel
theorem dX6_found_17 : decode cX6_found 17 = .ok (.ireturn, 1) := by decide +kernel
theorem dX6_tell_0 : decode cX6_tell 0 = .ok (.aload_n 0, 1) := by decide +kernel
theorem dX6_tell_1 : decode cX6_tell 1 = .ok (.iload_n 1, 1) := by decide +kernel
theorem dX6_tell_2 : decode cX6_tell 2 = .ok (.putfield 64, 3) := by decide +kernel
theorem dX6_tell_5 : decode cX6_tell 5 = .ok (.iconst 1, 1) := by decide +kernel
theorem dX6_tell_6 : decode cX6_tell 6 = .ok (.ireturn, 1) := by decide +kernel
theorem dX6_answer_0 : decode cX6_answer 0 = .ok (.aload_n 0, 1) := by decide +kernel
theorem dX6_answer_1 : decode cX6_answer 1 = .ok (.iload_n 2, 1) := by decide +kernel
theorem dX6_answer_2 : decode cX6_answer 2 = .ok (.putfield 64, 3) := by decide +kernel
theorem dX6_answer_5 : decode cX6_answer 5 = .ok (.iload_n 1, 1) := by decide +kernel
theorem dX6_answer_6 : decode cX6_answer 6 = .ok (.ireturn, 1) := by decide +kernel
theorem dX6_isRow_0 : decode cX6_isRow 0 = .ok (.iload_n 0, 1) := by decide +kernel
theorem dX6_isRow_1 : decode cX6_isRow 1 = .ok (.i2l, 1) := by decide +kernel
theorem dX6_isRow_2 : decode cX6_isRow 2 = .ok (.lconst 0, 1) := by decide +kernel
theorem dX6_isRow_3 : decode cX6_isRow 3 = .ok (.ldc2_w 67, 3) := by decide +kernel
theorem dX6_isRow_6 : decode cX6_isRow 6 = .ok (.invokestatic 69, 3) := by decide +kernel
theorem dX6_isRow_9 : decode cX6_isRow 9 = .ok (.ireturn, 1) := by decide +kernel
theorem dX6_isText_0 : decode cX6_isText 0 = .ok (.iload_n 0, 1) := by decide +kernel
theorem dX6_isText_1 : decode cX6_isText 1 = .ok (.i2l, 1) := by decide +kernel
theorem dX6_isText_2 : decode cX6_isText 2 = .ok (.lconst 0, 1) := by decide +kernel
theorem dX6_isText_3 : decode cX6_isText 3 = .ok (.ldc2_w 73, 3) := by decide +kernel
theorem dX6_isText_6 : decode cX6_isText 6 = .ok (.invokestatic 69, 3) := by decide +kernel
theorem dX6_isText_9 : decode cX6_isText 9 = .ok (.ireturn, 1) := by decide +kernel
theorem dX6_row_0 : decode cX6_row 0 = .ok (.iload_n 1, 1) := by decide +kernel
theorem dX6_row_1 : decode cX6_row 1 = .ok (.invokestatic 75, 3) := by decide +kernel
theorem dX6_row_4 : decode cX6_row 4 = .ok (.ifCond .eq 9, 3) := by decide +kernel
theorem dX6_row_7 : decode cX6_row 7 = .ok (.iload_n 2, 1) := by decide +kernel
theorem dX6_row_8 : decode cX6_row 8 = .ok (.bipush 40, 2) := by decide +kernel
theorem dX6_row_10 : decode cX6_row 10 = .ok (.if_icmp .le 5, 3) := by decide +kernel
theorem dX6_row_13 : decode cX6_row 13 = .ok (.iconst (-1), 1) := by decide +kernel
theorem dX6_row_14 : decode cX6_row 14 = .ok (.ireturn, 1) := by decide +kernel
theorem dX6_row_15 : decode cX6_row 15 = .ok (.iload_n 2, 1) := by decide +kernel
theorem dX6_row_16 : decode cX6_row 16 = .ok (.ifCond .ge 9, 3) := by decide +kernel
theorem dX6_row_19 : decode cX6_row 19 = .ok (.aload_n 0, 1) := by decide +kernel
theorem dX6_row_20 : decode cX6_row 20 = .ok (.iconst 5, 1) := by decide +kernel
theorem dX6_row_21 : decode cX6_row 21 = .ok (.invokevirtual 79, 3) := by decide +kernel
theorem dX6_row_24 : decode cX6_row 24 = .ok (.ireturn, 1) := by decide +kernel
theorem dX6_row_25 : decode cX6_row 25 = .ok (.aload_n 0, 1) := by decide +kernel
theorem dX6_row_26 : decode cX6_row 26 = .ok (.getfield 7, 3) := by decide +kernel
theorem dX6_row_29 : decode cX6_row 29 = .ok (.iload_n 1, 1) := by decide +kernel
theorem dX6_row_30 : decode cX6_row 30 = .ok (.iload_n 2, 1) := by decide +kernel
theorem dX6_row_31 : decode cX6_row 31 = .ok (.iastore, 1) := by decide +kernel
theorem dX6_row_32 : decode cX6_row 32 = .ok (.iconst 0, 1) := by decide +kernel
theorem dX6_row_33 : decode cX6_row 33 = .ok (.istore_n 3, 1) := by decide +kernel
theorem dX6_row_34 : decode cX6_row 34 = .ok (.iload_n 3, 1) := by decide +kernel
theorem dX6_row_35 : decode cX6_row 35 = .ok (.bipush 40, 2) := by decide +kernel
theorem dX6_row_37 : decode cX6_row 37 = .ok (.if_icmp .ge 21, 3) := by decide +kernel
theorem dX6_row_40 : decode cX6_row 40 = .ok (.aload_n 0, 1) := by decide +kernel
theorem dX6_row_41 : decode cX6_row 41 = .ok (.getfield 13, 3) := by decide +kernel
theorem dX6_row_44 : decode cX6_row 44 = .ok (.bipush 40, 2) := by decide +kernel
theorem dX6_row_46 : decode cX6_row 46 = .ok (.iload_n 1, 1) := by decide +kernel
theorem dX6_row_47 : decode cX6_row 47 = .ok (.imul, 1) := by decide +kernel
theorem dX6_row_48 : decode cX6_row 48 = .ok (.iload_n 3, 1) := by decide +kernel
theorem dX6_row_49 : decode cX6_row 49 = .ok (.iadd, 1) := by decide +kernel
theorem dX6_row_50 : decode cX6_row 50 = .ok (.iconst 0, 1) := by decide +kernel
theorem dX6_row_51 : decode cX6_row 51 = .ok (.iastore, 1) := by decide +kernel
theorem dX6_row_52 : decode cX6_row 52 = .ok (.iinc 3 1, 3) := by decide +kernel
theorem dX6_row_55 : decode cX6_row 55 = .ok (.goto (-21), 3) := by decide +kernel
theorem dX6_row_58 : decode cX6_row 58 = .ok (.iload_n 2, 1) := by decide +kernel
theorem dX6_row_59 : decode cX6_row 59 = .ok (.ireturn, 1) := by decide +kernel
theorem dX6_lay_0 : decode cX6_lay 0 = .ok (.iload_n 1, 1) := by decide +kernel
theorem dX6_lay_1 : decode cX6_lay 1 = .ok (.invokestatic 75, 3) := by decide +kernel
theorem dX6_lay_4 : decode cX6_lay 4 = .ok (.ifCond .ne 5, 3) := by decide +kernel
theorem dX6_lay_7 : decode cX6_lay 7 = .ok (.iconst (-1), 1) := by decide +kernel
theorem dX6_lay_8 : decode cX6_lay 8 = .ok (.ireturn, 1) := by decide +kernel
theorem dX6_lay_9 : decode cX6_lay 9 = .ok (.aload_n 0, 1) := by decide +kernel
theorem dX6_lay_10 : decode cX6_lay 10 = .ok (.getfield 7, 3) := by decide +kernel
theorem dX6_lay_13 : decode cX6_lay 13 = .ok (.iload_n 1, 1) := by decide +kernel
theorem dX6_lay_14 : decode cX6_lay 14 = .ok (.iaload, 1) := by decide +kernel
theorem dX6_lay_15 : decode cX6_lay 15 = .ok (.ifCond .ge 9, 3) := by decide +kernel
theorem dX6_lay_18 : decode cX6_lay 18 = .ok (.aload_n 0, 1) := by decide +kernel
theorem dX6_lay_19 : decode cX6_lay 19 = .ok (.iconst 1, 1) := by decide +kernel
theorem dX6_lay_20 : decode cX6_lay 20 = .ok (.invokevirtual 79, 3) := by decide +kernel
theorem dX6_lay_23 : decode cX6_lay 23 = .ok (.ireturn, 1) := by decide +kernel
theorem dX6_lay_24 : decode cX6_lay 24 = .ok (.iload_n 2, 1) := by decide +kernel
theorem dX6_lay_25 : decode cX6_lay 25 = .ok (.i2l, 1) := by decide +kernel
theorem dX6_lay_26 : decode cX6_lay 26 = .ok (.lconst 0, 1) := by decide +kernel
theorem dX6_lay_27 : decode cX6_lay 27 = .ok (.aload_n 0, 1) := by decide +kernel
theorem dX6_lay_28 : decode cX6_lay 28 = .ok (.getfield 7, 3) := by decide +kernel
theorem dX6_lay_31 : decode cX6_lay 31 = .ok (.iload_n 1, 1) := by decide +kernel
theorem dX6_lay_32 : decode cX6_lay 32 = .ok (.iaload, 1) := by decide +kernel
theorem dX6_lay_33 : decode cX6_lay 33 = .ok (.iconst 1, 1) := by decide +kernel
theorem dX6_lay_34 : decode cX6_lay 34 = .ok (.isub, 1) := by decide +kernel
theorem dX6_lay_35 : decode cX6_lay 35 = .ok (.i2l, 1) := by decide +kernel
theorem dX6_lay_36 : decode cX6_lay 36 = .ok (.invokestatic 69, 3) := by decide +kernel
theorem dX6_lay_39 : decode cX6_lay 39 = .ok (.ifCond .ne 9, 3) := by decide +kernel
theorem dX6_lay_42 : decode cX6_lay 42 = .ok (.aload_n 0, 1) := by decide +kernel
theorem dX6_lay_43 : decode cX6_lay 43 = .ok (.iconst 2, 1) := by decide +kernel
theorem dX6_lay_44 : decode cX6_lay 44 = .ok (.invokevirtual 79, 3) := by decide +kernel
theorem dX6_lay_47 : decode cX6_lay 47 = .ok (.ireturn, 1) := by decide +kernel
theorem dX6_lay_48 : decode cX6_lay 48 = .ok (.aload_n 0, 1) := by decide +kernel
theorem dX6_lay_49 : decode cX6_lay 49 = .ok (.getfield 13, 3) := by decide +kernel
theorem dX6_lay_52 : decode cX6_lay 52 = .ok (.bipush 40, 2) := by decide +kernel
theorem dX6_lay_54 : decode cX6_lay 54 = .ok (.iload_n 1, 1) := by decide +kernel
theorem dX6_lay_55 : decode cX6_lay 55 = .ok (.imul, 1) := by decide +kernel
theorem dX6_lay_56 : decode cX6_lay 56 = .ok (.iload_n 2, 1) := by decide +kernel
theorem dX6_lay_57 : decode cX6_lay 57 = .ok (.iadd, 1) := by decide +kernel
theorem dX6_lay_58 : decode cX6_lay 58 = .ok (.iaload, 1) := by decide +kernel
theorem dX6_lay_59 : decode cX6_lay 59 = .ok (.istore 4, 2) := by decide +kernel
theorem dX6_lay_61 : decode cX6_lay 61 = .ok (.aload_n 0, 1) := by decide +kernel
theorem dX6_lay_62 : decode cX6_lay 62 = .ok (.getfield 13, 3) := by decide +kernel
theorem dX6_lay_65 : decode cX6_lay 65 = .ok (.bipush 40, 2) := by decide +kernel
theorem dX6_lay_67 : decode cX6_lay 67 = .ok (.iload_n 1, 1) := by decide +kernel
theorem dX6_lay_68 : decode cX6_lay 68 = .ok (.imul, 1) := by decide +kernel
theorem dX6_lay_69 : decode cX6_lay 69 = .ok (.iload_n 2, 1) := by decide +kernel
theorem dX6_lay_70 : decode cX6_lay 70 = .ok (.iadd, 1) := by decide +kernel
theorem dX6_lay_71 : decode cX6_lay 71 = .ok (.iload_n 3, 1) := by decide +kernel
theorem dX6_lay_72 : decode cX6_lay 72 = .ok (.iastore, 1) := by decide +kernel
theorem dX6_lay_73 : decode cX6_lay 73 = .ok (.aload_n 0, 1) := by decide +kernel
theorem dX6_lay_74 : decode cX6_lay 74 = .ok (.iload 4, 2) := by decide +kernel
theorem dX6_lay_76 : decode cX6_lay 76 = .ok (.invokevirtual 83, 3) := by decide +kernel
theorem dX6_lay_79 : decode cX6_lay 79 = .ok (.ireturn, 1) := by decide +kernel
theorem dX6_at_0 : decode cX6_at 0 = .ok (.iload_n 1, 1) := by decide +kernel
theorem dX6_at_1 : decode cX6_at 1 = .ok (.invokestatic 75, 3) := by decide +kernel
theorem dX6_at_4 : decode cX6_at 4 = .ok (.ifCond .ne 5, 3) := by decide +kernel
theorem dX6_at_7 : decode cX6_at 7 = .ok (.iconst (-1), 1) := by decide +kernel
theorem dX6_at_8 : decode cX6_at 8 = .ok (.ireturn, 1) := by decide +kernel
theorem dX6_at_9 : decode cX6_at 9 = .ok (.aload_n 0, 1) := by decide +kernel
theorem dX6_at_10 : decode cX6_at 10 = .ok (.getfield 7, 3) := by decide +kernel
theorem dX6_at_13 : decode cX6_at 13 = .ok (.iload_n 1, 1) := by decide +kernel
theorem dX6_at_14 : decode cX6_at 14 = .ok (.iaload, 1) := by decide +kernel
theorem dX6_at_15 : decode cX6_at 15 = .ok (.ifCond .ge 9, 3) := by decide +kernel
theorem dX6_at_18 : decode cX6_at 18 = .ok (.aload_n 0, 1) := by decide +kernel
theorem dX6_at_19 : decode cX6_at 19 = .ok (.iconst 1, 1) := by decide +kernel
theorem dX6_at_20 : decode cX6_at 20 = .ok (.invokevirtual 79, 3) := by decide +kernel
theorem dX6_at_23 : decode cX6_at 23 = .ok (.ireturn, 1) := by decide +kernel
theorem dX6_at_24 : decode cX6_at 24 = .ok (.iload_n 2, 1) := by decide +kernel
theorem dX6_at_25 : decode cX6_at 25 = .ok (.i2l, 1) := by decide +kernel
theorem dX6_at_26 : decode cX6_at 26 = .ok (.lconst 0, 1) := by decide +kernel
theorem dX6_at_27 : decode cX6_at 27 = .ok (.aload_n 0, 1) := by decide +kernel
theorem dX6_at_28 : decode cX6_at 28 = .ok (.getfield 7, 3) := by decide +kernel
theorem dX6_at_31 : decode cX6_at 31 = .ok (.iload_n 1, 1) := by decide +kernel
theorem dX6_at_32 : decode cX6_at 32 = .ok (.iaload, 1) := by decide +kernel
theorem dX6_at_33 : decode cX6_at 33 = .ok (.iconst 1, 1) := by decide +kernel
theorem dX6_at_34 : decode cX6_at 34 = .ok (.isub, 1) := by decide +kernel
theorem dX6_at_35 : decode cX6_at 35 = .ok (.i2l, 1) := by decide +kernel
theorem dX6_at_36 : decode cX6_at 36 = .ok (.invokestatic 69, 3) := by decide +kernel
theorem dX6_at_39 : decode cX6_at 39 = .ok (.ifCond .eq 21, 3) := by decide +kernel
theorem dX6_at_42 : decode cX6_at 42 = .ok (.aload_n 0, 1) := by decide +kernel
theorem dX6_at_43 : decode cX6_at 43 = .ok (.aload_n 0, 1) := by decide +kernel
theorem dX6_at_44 : decode cX6_at 44 = .ok (.getfield 13, 3) := by decide +kernel
theorem dX6_at_47 : decode cX6_at 47 = .ok (.bipush 40, 2) := by decide +kernel
theorem dX6_at_49 : decode cX6_at 49 = .ok (.iload_n 1, 1) := by decide +kernel
theorem dX6_at_50 : decode cX6_at 50 = .ok (.imul, 1) := by decide +kernel
theorem dX6_at_51 : decode cX6_at 51 = .ok (.iload_n 2, 1) := by decide +kernel
theorem dX6_at_52 : decode cX6_at 52 = .ok (.iadd, 1) := by decide +kernel
theorem dX6_at_53 : decode cX6_at 53 = .ok (.iaload, 1) := by decide +kernel
theorem dX6_at_54 : decode cX6_at 54 = .ok (.invokevirtual 83, 3) := by decide +kernel
theorem dX6_at_57 : decode cX6_at 57 = .ok (.goto 8, 3) := by decide +kernel
theorem dX6_at_60 : decode cX6_at 60 = .ok (.aload_n 0, 1) := by decide +kernel
theorem dX6_at_61 : decode cX6_at 61 = .ok (.iconst 2, 1) := by decide +kernel
theorem dX6_at_62 : decode cX6_at 62 = .ok (.invokevirtual 79, 3) := by decide +kernel
theorem dX6_at_65 : decode cX6_at 65 = .ok (.ireturn, 1) := by decide +kernel
theorem dX6_tear_0 : decode cX6_tear 0 = .ok (.iload_n 1, 1) := by decide +kernel
theorem dX6_tear_1 : decode cX6_tear 1 = .ok (.invokestatic 75, 3) := by decide +kernel
theorem dX6_tear_4 : decode cX6_tear 4 = .ok (.ifCond .ne 5, 3) := by decide +kernel
theorem dX6_tear_7 : decode cX6_tear 7 = .ok (.iconst (-1), 1) := by decide +kernel
theorem dX6_tear_8 : decode cX6_tear 8 = .ok (.ireturn, 1) := by decide +kernel
theorem dX6_tear_9 : decode cX6_tear 9 = .ok (.aload_n 0, 1) := by decide +kernel
theorem dX6_tear_10 : decode cX6_tear 10 = .ok (.getfield 7, 3) := by decide +kernel
theorem dX6_tear_13 : decode cX6_tear 13 = .ok (.iload_n 1, 1) := by decide +kernel
theorem dX6_tear_14 : decode cX6_tear 14 = .ok (.iaload, 1) := by decide +kernel
theorem dX6_tear_15 : decode cX6_tear 15 = .ok (.ifCond .ge 9, 3) := by decide +kernel
theorem dX6_tear_18 : decode cX6_tear 18 = .ok (.aload_n 0, 1) := by decide +kernel
theorem dX6_tear_19 : decode cX6_tear 19 = .ok (.iconst 1, 1) := by decide +kernel
theorem dX6_tear_20 : decode cX6_tear 20 = .ok (.invokevirtual 79, 3) := by decide +kernel
theorem dX6_tear_23 : decode cX6_tear 23 = .ok (.ireturn, 1) := by decide +kernel
theorem dX6_tear_24 : decode cX6_tear 24 = .ok (.aload_n 0, 1) := by decide +kernel
theorem dX6_tear_25 : decode cX6_tear 25 = .ok (.getfield 7, 3) := by decide +kernel
theorem dX6_tear_28 : decode cX6_tear 28 = .ok (.iload_n 1, 1) := by decide +kernel
theorem dX6_tear_29 : decode cX6_tear 29 = .ok (.iconst (-1), 1) := by decide +kernel
theorem dX6_tear_30 : decode cX6_tear 30 = .ok (.iastore, 1) := by decide +kernel
theorem dX6_tear_31 : decode cX6_tear 31 = .ok (.iconst 1, 1) := by decide +kernel
theorem dX6_tear_32 : decode cX6_tear 32 = .ok (.ireturn, 1) := by decide +kernel
theorem dX6_copy_0 : decode cX6_copy 0 = .ok (.iload_n 1, 1) := by decide +kernel
theorem dX6_copy_1 : decode cX6_copy 1 = .ok (.invokestatic 75, 3) := by decide +kernel
theorem dX6_copy_4 : decode cX6_copy 4 = .ok (.ifCond .eq 10, 3) := by decide +kernel
theorem dX6_copy_7 : decode cX6_copy 7 = .ok (.iload_n 3, 1) := by decide +kernel
theorem dX6_copy_8 : decode cX6_copy 8 = .ok (.invokestatic 75, 3) := by decide +kernel
theorem dX6_copy_11 : decode cX6_copy 11 = .ok (.ifCond .ne 5, 3) := by decide +kernel
theorem dX6_copy_14 : decode cX6_copy 14 = .ok (.iconst (-1), 1) := by decide +kernel
theorem dX6_copy_15 : decode cX6_copy 15 = .ok (.ireturn, 1) := by decide +kernel
theorem dX6_copy_16 : decode cX6_copy 16 = .ok (.iload 5, 2) := by decide +kernel
theorem dX6_copy_18 : decode cX6_copy 18 = .ok (.ifCond .ge 9, 3) := by decide +kernel
theorem dX6_copy_21 : decode cX6_copy 21 = .ok (.aload_n 0, 1) := by decide +kernel
theorem dX6_copy_22 : decode cX6_copy 22 = .ok (.iconst 5, 1) := by decide +kernel
theorem dX6_copy_23 : decode cX6_copy 23 = .ok (.invokevirtual 79, 3) := by decide +kernel
theorem dX6_copy_26 : decode cX6_copy 26 = .ok (.ireturn, 1) := by decide +kernel
theorem dX6_copy_27 : decode cX6_copy 27 = .ok (.aload_n 0, 1) := by decide +kernel
theorem dX6_copy_28 : decode cX6_copy 28 = .ok (.getfield 7, 3) := by decide +kernel
theorem dX6_copy_31 : decode cX6_copy 31 = .ok (.iload_n 1, 1) := by decide +kernel
theorem dX6_copy_32 : decode cX6_copy 32 = .ok (.iaload, 1) := by decide +kernel
theorem dX6_copy_33 : decode cX6_copy 33 = .ok (.ifCond .lt 12, 3) := by decide +kernel
theorem dX6_copy_36 : decode cX6_copy 36 = .ok (.aload_n 0, 1) := by decide +kernel
theorem dX6_copy_37 : decode cX6_copy 37 = .ok (.getfield 7, 3) := by decide +kernel
theorem dX6_copy_40 : decode cX6_copy 40 = .ok (.iload_n 3, 1) := by decide +kernel
theorem dX6_copy_41 : decode cX6_copy 41 = .ok (.iaload, 1) := by decide +kernel
theorem dX6_copy_42 : decode cX6_copy 42 = .ok (.ifCond .ge 9, 3) := by decide +kernel
theorem dX6_copy_45 : decode cX6_copy 45 = .ok (.aload_n 0, 1) := by decide +kernel
theorem dX6_copy_46 : decode cX6_copy 46 = .ok (.iconst 1, 1) := by decide +kernel
theorem dX6_copy_47 : decode cX6_copy 47 = .ok (.invokevirtual 79, 3) := by decide +kernel
theorem dX6_copy_50 : decode cX6_copy 50 = .ok (.ireturn, 1) := by decide +kernel
theorem dX6_copy_51 : decode cX6_copy 51 = .ok (.iload_n 2, 1) := by decide +kernel
theorem dX6_copy_52 : decode cX6_copy 52 = .ok (.ifCond .lt 43, 3) := by decide +kernel
theorem dX6_copy_55 : decode cX6_copy 55 = .ok (.iload 4, 2) := by decide +kernel
theorem dX6_copy_57 : decode cX6_copy 57 = .ok (.ifCond .lt 38, 3) := by decide +kernel
theorem dX6_copy_60 : decode cX6_copy 60 = .ok (.iload_n 2, 1) := by decide +kernel
theorem dX6_copy_61 : decode cX6_copy 61 = .ok (.i2l, 1) := by decide +kernel
theorem dX6_copy_62 : decode cX6_copy 62 = .ok (.iload 5, 2) := by decide +kernel
theorem dX6_copy_64 : decode cX6_copy 64 = .ok (.i2l, 1) := by decide +kernel
theorem dX6_copy_65 : decode cX6_copy 65 = .ok (.ladd, 1) := by decide +kernel
theorem dX6_copy_66 : decode cX6_copy 66 = .ok (.aload_n 0, 1) := by decide +kernel
theorem dX6_copy_67 : decode cX6_copy 67 = .ok (.getfield 7, 3) := by decide +kernel
theorem dX6_copy_70 : decode cX6_copy 70 = .ok (.iload_n 1, 1) := by decide +kernel
theorem dX6_copy_71 : decode cX6_copy 71 = .ok (.iaload, 1) := by decide +kernel
theorem dX6_copy_72 : decode cX6_copy 72 = .ok (.i2l, 1) := by decide +kernel
theorem dX6_copy_73 : decode cX6_copy 73 = .ok (.lcmp, 1) := by decide +kernel
theorem dX6_copy_74 : decode cX6_copy 74 = .ok (.ifCond .gt 21, 3) := by decide +kernel
theorem dX6_copy_77 : decode cX6_copy 77 = .ok (.iload 4, 2) := by decide +kernel
theorem dX6_copy_79 : decode cX6_copy 79 = .ok (.i2l, 1) := by decide +kernel
theorem dX6_copy_80 : decode cX6_copy 80 = .ok (.iload 5, 2) := by decide +kernel
theorem dX6_copy_82 : decode cX6_copy 82 = .ok (.i2l, 1) := by decide +kernel
theorem dX6_copy_83 : decode cX6_copy 83 = .ok (.ladd, 1) := by decide +kernel
theorem dX6_copy_84 : decode cX6_copy 84 = .ok (.aload_n 0, 1) := by decide +kernel
theorem dX6_copy_85 : decode cX6_copy 85 = .ok (.getfield 7, 3) := by decide +kernel
theorem dX6_copy_88 : decode cX6_copy 88 = .ok (.iload_n 3, 1) := by decide +kernel
end
section
theorem dX6_copy_89 : decode cX6_copy 89 = .ok (.iaload, 1) := by decide +kernel
theorem dX6_copy_90 : decode cX6_copy 90 = .ok (.i2l, 1) := by decide +kernel
theorem dX6_copy_91 : decode cX6_copy 91 = .ok (.lcmp, 1) := by decide +kernel
theorem dX6_copy_92 : decode cX6_copy 92 = .ok (.ifCond .le 9, 3) := by decide +kernel
theorem dX6_copy_95 : decode cX6_copy 95 = .ok (.aload_n 0, 1) := by decide +kernel
theorem dX6_copy_96 : decode cX6_copy 96 = .ok (.iconst 2, 1) := by decide +kernel
theorem dX6_copy_97 : decode cX6_copy 97 = .ok (.invokevirtual 79, 3) := by decide +kernel
theorem dX6_copy_100 : decode cX6_copy 100 = .ok (.ireturn, 1) := by decide +kernel
theorem dX6_copy_101 : decode cX6_copy 101 = .ok (.iconst 0, 1) := by decide +kernel
theorem dX6_copy_102 : decode cX6_copy 102 = .ok (.istore 6, 2) := by decide +kernel
theorem dX6_copy_104 : decode cX6_copy 104 = .ok (.iload 6, 2) := by decide +kernel
theorem dX6_copy_106 : decode cX6_copy 106 = .ok (.iload 5, 2) := by decide +kernel
theorem dX6_copy_108 : decode cX6_copy 108 = .ok (.if_icmp .ge 58, 3) := by decide +kernel
theorem dX6_copy_111 : decode cX6_copy 111 = .ok (.iload 4, 2) := by decide +kernel
theorem dX6_copy_113 : decode cX6_copy 113 = .ok (.iload_n 2, 1) := by decide +kernel
theorem dX6_copy_114 : decode cX6_copy 114 = .ok (.if_icmp .le 13, 3) := by decide +kernel
theorem dX6_copy_117 : decode cX6_copy 117 = .ok (.iload 5, 2) := by decide +kernel
theorem dX6_copy_119 : decode cX6_copy 119 = .ok (.iconst 1, 1) := by decide +kernel
theorem dX6_copy_120 : decode cX6_copy 120 = .ok (.isub, 1) := by decide +kernel
theorem dX6_copy_121 : decode cX6_copy 121 = .ok (.iload 6, 2) := by decide +kernel
theorem dX6_copy_123 : decode cX6_copy 123 = .ok (.isub, 1) := by decide +kernel
theorem dX6_copy_124 : decode cX6_copy 124 = .ok (.goto 5, 3) := by decide +kernel
theorem dX6_copy_127 : decode cX6_copy 127 = .ok (.iload 6, 2) := by decide +kernel
theorem dX6_copy_129 : decode cX6_copy 129 = .ok (.istore 7, 2) := by decide +kernel
theorem dX6_copy_131 : decode cX6_copy 131 = .ok (.aload_n 0, 1) := by decide +kernel
theorem dX6_copy_132 : decode cX6_copy 132 = .ok (.getfield 13, 3) := by decide +kernel
theorem dX6_copy_135 : decode cX6_copy 135 = .ok (.bipush 40, 2) := by decide +kernel
theorem dX6_copy_137 : decode cX6_copy 137 = .ok (.iload_n 3, 1) := by decide +kernel
theorem dX6_copy_138 : decode cX6_copy 138 = .ok (.imul, 1) := by decide +kernel
theorem dX6_copy_139 : decode cX6_copy 139 = .ok (.iload 4, 2) := by decide +kernel
theorem dX6_copy_141 : decode cX6_copy 141 = .ok (.iadd, 1) := by decide +kernel
theorem dX6_copy_142 : decode cX6_copy 142 = .ok (.iload 7, 2) := by decide +kernel
theorem dX6_copy_144 : decode cX6_copy 144 = .ok (.iadd, 1) := by decide +kernel
theorem dX6_copy_145 : decode cX6_copy 145 = .ok (.aload_n 0, 1) := by decide +kernel
theorem dX6_copy_146 : decode cX6_copy 146 = .ok (.getfield 13, 3) := by decide +kernel
theorem dX6_copy_149 : decode cX6_copy 149 = .ok (.bipush 40, 2) := by decide +kernel
theorem dX6_copy_151 : decode cX6_copy 151 = .ok (.iload_n 1, 1) := by decide +kernel
theorem dX6_copy_152 : decode cX6_copy 152 = .ok (.imul, 1) := by decide +kernel
theorem dX6_copy_153 : decode cX6_copy 153 = .ok (.iload_n 2, 1) := by decide +kernel
theorem dX6_copy_154 : decode cX6_copy 154 = .ok (.iadd, 1) := by decide +kernel
theorem dX6_copy_155 : decode cX6_copy 155 = .ok (.iload 7, 2) := by decide +kernel
theorem dX6_copy_157 : decode cX6_copy 157 = .ok (.iadd, 1) := by decide +kernel
theorem dX6_copy_158 : decode cX6_copy 158 = .ok (.iaload, 1) := by decide +kernel
theorem dX6_copy_159 : decode cX6_copy 159 = .ok (.iastore, 1) := by decide +kernel
theorem dX6_copy_160 : decode cX6_copy 160 = .ok (.iinc 6 1, 3) := by decide +kernel
theorem dX6_copy_163 : decode cX6_copy 163 = .ok (.goto (-59), 3) := by decide +kernel
theorem dX6_copy_166 : decode cX6_copy 166 = .ok (.iconst 1, 1) := by decide +kernel
theorem dX6_copy_167 : decode cX6_copy 167 = .ok (.ireturn, 1) := by decide +kernel
theorem dX6_mean_0 : decode cX6_mean 0 = .ok (.iload_n 1, 1) := by decide +kernel
theorem dX6_mean_1 : decode cX6_mean 1 = .ok (.invokestatic 75, 3) := by decide +kernel
theorem dX6_mean_4 : decode cX6_mean 4 = .ok (.ifCond .ne 5, 3) := by decide +kernel
theorem dX6_mean_7 : decode cX6_mean 7 = .ok (.iconst (-1), 1) := by decide +kernel
theorem dX6_mean_8 : decode cX6_mean 8 = .ok (.ireturn, 1) := by decide +kernel
theorem dX6_mean_9 : decode cX6_mean 9 = .ok (.aload_n 0, 1) := by decide +kernel
theorem dX6_mean_10 : decode cX6_mean 10 = .ok (.getfield 7, 3) := by decide +kernel
theorem dX6_mean_13 : decode cX6_mean 13 = .ok (.iload_n 1, 1) := by decide +kernel
theorem dX6_mean_14 : decode cX6_mean 14 = .ok (.iaload, 1) := by decide +kernel
theorem dX6_mean_15 : decode cX6_mean 15 = .ok (.ifCond .ge 9, 3) := by decide +kernel
theorem dX6_mean_18 : decode cX6_mean 18 = .ok (.aload_n 0, 1) := by decide +kernel
theorem dX6_mean_19 : decode cX6_mean 19 = .ok (.iconst 1, 1) := by decide +kernel
theorem dX6_mean_20 : decode cX6_mean 20 = .ok (.invokevirtual 79, 3) := by decide +kernel
theorem dX6_mean_23 : decode cX6_mean 23 = .ok (.ireturn, 1) := by decide +kernel
theorem dX6_mean_24 : decode cX6_mean 24 = .ok (.aload_n 0, 1) := by decide +kernel
theorem dX6_mean_25 : decode cX6_mean 25 = .ok (.getfield 7, 3) := by decide +kernel
theorem dX6_mean_28 : decode cX6_mean 28 = .ok (.iload_n 1, 1) := by decide +kernel
theorem dX6_mean_29 : decode cX6_mean 29 = .ok (.iaload, 1) := by decide +kernel
theorem dX6_mean_30 : decode cX6_mean 30 = .ok (.ifCond .ne 9, 3) := by decide +kernel
theorem dX6_mean_33 : decode cX6_mean 33 = .ok (.aload_n 0, 1) := by decide +kernel
theorem dX6_mean_34 : decode cX6_mean 34 = .ok (.iconst 4, 1) := by decide +kernel
theorem dX6_mean_35 : decode cX6_mean 35 = .ok (.invokevirtual 79, 3) := by decide +kernel
theorem dX6_mean_38 : decode cX6_mean 38 = .ok (.ireturn, 1) := by decide +kernel
theorem dX6_mean_39 : decode cX6_mean 39 = .ok (.lconst 0, 1) := by decide +kernel
theorem dX6_mean_40 : decode cX6_mean 40 = .ok (.lstore_n 2, 1) := by decide +kernel
theorem dX6_mean_41 : decode cX6_mean 41 = .ok (.iconst 0, 1) := by decide +kernel
theorem dX6_mean_42 : decode cX6_mean 42 = .ok (.istore 4, 2) := by decide +kernel
theorem dX6_mean_44 : decode cX6_mean 44 = .ok (.iload 4, 2) := by decide +kernel
theorem dX6_mean_46 : decode cX6_mean 46 = .ok (.aload_n 0, 1) := by decide +kernel
theorem dX6_mean_47 : decode cX6_mean 47 = .ok (.getfield 7, 3) := by decide +kernel
theorem dX6_mean_50 : decode cX6_mean 50 = .ok (.iload_n 1, 1) := by decide +kernel
theorem dX6_mean_51 : decode cX6_mean 51 = .ok (.iaload, 1) := by decide +kernel
theorem dX6_mean_52 : decode cX6_mean 52 = .ok (.if_icmp .ge 25, 3) := by decide +kernel
theorem dX6_mean_55 : decode cX6_mean 55 = .ok (.lload_n 2, 1) := by decide +kernel
theorem dX6_mean_56 : decode cX6_mean 56 = .ok (.aload_n 0, 1) := by decide +kernel
theorem dX6_mean_57 : decode cX6_mean 57 = .ok (.getfield 13, 3) := by decide +kernel
theorem dX6_mean_60 : decode cX6_mean 60 = .ok (.bipush 40, 2) := by decide +kernel
theorem dX6_mean_62 : decode cX6_mean 62 = .ok (.iload_n 1, 1) := by decide +kernel
theorem dX6_mean_63 : decode cX6_mean 63 = .ok (.imul, 1) := by decide +kernel
theorem dX6_mean_64 : decode cX6_mean 64 = .ok (.iload 4, 2) := by decide +kernel
theorem dX6_mean_66 : decode cX6_mean 66 = .ok (.iadd, 1) := by decide +kernel
theorem dX6_mean_67 : decode cX6_mean 67 = .ok (.iaload, 1) := by decide +kernel
theorem dX6_mean_68 : decode cX6_mean 68 = .ok (.i2l, 1) := by decide +kernel
theorem dX6_mean_69 : decode cX6_mean 69 = .ok (.ladd, 1) := by decide +kernel
theorem dX6_mean_70 : decode cX6_mean 70 = .ok (.lstore_n 2, 1) := by decide +kernel
theorem dX6_mean_71 : decode cX6_mean 71 = .ok (.iinc 4 1, 3) := by decide +kernel
theorem dX6_mean_74 : decode cX6_mean 74 = .ok (.goto (-30), 3) := by decide +kernel
theorem dX6_mean_77 : decode cX6_mean 77 = .ok (.aload_n 0, 1) := by decide +kernel
theorem dX6_mean_78 : decode cX6_mean 78 = .ok (.lload_n 2, 1) := by decide +kernel
theorem dX6_mean_79 : decode cX6_mean 79 = .ok (.aload_n 0, 1) := by decide +kernel
theorem dX6_mean_80 : decode cX6_mean 80 = .ok (.getfield 7, 3) := by decide +kernel
theorem dX6_mean_83 : decode cX6_mean 83 = .ok (.iload_n 1, 1) := by decide +kernel
theorem dX6_mean_84 : decode cX6_mean 84 = .ok (.iaload, 1) := by decide +kernel
theorem dX6_mean_85 : decode cX6_mean 85 = .ok (.i2l, 1) := by decide +kernel
theorem dX6_mean_86 : decode cX6_mean 86 = .ok (.ldiv, 1) := by decide +kernel
theorem dX6_mean_87 : decode cX6_mean 87 = .ok (.l2i, 1) := by decide +kernel
theorem dX6_mean_88 : decode cX6_mean 88 = .ok (.invokevirtual 83, 3) := by decide +kernel
theorem dX6_mean_91 : decode cX6_mean 91 = .ok (.ireturn, 1) := by decide +kernel
theorem dX6_text_0 : decode cX6_text 0 = .ok (.iload_n 1, 1) := by decide +kernel
theorem dX6_text_1 : decode cX6_text 1 = .ok (.invokestatic 86, 3) := by decide +kernel
theorem dX6_text_4 : decode cX6_text 4 = .ok (.ifCond .eq 9, 3) := by decide +kernel
theorem dX6_text_7 : decode cX6_text 7 = .ok (.iload_n 2, 1) := by decide +kernel
theorem dX6_text_8 : decode cX6_text 8 = .ok (.bipush 60, 2) := by decide +kernel
theorem dX6_text_10 : decode cX6_text 10 = .ok (.if_icmp .le 5, 3) := by decide +kernel
theorem dX6_text_13 : decode cX6_text 13 = .ok (.iconst (-1), 1) := by decide +kernel
theorem dX6_text_14 : decode cX6_text 14 = .ok (.ireturn, 1) := by decide +kernel
theorem dX6_text_15 : decode cX6_text 15 = .ok (.iload_n 2, 1) := by decide +kernel
theorem dX6_text_16 : decode cX6_text 16 = .ok (.ifCond .ge 9, 3) := by decide +kernel
theorem dX6_text_19 : decode cX6_text 19 = .ok (.aload_n 0, 1) := by decide +kernel
theorem dX6_text_20 : decode cX6_text 20 = .ok (.iconst 5, 1) := by decide +kernel
theorem dX6_text_21 : decode cX6_text 21 = .ok (.invokevirtual 79, 3) := by decide +kernel
theorem dX6_text_24 : decode cX6_text 24 = .ok (.ireturn, 1) := by decide +kernel
theorem dX6_text_25 : decode cX6_text 25 = .ok (.aload_n 0, 1) := by decide +kernel
theorem dX6_text_26 : decode cX6_text 26 = .ok (.getfield 16, 3) := by decide +kernel
theorem dX6_text_29 : decode cX6_text 29 = .ok (.iload_n 1, 1) := by decide +kernel
theorem dX6_text_30 : decode cX6_text 30 = .ok (.iload_n 2, 1) := by decide +kernel
theorem dX6_text_31 : decode cX6_text 31 = .ok (.iastore, 1) := by decide +kernel
theorem dX6_text_32 : decode cX6_text 32 = .ok (.iconst 0, 1) := by decide +kernel
theorem dX6_text_33 : decode cX6_text 33 = .ok (.istore_n 3, 1) := by decide +kernel
theorem dX6_text_34 : decode cX6_text 34 = .ok (.iload_n 3, 1) := by decide +kernel
theorem dX6_text_35 : decode cX6_text 35 = .ok (.bipush 60, 2) := by decide +kernel
theorem dX6_text_37 : decode cX6_text 37 = .ok (.if_icmp .ge 22, 3) := by decide +kernel
theorem dX6_text_40 : decode cX6_text 40 = .ok (.aload_n 0, 1) := by decide +kernel
theorem dX6_text_41 : decode cX6_text 41 = .ok (.getfield 19, 3) := by decide +kernel
theorem dX6_text_44 : decode cX6_text 44 = .ok (.bipush 60, 2) := by decide +kernel
theorem dX6_text_46 : decode cX6_text 46 = .ok (.iload_n 1, 1) := by decide +kernel
theorem dX6_text_47 : decode cX6_text 47 = .ok (.imul, 1) := by decide +kernel
theorem dX6_text_48 : decode cX6_text 48 = .ok (.iload_n 3, 1) := by decide +kernel
theorem dX6_text_49 : decode cX6_text 49 = .ok (.iadd, 1) := by decide +kernel
theorem dX6_text_50 : decode cX6_text 50 = .ok (.bipush 32, 2) := by decide +kernel
theorem dX6_text_52 : decode cX6_text 52 = .ok (.iastore, 1) := by decide +kernel
theorem dX6_text_53 : decode cX6_text 53 = .ok (.iinc 3 1, 3) := by decide +kernel
theorem dX6_text_56 : decode cX6_text 56 = .ok (.goto (-22), 3) := by decide +kernel
theorem dX6_text_59 : decode cX6_text 59 = .ok (.iload_n 2, 1) := by decide +kernel
theorem dX6_text_60 : decode cX6_text 60 = .ok (.ireturn, 1) := by decide +kernel
theorem dX6_put_0 : decode cX6_put 0 = .ok (.iload_n 1, 1) := by decide +kernel
theorem dX6_put_1 : decode cX6_put 1 = .ok (.invokestatic 86, 3) := by decide +kernel
theorem dX6_put_4 : decode cX6_put 4 = .ok (.ifCond .ne 5, 3) := by decide +kernel
theorem dX6_put_7 : decode cX6_put 7 = .ok (.iconst (-1), 1) := by decide +kernel
theorem dX6_put_8 : decode cX6_put 8 = .ok (.ireturn, 1) := by decide +kernel
theorem dX6_put_9 : decode cX6_put 9 = .ok (.aload_n 0, 1) := by decide +kernel
theorem dX6_put_10 : decode cX6_put 10 = .ok (.getfield 16, 3) := by decide +kernel
theorem dX6_put_13 : decode cX6_put 13 = .ok (.iload_n 1, 1) := by decide +kernel
theorem dX6_put_14 : decode cX6_put 14 = .ok (.iaload, 1) := by decide +kernel
theorem dX6_put_15 : decode cX6_put 15 = .ok (.ifCond .ge 9, 3) := by decide +kernel
theorem dX6_put_18 : decode cX6_put 18 = .ok (.aload_n 0, 1) := by decide +kernel
theorem dX6_put_19 : decode cX6_put 19 = .ok (.iconst 1, 1) := by decide +kernel
theorem dX6_put_20 : decode cX6_put 20 = .ok (.invokevirtual 79, 3) := by decide +kernel
theorem dX6_put_23 : decode cX6_put 23 = .ok (.ireturn, 1) := by decide +kernel
theorem dX6_put_24 : decode cX6_put 24 = .ok (.iload_n 2, 1) := by decide +kernel
theorem dX6_put_25 : decode cX6_put 25 = .ok (.i2l, 1) := by decide +kernel
theorem dX6_put_26 : decode cX6_put 26 = .ok (.lconst 0, 1) := by decide +kernel
theorem dX6_put_27 : decode cX6_put 27 = .ok (.aload_n 0, 1) := by decide +kernel
theorem dX6_put_28 : decode cX6_put 28 = .ok (.getfield 16, 3) := by decide +kernel
theorem dX6_put_31 : decode cX6_put 31 = .ok (.iload_n 1, 1) := by decide +kernel
theorem dX6_put_32 : decode cX6_put 32 = .ok (.iaload, 1) := by decide +kernel
theorem dX6_put_33 : decode cX6_put 33 = .ok (.iconst 1, 1) := by decide +kernel
theorem dX6_put_34 : decode cX6_put 34 = .ok (.isub, 1) := by decide +kernel
theorem dX6_put_35 : decode cX6_put 35 = .ok (.i2l, 1) := by decide +kernel
theorem dX6_put_36 : decode cX6_put 36 = .ok (.invokestatic 69, 3) := by decide +kernel
theorem dX6_put_39 : decode cX6_put 39 = .ok (.ifCond .ne 9, 3) := by decide +kernel
theorem dX6_put_42 : decode cX6_put 42 = .ok (.aload_n 0, 1) := by decide +kernel
theorem dX6_put_43 : decode cX6_put 43 = .ok (.iconst 2, 1) := by decide +kernel
theorem dX6_put_44 : decode cX6_put 44 = .ok (.invokevirtual 79, 3) := by decide +kernel
theorem dX6_put_47 : decode cX6_put 47 = .ok (.ireturn, 1) := by decide +kernel
theorem dX6_put_48 : decode cX6_put 48 = .ok (.aload_n 0, 1) := by decide +kernel
theorem dX6_put_49 : decode cX6_put 49 = .ok (.getfield 19, 3) := by decide +kernel
theorem dX6_put_52 : decode cX6_put 52 = .ok (.bipush 60, 2) := by decide +kernel
theorem dX6_put_54 : decode cX6_put 54 = .ok (.iload_n 1, 1) := by decide +kernel
theorem dX6_put_55 : decode cX6_put 55 = .ok (.imul, 1) := by decide +kernel
theorem dX6_put_56 : decode cX6_put 56 = .ok (.iload_n 2, 1) := by decide +kernel
theorem dX6_put_57 : decode cX6_put 57 = .ok (.iadd, 1) := by decide +kernel
theorem dX6_put_58 : decode cX6_put 58 = .ok (.iaload, 1) := by decide +kernel
theorem dX6_put_59 : decode cX6_put 59 = .ok (.istore 4, 2) := by decide +kernel
theorem dX6_put_61 : decode cX6_put 61 = .ok (.aload_n 0, 1) := by decide +kernel
theorem dX6_put_62 : decode cX6_put 62 = .ok (.getfield 19, 3) := by decide +kernel
theorem dX6_put_65 : decode cX6_put 65 = .ok (.bipush 60, 2) := by decide +kernel
theorem dX6_put_67 : decode cX6_put 67 = .ok (.iload_n 1, 1) := by decide +kernel
theorem dX6_put_68 : decode cX6_put 68 = .ok (.imul, 1) := by decide +kernel
theorem dX6_put_69 : decode cX6_put 69 = .ok (.iload_n 2, 1) := by decide +kernel
theorem dX6_put_70 : decode cX6_put 70 = .ok (.iadd, 1) := by decide +kernel
theorem dX6_put_71 : decode cX6_put 71 = .ok (.iload_n 3, 1) := by decide +kernel
theorem dX6_put_72 : decode cX6_put 72 = .ok (.i2b, 1) := by decide +kernel
theorem dX6_put_73 : decode cX6_put 73 = .ok (.iastore, 1) := by decide +kernel
theorem dX6_put_74 : decode cX6_put 74 = .ok (.iload 4, 2) := by decide +kernel
theorem dX6_put_76 : decode cX6_put 76 = .ok (.sipush 1000, 3) := by decide +kernel
theorem dX6_put_79 : decode cX6_put 79 = .ok (.iadd, 1) := by decide +kernel
theorem dX6_put_80 : decode cX6_put 80 = .ok (.ireturn, 1) := by decide +kernel
theorem dX6_copies_0 : decode cX6_copies 0 = .ok (.iconst 0, 1) := by decide +kernel
theorem dX6_copies_1 : decode cX6_copies 1 = .ok (.istore 5, 2) := by decide +kernel
theorem dX6_copies_3 : decode cX6_copies 3 = .ok (.iload 5, 2) := by decide +kernel
theorem dX6_copies_5 : decode cX6_copies 5 = .ok (.iload 4, 2) := by decide +kernel
theorem dX6_copies_7 : decode cX6_copies 7 = .ok (.if_icmp .ge 21, 3) := by decide +kernel
theorem dX6_copies_10 : decode cX6_copies 10 = .ok (.aload_n 2, 1) := by decide +kernel
theorem dX6_copies_11 : decode cX6_copies 11 = .ok (.iload_n 3, 1) := by decide +kernel
theorem dX6_copies_12 : decode cX6_copies 12 = .ok (.iload 5, 2) := by decide +kernel
theorem dX6_copies_14 : decode cX6_copies 14 = .ok (.iadd, 1) := by decide +kernel
theorem dX6_copies_15 : decode cX6_copies 15 = .ok (.aload_n 0, 1) := by decide +kernel
theorem dX6_copies_16 : decode cX6_copies 16 = .ok (.iload_n 1, 1) := by decide +kernel
theorem dX6_copies_17 : decode cX6_copies 17 = .ok (.iload 5, 2) := by decide +kernel
theorem dX6_copies_19 : decode cX6_copies 19 = .ok (.iadd, 1) := by decide +kernel
theorem dX6_copies_20 : decode cX6_copies 20 = .ok (.iaload, 1) := by decide +kernel
theorem dX6_copies_21 : decode cX6_copies 21 = .ok (.iastore, 1) := by decide +kernel
theorem dX6_copies_22 : decode cX6_copies 22 = .ok (.iinc 5 1, 3) := by decide +kernel
theorem dX6_copies_25 : decode cX6_copies 25 = .ok (.goto (-22), 3) := by decide +kernel
theorem dX6_copies_28 : decode cX6_copies 28 = .ok (.return_, 1) := by decide +kernel
theorem dX6_kindOf_0 : decode cX6_kindOf 0 = .ok (.iload_n 0, 1) := by decide +kernel
theorem dX6_kindOf_1 : decode cX6_kindOf 1 = .ok (.lookupswitch 71 #[(99, 59), (100, 65), (109, 69), (116, 67), (119, 63), (120, 61)], 59) := by decide +kernel
theorem dX6_kindOf_60 : decode cX6_kindOf 60 = .ok (.iconst 0, 1) := by decide +kernel
theorem dX6_kindOf_61 : decode cX6_kindOf 61 = .ok (.ireturn, 1) := by decide +kernel
theorem dX6_kindOf_62 : decode cX6_kindOf 62 = .ok (.iconst 1, 1) := by decide +kernel
theorem dX6_kindOf_63 : decode cX6_kindOf 63 = .ok (.ireturn, 1) := by decide +kernel
theorem dX6_kindOf_64 : decode cX6_kindOf 64 = .ok (.iconst 2, 1) := by decide +kernel
theorem dX6_kindOf_65 : decode cX6_kindOf 65 = .ok (.ireturn, 1) := by decide +kernel
theorem dX6_kindOf_66 : decode cX6_kindOf 66 = .ok (.iconst 3, 1) := by decide +kernel
theorem dX6_kindOf_67 : decode cX6_kindOf 67 = .ok (.ireturn, 1) := by decide +kernel
theorem dX6_kindOf_68 : decode cX6_kindOf 68 = .ok (.iconst 4, 1) := by decide +kernel
theorem dX6_kindOf_69 : decode cX6_kindOf 69 = .ok (.ireturn, 1) := by decide +kernel
theorem dX6_kindOf_70 : decode cX6_kindOf 70 = .ok (.iconst 5, 1) := by decide +kernel
theorem dX6_kindOf_71 : decode cX6_kindOf 71 = .ok (.ireturn, 1) := by decide +kernel
theorem dX6_kindOf_72 : decode cX6_kindOf 72 = .ok (.bipush (-9), 2) := by decide +kernel
theorem dX6_kindOf_74 : decode cX6_kindOf 74 = .ok (.ireturn, 1) := by decide +kernel
theorem dX6_reads_0 : decode cX6_reads 0 = .ok (.aload_n 0, 1) := by decide +kernel
theorem dX6_reads_1 : decode cX6_reads 1 = .ok (.getfield 16, 3) := by decide +kernel
theorem dX6_reads_4 : decode cX6_reads 4 = .ok (.iload_n 1, 1) := by decide +kernel
theorem dX6_reads_5 : decode cX6_reads 5 = .ok (.iaload, 1) := by decide +kernel
theorem dX6_reads_6 : decode cX6_reads 6 = .ok (.istore_n 2, 1) := by decide +kernel
theorem dX6_reads_7 : decode cX6_reads 7 = .ok (.iconst 0, 1) := by decide +kernel
theorem dX6_reads_8 : decode cX6_reads 8 = .ok (.istore_n 3, 1) := by decide +kernel
theorem dX6_reads_9 : decode cX6_reads 9 = .ok (.aload_n 0, 1) := by decide +kernel
theorem dX6_reads_10 : decode cX6_reads 10 = .ok (.iconst 0, 1) := by decide +kernel
theorem dX6_reads_11 : decode cX6_reads 11 = .ok (.putfield 89, 3) := by decide +kernel
theorem dX6_reads_14 : decode cX6_reads 14 = .ok (.iload_n 3, 1) := by decide +kernel
theorem dX6_reads_15 : decode cX6_reads 15 = .ok (.iload_n 2, 1) := by decide +kernel
theorem dX6_reads_16 : decode cX6_reads 16 = .ok (.if_icmp .ge 151, 3) := by decide +kernel
theorem dX6_reads_19 : decode cX6_reads 19 = .ok (.aload_n 0, 1) := by decide +kernel
theorem dX6_reads_20 : decode cX6_reads 20 = .ok (.getfield 19, 3) := by decide +kernel
theorem dX6_reads_23 : decode cX6_reads 23 = .ok (.bipush 60, 2) := by decide +kernel
theorem dX6_reads_25 : decode cX6_reads 25 = .ok (.iload_n 1, 1) := by decide +kernel
theorem dX6_reads_26 : decode cX6_reads 26 = .ok (.imul, 1) := by decide +kernel
theorem dX6_reads_27 : decode cX6_reads 27 = .ok (.iload_n 3, 1) := by decide +kernel
theorem dX6_reads_28 : decode cX6_reads 28 = .ok (.iadd, 1) := by decide +kernel
theorem dX6_reads_29 : decode cX6_reads 29 = .ok (.iaload, 1) := by decide +kernel
theorem dX6_reads_30 : decode cX6_reads 30 = .ok (.istore 4, 2) := by decide +kernel
theorem dX6_reads_32 : decode cX6_reads 32 = .ok (.iload 4, 2) := by decide +kernel
theorem dX6_reads_34 : decode cX6_reads 34 = .ok (.bipush 32, 2) := by decide +kernel
theorem dX6_reads_36 : decode cX6_reads 36 = .ok (.if_icmp .eq 125, 3) := by decide +kernel
theorem dX6_reads_39 : decode cX6_reads 39 = .ok (.aload_n 0, 1) := by decide +kernel
theorem dX6_reads_40 : decode cX6_reads 40 = .ok (.getfield 89, 3) := by decide +kernel
theorem dX6_reads_43 : decode cX6_reads 43 = .ok (.bipush 6, 2) := by decide +kernel
theorem dX6_reads_45 : decode cX6_reads 45 = .ok (.if_icmp .eq 13, 3) := by decide +kernel
theorem dX6_reads_48 : decode cX6_reads 48 = .ok (.iload 4, 2) := by decide +kernel
theorem dX6_reads_50 : decode cX6_reads 50 = .ok (.invokestatic 92, 3) := by decide +kernel
theorem dX6_reads_53 : decode cX6_reads 53 = .ok (.bipush (-9), 2) := by decide +kernel
theorem dX6_reads_55 : decode cX6_reads 55 = .ok (.if_icmp .ne 5, 3) := by decide +kernel
theorem dX6_reads_58 : decode cX6_reads 58 = .ok (.iload_n 3, 1) := by decide +kernel
theorem dX6_reads_59 : decode cX6_reads 59 = .ok (.ireturn, 1) := by decide +kernel
theorem dX6_reads_60 : decode cX6_reads 60 = .ok (.aload_n 0, 1) := by decide +kernel
theorem dX6_reads_61 : decode cX6_reads 61 = .ok (.getfield 48, 3) := by decide +kernel
theorem dX6_reads_64 : decode cX6_reads 64 = .ok (.aload_n 0, 1) := by decide +kernel
theorem dX6_reads_65 : decode cX6_reads 65 = .ok (.getfield 89, 3) := by decide +kernel
theorem dX6_reads_68 : decode cX6_reads 68 = .ok (.iload 4, 2) := by decide +kernel
theorem dX6_reads_70 : decode cX6_reads 70 = .ok (.invokestatic 92, 3) := by decide +kernel
theorem dX6_reads_73 : decode cX6_reads 73 = .ok (.iastore, 1) := by decide +kernel
theorem dX6_reads_74 : decode cX6_reads 74 = .ok (.iconst 0, 1) := by decide +kernel
theorem dX6_reads_75 : decode cX6_reads 75 = .ok (.istore 5, 2) := by decide +kernel
theorem dX6_reads_77 : decode cX6_reads 77 = .ok (.iload 5, 2) := by decide +kernel
theorem dX6_reads_79 : decode cX6_reads 79 = .ok (.iconst 3, 1) := by decide +kernel
theorem dX6_reads_80 : decode cX6_reads 80 = .ok (.if_icmp .ge 71, 3) := by decide +kernel
theorem dX6_reads_83 : decode cX6_reads 83 = .ok (.iinc 3 1, 3) := by decide +kernel
theorem dX6_reads_86 : decode cX6_reads 86 = .ok (.iload_n 3, 1) := by decide +kernel
theorem dX6_reads_87 : decode cX6_reads 87 = .ok (.iload_n 2, 1) := by decide +kernel
theorem dX6_reads_88 : decode cX6_reads 88 = .ok (.if_icmp .eq 27, 3) := by decide +kernel
theorem dX6_reads_91 : decode cX6_reads 91 = .ok (.aload_n 0, 1) := by decide +kernel
theorem dX6_reads_92 : decode cX6_reads 92 = .ok (.getfield 19, 3) := by decide +kernel
theorem dX6_reads_95 : decode cX6_reads 95 = .ok (.bipush 60, 2) := by decide +kernel
theorem dX6_reads_97 : decode cX6_reads 97 = .ok (.iload_n 1, 1) := by decide +kernel
theorem dX6_reads_98 : decode cX6_reads 98 = .ok (.imul, 1) := by decide +kernel
theorem dX6_reads_99 : decode cX6_reads 99 = .ok (.iload_n 3, 1) := by decide +kernel
theorem dX6_reads_100 : decode cX6_reads 100 = .ok (.iadd, 1) := by decide +kernel
theorem dX6_reads_101 : decode cX6_reads 101 = .ok (.iaload, 1) := by decide +kernel
theorem dX6_reads_102 : decode cX6_reads 102 = .ok (.i2l, 1) := by decide +kernel
theorem dX6_reads_103 : decode cX6_reads 103 = .ok (.ldc2_w 95, 3) := by decide +kernel
theorem dX6_reads_106 : decode cX6_reads 106 = .ok (.ldc2_w 97, 3) := by decide +kernel
theorem dX6_reads_109 : decode cX6_reads 109 = .ok (.invokestatic 69, 3) := by decide +kernel
theorem dX6_reads_112 : decode cX6_reads 112 = .ok (.ifCond .ne 5, 3) := by decide +kernel
theorem dX6_reads_115 : decode cX6_reads 115 = .ok (.iload_n 3, 1) := by decide +kernel
theorem dX6_reads_116 : decode cX6_reads 116 = .ok (.ireturn, 1) := by decide +kernel
theorem dX6_reads_117 : decode cX6_reads 117 = .ok (.aload_n 0, 1) := by decide +kernel
theorem dX6_reads_118 : decode cX6_reads 118 = .ok (.getfield 51, 3) := by decide +kernel
theorem dX6_reads_121 : decode cX6_reads 121 = .ok (.iconst 3, 1) := by decide +kernel
theorem dX6_reads_122 : decode cX6_reads 122 = .ok (.aload_n 0, 1) := by decide +kernel
theorem dX6_reads_123 : decode cX6_reads 123 = .ok (.getfield 89, 3) := by decide +kernel
theorem dX6_reads_126 : decode cX6_reads 126 = .ok (.imul, 1) := by decide +kernel
theorem dX6_reads_127 : decode cX6_reads 127 = .ok (.iload 5, 2) := by decide +kernel
theorem dX6_reads_129 : decode cX6_reads 129 = .ok (.iadd, 1) := by decide +kernel
theorem dX6_reads_130 : decode cX6_reads 130 = .ok (.aload_n 0, 1) := by decide +kernel
theorem dX6_reads_131 : decode cX6_reads 131 = .ok (.getfield 19, 3) := by decide +kernel
theorem dX6_reads_134 : decode cX6_reads 134 = .ok (.bipush 60, 2) := by decide +kernel
theorem dX6_reads_136 : decode cX6_reads 136 = .ok (.iload_n 1, 1) := by decide +kernel
theorem dX6_reads_137 : decode cX6_reads 137 = .ok (.imul, 1) := by decide +kernel
theorem dX6_reads_138 : decode cX6_reads 138 = .ok (.iload_n 3, 1) := by decide +kernel
theorem dX6_reads_139 : decode cX6_reads 139 = .ok (.iadd, 1) := by decide +kernel
theorem dX6_reads_140 : decode cX6_reads 140 = .ok (.iaload, 1) := by decide +kernel
theorem dX6_reads_141 : decode cX6_reads 141 = .ok (.bipush 48, 2) := by decide +kernel
theorem dX6_reads_143 : decode cX6_reads 143 = .ok (.isub, 1) := by decide +kernel
theorem dX6_reads_144 : decode cX6_reads 144 = .ok (.iastore, 1) := by decide +kernel
theorem dX6_reads_145 : decode cX6_reads 145 = .ok (.iinc 5 1, 3) := by decide +kernel
theorem dX6_reads_148 : decode cX6_reads 148 = .ok (.goto (-71), 3) := by decide +kernel
theorem dX6_reads_151 : decode cX6_reads 151 = .ok (.aload_n 0, 1) := by decide +kernel
theorem dX6_reads_152 : decode cX6_reads 152 = .ok (.dup, 1) := by decide +kernel
theorem dX6_reads_153 : decode cX6_reads 153 = .ok (.getfield 89, 3) := by decide +kernel
theorem dX6_reads_156 : decode cX6_reads 156 = .ok (.iconst 1, 1) := by decide +kernel
theorem dX6_reads_157 : decode cX6_reads 157 = .ok (.iadd, 1) := by decide +kernel
theorem dX6_reads_158 : decode cX6_reads 158 = .ok (.putfield 89, 3) := by decide +kernel
theorem dX6_reads_161 : decode cX6_reads 161 = .ok (.iinc 3 1, 3) := by decide +kernel
theorem dX6_reads_164 : decode cX6_reads 164 = .ok (.goto (-150), 3) := by decide +kernel
theorem dX6_reads_167 : decode cX6_reads 167 = .ok (.aload_n 0, 1) := by decide +kernel
theorem dX6_reads_168 : decode cX6_reads 168 = .ok (.getfield 89, 3) := by decide +kernel
theorem dX6_reads_171 : decode cX6_reads 171 = .ok (.iconst 2, 1) := by decide +kernel
theorem dX6_reads_172 : decode cX6_reads 172 = .ok (.if_icmp .ge 7, 3) := by decide +kernel
theorem dX6_reads_175 : decode cX6_reads 175 = .ok (.iload_n 2, 1) := by decide +kernel
theorem dX6_reads_176 : decode cX6_reads 176 = .ok (.goto 5, 3) := by decide +kernel
theorem dX6_reads_179 : decode cX6_reads 179 = .ok (.bipush (-9), 2) := by decide +kernel
theorem dX6_reads_181 : decode cX6_reads 181 = .ok (.ireturn, 1) := by decide +kernel
theorem dX6_fault_0 : decode cX6_fault 0 = .ok (.iload_n 1, 1) := by decide +kernel
theorem dX6_fault_1 : decode cX6_fault 1 = .ok (.invokestatic 86, 3) := by decide +kernel
theorem dX6_fault_4 : decode cX6_fault 4 = .ok (.ifCond .ne 5, 3) := by decide +kernel
theorem dX6_fault_7 : decode cX6_fault 7 = .ok (.iconst (-1), 1) := by decide +kernel
theorem dX6_fault_8 : decode cX6_fault 8 = .ok (.ireturn, 1) := by decide +kernel
theorem dX6_fault_9 : decode cX6_fault 9 = .ok (.aload_n 0, 1) := by decide +kernel
theorem dX6_fault_10 : decode cX6_fault 10 = .ok (.getfield 16, 3) := by decide +kernel
theorem dX6_fault_13 : decode cX6_fault 13 = .ok (.iload_n 1, 1) := by decide +kernel
theorem dX6_fault_14 : decode cX6_fault 14 = .ok (.iaload, 1) := by decide +kernel
theorem dX6_fault_15 : decode cX6_fault 15 = .ok (.ifCond .ge 11, 3) := by decide +kernel
theorem dX6_fault_18 : decode cX6_fault 18 = .ok (.aload_n 0, 1) := by decide +kernel
theorem dX6_fault_19 : decode cX6_fault 19 = .ok (.iconst 1, 1) := by decide +kernel
theorem dX6_fault_20 : decode cX6_fault 20 = .ok (.invokevirtual 79, 3) := by decide +kernel
theorem dX6_fault_23 : decode cX6_fault 23 = .ok (.goto 8, 3) := by decide +kernel
theorem dX6_fault_26 : decode cX6_fault 26 = .ok (.aload_n 0, 1) := by decide +kernel
theorem dX6_fault_27 : decode cX6_fault 27 = .ok (.iload_n 1, 1) := by decide +kernel
theorem dX6_fault_28 : decode cX6_fault 28 = .ok (.invokevirtual 99, 3) := by decide +kernel
theorem dX6_fault_31 : decode cX6_fault 31 = .ok (.ireturn, 1) := by decide +kernel
theorem dX6_deck_0 : decode cX6_deck 0 = .ok (.iload_n 1, 1) := by decide +kernel
theorem dX6_deck_1 : decode cX6_deck 1 = .ok (.invokestatic 86, 3) := by decide +kernel
theorem dX6_deck_4 : decode cX6_deck 4 = .ok (.ifCond .ne 5, 3) := by decide +kernel
theorem dX6_deck_7 : decode cX6_deck 7 = .ok (.iconst (-1), 1) := by decide +kernel
theorem dX6_deck_8 : decode cX6_deck 8 = .ok (.ireturn, 1) := by decide +kernel
theorem dX6_deck_9 : decode cX6_deck 9 = .ok (.aload_n 0, 1) := by decide +kernel
theorem dX6_deck_10 : decode cX6_deck 10 = .ok (.getfield 16, 3) := by decide +kernel
theorem dX6_deck_13 : decode cX6_deck 13 = .ok (.iload_n 1, 1) := by decide +kernel
theorem dX6_deck_14 : decode cX6_deck 14 = .ok (.iaload, 1) := by decide +kernel
theorem dX6_deck_15 : decode cX6_deck 15 = .ok (.ifCond .ge 9, 3) := by decide +kernel
theorem dX6_deck_18 : decode cX6_deck 18 = .ok (.aload_n 0, 1) := by decide +kernel
theorem dX6_deck_19 : decode cX6_deck 19 = .ok (.iconst 1, 1) := by decide +kernel
theorem dX6_deck_20 : decode cX6_deck 20 = .ok (.invokevirtual 79, 3) := by decide +kernel
theorem dX6_deck_23 : decode cX6_deck 23 = .ok (.ireturn, 1) := by decide +kernel
theorem dX6_deck_24 : decode cX6_deck 24 = .ok (.aload_n 0, 1) := by decide +kernel
theorem dX6_deck_25 : decode cX6_deck 25 = .ok (.iload_n 1, 1) := by decide +kernel
theorem dX6_deck_26 : decode cX6_deck 26 = .ok (.invokevirtual 99, 3) := by decide +kernel
theorem dX6_deck_29 : decode cX6_deck 29 = .ok (.bipush (-9), 2) := by decide +kernel
theorem dX6_deck_31 : decode cX6_deck 31 = .ok (.if_icmp .eq 6, 3) := by decide +kernel
theorem dX6_deck_34 : decode cX6_deck 34 = .ok (.bipush (-4), 2) := by decide +kernel
theorem dX6_deck_36 : decode cX6_deck 36 = .ok (.ireturn, 1) := by decide +kernel
theorem dX6_deck_37 : decode cX6_deck 37 = .ok (.aload_n 0, 1) := by decide +kernel
theorem dX6_deck_38 : decode cX6_deck 38 = .ok (.aload_n 0, 1) := by decide +kernel
theorem dX6_deck_39 : decode cX6_deck 39 = .ok (.getfield 89, 3) := by decide +kernel
theorem dX6_deck_42 : decode cX6_deck 42 = .ok (.putfield 102, 3) := by decide +kernel
theorem dX6_deck_45 : decode cX6_deck 45 = .ok (.aload_n 0, 1) := by decide +kernel
theorem dX6_deck_46 : decode cX6_deck 46 = .ok (.getfield 48, 3) := by decide +kernel
theorem dX6_deck_49 : decode cX6_deck 49 = .ok (.iconst 0, 1) := by decide +kernel
theorem dX6_deck_50 : decode cX6_deck 50 = .ok (.aload_n 0, 1) := by decide +kernel
theorem dX6_deck_51 : decode cX6_deck 51 = .ok (.getfield 22, 3) := by decide +kernel
theorem dX6_deck_54 : decode cX6_deck 54 = .ok (.iconst 0, 1) := by decide +kernel
theorem dX6_deck_55 : decode cX6_deck 55 = .ok (.bipush 6, 2) := by decide +kernel
theorem dX6_deck_57 : decode cX6_deck 57 = .ok (.invokestatic 105, 3) := by decide +kernel
theorem dX6_deck_60 : decode cX6_deck 60 = .ok (.iconst 0, 1) := by decide +kernel
theorem dX6_deck_61 : decode cX6_deck 61 = .ok (.istore_n 2, 1) := by decide +kernel
theorem dX6_deck_62 : decode cX6_deck 62 = .ok (.iload_n 2, 1) := by decide +kernel
theorem dX6_deck_63 : decode cX6_deck 63 = .ok (.bipush 6, 2) := by decide +kernel
theorem dX6_deck_65 : decode cX6_deck 65 = .ok (.if_icmp .ge 16, 3) := by decide +kernel
theorem dX6_deck_68 : decode cX6_deck 68 = .ok (.aload_n 0, 1) := by decide +kernel
theorem dX6_deck_69 : decode cX6_deck 69 = .ok (.getfield 25, 3) := by decide +kernel
theorem dX6_deck_72 : decode cX6_deck 72 = .ok (.iload_n 2, 1) := by decide +kernel
theorem dX6_deck_73 : decode cX6_deck 73 = .ok (.iload_n 2, 1) := by decide +kernel
theorem dX6_deck_74 : decode cX6_deck 74 = .ok (.iastore, 1) := by decide +kernel
theorem dX6_deck_75 : decode cX6_deck 75 = .ok (.iinc 2 1, 3) := by decide +kernel
theorem dX6_deck_78 : decode cX6_deck 78 = .ok (.goto (-16), 3) := by decide +kernel
theorem dX6_deck_81 : decode cX6_deck 81 = .ok (.aload_n 0, 1) := by decide +kernel
theorem dX6_deck_82 : decode cX6_deck 82 = .ok (.getfield 51, 3) := by decide +kernel
theorem dX6_deck_85 : decode cX6_deck 85 = .ok (.iconst 0, 1) := by decide +kernel
theorem dX6_deck_86 : decode cX6_deck 86 = .ok (.aload_n 0, 1) := by decide +kernel
theorem dX6_deck_87 : decode cX6_deck 87 = .ok (.getfield 25, 3) := by decide +kernel
theorem dX6_deck_90 : decode cX6_deck 90 = .ok (.bipush 6, 2) := by decide +kernel
theorem dX6_deck_92 : decode cX6_deck 92 = .ok (.bipush 18, 2) := by decide +kernel
theorem dX6_deck_94 : decode cX6_deck 94 = .ok (.invokestatic 105, 3) := by decide +kernel
theorem dX6_deck_97 : decode cX6_deck 97 = .ok (.aload_n 0, 1) := by decide +kernel
theorem dX6_deck_98 : decode cX6_deck 98 = .ok (.getfield 25, 3) := by decide +kernel
theorem dX6_deck_101 : decode cX6_deck 101 = .ok (.bipush 24, 2) := by decide +kernel
theorem dX6_deck_103 : decode cX6_deck 103 = .ok (.iconst 0, 1) := by decide +kernel
theorem dX6_deck_104 : decode cX6_deck 104 = .ok (.iastore, 1) := by decide +kernel
theorem dX6_deck_105 : decode cX6_deck 105 = .ok (.aload_n 0, 1) := by decide +kernel
theorem dX6_deck_106 : decode cX6_deck 106 = .ok (.iconst 0, 1) := by decide +kernel
theorem dX6_deck_107 : decode cX6_deck 107 = .ok (.putfield 109, 3) := by decide +kernel
theorem dX6_deck_110 : decode cX6_deck 110 = .ok (.iconst 0, 1) := by decide +kernel
theorem dX6_deck_111 : decode cX6_deck 111 = .ok (.istore_n 2, 1) := by decide +kernel
theorem dX6_deck_112 : decode cX6_deck 112 = .ok (.iload_n 2, 1) := by decide +kernel
theorem dX6_deck_113 : decode cX6_deck 113 = .ok (.iconst 3, 1) := by decide +kernel
theorem dX6_deck_114 : decode cX6_deck 114 = .ok (.if_icmp .ge 16, 3) := by decide +kernel
theorem dX6_deck_117 : decode cX6_deck 117 = .ok (.aload_n 0, 1) := by decide +kernel
theorem dX6_deck_118 : decode cX6_deck 118 = .ok (.getfield 37, 3) := by decide +kernel
theorem dX6_deck_121 : decode cX6_deck 121 = .ok (.iload_n 2, 1) := by decide +kernel
theorem dX6_deck_122 : decode cX6_deck 122 = .ok (.iconst 0, 1) := by decide +kernel
theorem dX6_deck_123 : decode cX6_deck 123 = .ok (.bastore, 1) := by decide +kernel
theorem dX6_deck_124 : decode cX6_deck 124 = .ok (.iinc 2 1, 3) := by decide +kernel
theorem dX6_deck_127 : decode cX6_deck 127 = .ok (.goto (-15), 3) := by decide +kernel
theorem dX6_deck_130 : decode cX6_deck 130 = .ok (.aload_n 0, 1) := by decide +kernel
theorem dX6_deck_131 : decode cX6_deck 131 = .ok (.getfield 102, 3) := by decide +kernel
theorem dX6_deck_134 : decode cX6_deck 134 = .ok (.ireturn, 1) := by decide +kernel
theorem dX6_isCard_0 : decode cX6_isCard 0 = .ok (.iload_n 1, 1) := by decide +kernel
theorem dX6_isCard_1 : decode cX6_isCard 1 = .ok (.i2l, 1) := by decide +kernel
theorem dX6_isCard_2 : decode cX6_isCard 2 = .ok (.lconst 0, 1) := by decide +kernel
theorem dX6_isCard_3 : decode cX6_isCard 3 = .ok (.aload_n 0, 1) := by decide +kernel
theorem dX6_isCard_4 : decode cX6_isCard 4 = .ok (.getfield 102, 3) := by decide +kernel
theorem dX6_isCard_7 : decode cX6_isCard 7 = .ok (.iconst 1, 1) := by decide +kernel
theorem dX6_isCard_8 : decode cX6_isCard 8 = .ok (.isub, 1) := by decide +kernel
theorem dX6_isCard_9 : decode cX6_isCard 9 = .ok (.i2l, 1) := by decide +kernel
theorem dX6_isCard_10 : decode cX6_isCard 10 = .ok (.invokestatic 69, 3) := by decide +kernel
theorem dX6_isCard_13 : decode cX6_isCard 13 = .ok (.ireturn, 1) := by decide +kernel
theorem dX6_isColumn_0 : decode cX6_isColumn 0 = .ok (.iload_n 0, 1) := by decide +kernel
theorem dX6_isColumn_1 : decode cX6_isColumn 1 = .ok (.i2l, 1) := by decide +kernel
theorem dX6_isColumn_2 : decode cX6_isColumn 2 = .ok (.lconst 0, 1) := by decide +kernel
theorem dX6_isColumn_3 : decode cX6_isColumn 3 = .ok (.ldc2_w 112, 3) := by decide +kernel
theorem dX6_isColumn_6 : decode cX6_isColumn 6 = .ok (.invokestatic 69, 3) := by decide +kernel
theorem dX6_isColumn_9 : decode cX6_isColumn 9 = .ok (.ireturn, 1) := by decide +kernel
theorem dX6_more_0 : decode cX6_more 0 = .ok (.iload_n 0, 1) := by decide +kernel
theorem dX6_more_1 : decode cX6_more 1 = .ok (.iload_n 1, 1) := by decide +kernel
theorem dX6_more_2 : decode cX6_more 2 = .ok (.if_icmp .le 7, 3) := by decide +kernel
theorem dX6_more_5 : decode cX6_more 5 = .ok (.iload_n 0, 1) := by decide +kernel
theorem dX6_more_6 : decode cX6_more 6 = .ok (.goto 4, 3) := by decide +kernel
theorem dX6_more_9 : decode cX6_more 9 = .ok (.iload_n 1, 1) := by decide +kernel
theorem dX6_more_10 : decode cX6_more 10 = .ok (.ireturn, 1) := by decide +kernel
theorem dX6_readsBy_0 : decode cX6_readsBy 0 = .ok (.aload_n 0, 1) := by decide +kernel
theorem dX6_readsBy_1 : decode cX6_readsBy 1 = .ok (.iload_n 1, 1) := by decide +kernel
theorem dX6_readsBy_2 : decode cX6_readsBy 2 = .ok (.iload_n 3, 1) := by decide +kernel
theorem dX6_readsBy_3 : decode cX6_readsBy 3 = .ok (.iadd, 1) := by decide +kernel
theorem dX6_readsBy_4 : decode cX6_readsBy 4 = .ok (.iaload, 1) := by decide +kernel
theorem dX6_readsBy_5 : decode cX6_readsBy 5 = .ok (.istore 5, 2) := by decide +kernel
theorem dX6_readsBy_7 : decode cX6_readsBy 7 = .ok (.iload 5, 2) := by decide +kernel
theorem dX6_readsBy_9 : decode cX6_readsBy 9 = .ok (.aload_n 0, 1) := by decide +kernel
theorem dX6_readsBy_10 : decode cX6_readsBy 10 = .ok (.iload_n 1, 1) := by decide +kernel
theorem dX6_readsBy_11 : decode cX6_readsBy 11 = .ok (.iload_n 3, 1) := by decide +kernel
theorem dX6_readsBy_12 : decode cX6_readsBy 12 = .ok (.iconst 1, 1) := by decide +kernel
theorem dX6_readsBy_13 : decode cX6_readsBy 13 = .ok (.iadd, 1) := by decide +kernel
theorem dX6_readsBy_14 : decode cX6_readsBy 14 = .ok (.iconst 3, 1) := by decide +kernel
theorem dX6_readsBy_15 : decode cX6_readsBy 15 = .ok (.irem, 1) := by decide +kernel
theorem dX6_readsBy_16 : decode cX6_readsBy 16 = .ok (.iadd, 1) := by decide +kernel
theorem dX6_readsBy_17 : decode cX6_readsBy 17 = .ok (.iaload, 1) := by decide +kernel
theorem dX6_readsBy_18 : decode cX6_readsBy 18 = .ok (.invokestatic 114, 3) := by decide +kernel
theorem dX6_readsBy_21 : decode cX6_readsBy 21 = .ok (.istore 6, 2) := by decide +kernel
theorem dX6_readsBy_23 : decode cX6_readsBy 23 = .ok (.iload_n 2, 1) := by decide +kernel
theorem dX6_readsBy_24 : decode cX6_readsBy 24 = .ok (.tableswitch 95 1 5 #[36, 44, 56, 59, 81], 36) := by decide +kernel
theorem dX6_readsBy_60 : decode cX6_readsBy 60 = .ok (.aload_n 0, 1) := by decide +kernel
theorem dX6_readsBy_61 : decode cX6_readsBy 61 = .ok (.iload_n 1, 1) := by decide +kernel
theorem dX6_readsBy_62 : decode cX6_readsBy 62 = .ok (.iconst 2, 1) := by decide +kernel
theorem dX6_readsBy_63 : decode cX6_readsBy 63 = .ok (.iadd, 1) := by decide +kernel
theorem dX6_readsBy_64 : decode cX6_readsBy 64 = .ok (.iload_n 3, 1) := by decide +kernel
theorem dX6_readsBy_65 : decode cX6_readsBy 65 = .ok (.isub, 1) := by decide +kernel
theorem dX6_readsBy_66 : decode cX6_readsBy 66 = .ok (.iaload, 1) := by decide +kernel
theorem dX6_readsBy_67 : decode cX6_readsBy 67 = .ok (.ireturn, 1) := by decide +kernel
theorem dX6_readsBy_68 : decode cX6_readsBy 68 = .ok (.iconst 0, 1) := by decide +kernel
theorem dX6_readsBy_69 : decode cX6_readsBy 69 = .ok (.iload 5, 2) := by decide +kernel
theorem dX6_readsBy_71 : decode cX6_readsBy 71 = .ok (.iload 4, 2) := by decide +kernel
theorem dX6_readsBy_73 : decode cX6_readsBy 73 = .ok (.iconst 4, 1) := by decide +kernel
theorem dX6_readsBy_74 : decode cX6_readsBy 74 = .ok (.idiv, 1) := by decide +kernel
theorem dX6_readsBy_75 : decode cX6_readsBy 75 = .ok (.isub, 1) := by decide +kernel
theorem dX6_readsBy_76 : decode cX6_readsBy 76 = .ok (.invokestatic 114, 3) := by decide +kernel
theorem dX6_readsBy_79 : decode cX6_readsBy 79 = .ok (.ireturn, 1) := by decide +kernel
theorem dX6_readsBy_80 : decode cX6_readsBy 80 = .ok (.iload 6, 2) := by decide +kernel
theorem dX6_readsBy_82 : decode cX6_readsBy 82 = .ok (.ireturn, 1) := by decide +kernel
theorem dX6_readsBy_83 : decode cX6_readsBy 83 = .ok (.iload 5, 2) := by decide +kernel
theorem dX6_readsBy_85 : decode cX6_readsBy 85 = .ok (.ifCond .ne 8, 3) := by decide +kernel
theorem dX6_readsBy_88 : decode cX6_readsBy 88 = .ok (.bipush 10, 2) := by decide +kernel
theorem dX6_readsBy_90 : decode cX6_readsBy 90 = .ok (.goto 14, 3) := by decide +kernel
theorem dX6_readsBy_93 : decode cX6_readsBy 93 = .ok (.iconst 0, 1) := by decide +kernel
theorem dX6_readsBy_94 : decode cX6_readsBy 94 = .ok (.iload 5, 2) := by decide +kernel
theorem dX6_readsBy_96 : decode cX6_readsBy 96 = .ok (.iload 4, 2) := by decide +kernel
theorem dX6_readsBy_98 : decode cX6_readsBy 98 = .ok (.iconst 4, 1) := by decide +kernel
theorem dX6_readsBy_99 : decode cX6_readsBy 99 = .ok (.idiv, 1) := by decide +kernel
theorem dX6_readsBy_100 : decode cX6_readsBy 100 = .ok (.isub, 1) := by decide +kernel
theorem dX6_readsBy_101 : decode cX6_readsBy 101 = .ok (.invokestatic 114, 3) := by decide +kernel
theorem dX6_readsBy_104 : decode cX6_readsBy 104 = .ok (.ireturn, 1) := by decide +kernel
theorem dX6_readsBy_105 : decode cX6_readsBy 105 = .ok (.iload 6, 2) := by decide +kernel
theorem dX6_readsBy_107 : decode cX6_readsBy 107 = .ok (.bipush 9, 2) := by decide +kernel
theorem dX6_readsBy_109 : decode cX6_readsBy 109 = .ok (.if_icmp .ne 7, 3) := by decide +kernel
theorem dX6_readsBy_112 : decode cX6_readsBy 112 = .ok (.iconst 0, 1) := by decide +kernel
theorem dX6_readsBy_113 : decode cX6_readsBy 113 = .ok (.goto 5, 3) := by decide +kernel
theorem dX6_readsBy_116 : decode cX6_readsBy 116 = .ok (.iload 6, 2) := by decide +kernel
theorem dX6_readsBy_118 : decode cX6_readsBy 118 = .ok (.ireturn, 1) := by decide +kernel
theorem dX6_readsBy_119 : decode cX6_readsBy 119 = .ok (.iload 5, 2) := by decide +kernel
theorem dX6_readsBy_121 : decode cX6_readsBy 121 = .ok (.ireturn, 1) := by decide +kernel
theorem dX6_readOn_0 : decode cX6_readOn 0 = .ok (.aload_n 1, 1) := by decide +kernel
theorem dX6_readOn_1 : decode cX6_readOn 1 = .ok (.bipush 6, 2) := by decide +kernel
theorem dX6_readOn_3 : decode cX6_readOn 3 = .ok (.iconst 3, 1) := by decide +kernel
theorem dX6_readOn_4 : decode cX6_readOn 4 = .ok (.iload_n 2, 1) := by decide +kernel
theorem dX6_readOn_5 : decode cX6_readOn 5 = .ok (.imul, 1) := by decide +kernel
theorem dX6_readOn_6 : decode cX6_readOn 6 = .ok (.iadd, 1) := by decide +kernel
theorem dX6_readOn_7 : decode cX6_readOn 7 = .ok (.aload_n 0, 1) := by decide +kernel
theorem dX6_readOn_8 : decode cX6_readOn 8 = .ok (.getfield 22, 3) := by decide +kernel
theorem dX6_readOn_11 : decode cX6_readOn 11 = .ok (.iload_n 2, 1) := by decide +kernel
theorem dX6_readOn_12 : decode cX6_readOn 12 = .ok (.iaload, 1) := by decide +kernel
theorem dX6_readOn_13 : decode cX6_readOn 13 = .ok (.iload_n 3, 1) := by decide +kernel
theorem dX6_readOn_14 : decode cX6_readOn 14 = .ok (.aload_n 1, 1) := by decide +kernel
theorem dX6_readOn_15 : decode cX6_readOn 15 = .ok (.bipush 24, 2) := by decide +kernel
theorem dX6_readOn_17 : decode cX6_readOn 17 = .ok (.iaload, 1) := by decide +kernel
theorem dX6_readOn_18 : decode cX6_readOn 18 = .ok (.invokestatic 118, 3) := by decide +kernel
theorem dX6_readOn_21 : decode cX6_readOn 21 = .ok (.ireturn, 1) := by decide +kernel
theorem dX6_placeOf_0 : decode cX6_placeOf 0 = .ok (.iconst 0, 1) := by decide +kernel
theorem dX6_placeOf_1 : decode cX6_placeOf 1 = .ok (.istore_n 2, 1) := by decide +kernel
theorem dX6_placeOf_2 : decode cX6_placeOf 2 = .ok (.aload_n 0, 1) := by decide +kernel
theorem dX6_placeOf_3 : decode cX6_placeOf 3 = .ok (.iload_n 2, 1) := by decide +kernel
theorem dX6_placeOf_4 : decode cX6_placeOf 4 = .ok (.iaload, 1) := by decide +kernel
theorem dX6_placeOf_5 : decode cX6_placeOf 5 = .ok (.iload_n 1, 1) := by decide +kernel
theorem dX6_placeOf_6 : decode cX6_placeOf 6 = .ok (.if_icmp .eq 9, 3) := by decide +kernel
theorem dX6_placeOf_9 : decode cX6_placeOf 9 = .ok (.iinc 2 1, 3) := by decide +kernel
theorem dX6_placeOf_12 : decode cX6_placeOf 12 = .ok (.goto (-10), 3) := by decide +kernel
theorem dX6_placeOf_15 : decode cX6_placeOf 15 = .ok (.iload_n 2, 1) := by decide +kernel
theorem dX6_placeOf_16 : decode cX6_placeOf 16 = .ok (.ireturn, 1) := by decide +kernel
theorem dX6_falls_0 : decode cX6_falls 0 = .ok (.iconst 0, 1) := by decide +kernel
theorem dX6_falls_1 : decode cX6_falls 1 = .ok (.istore 4, 2) := by decide +kernel
theorem dX6_falls_3 : decode cX6_falls 3 = .ok (.iconst 0, 1) := by decide +kernel
theorem dX6_falls_4 : decode cX6_falls 4 = .ok (.istore 5, 2) := by decide +kernel
theorem dX6_falls_6 : decode cX6_falls 6 = .ok (.iload 5, 2) := by decide +kernel
theorem dX6_falls_8 : decode cX6_falls 8 = .ok (.bipush 11, 2) := by decide +kernel
theorem dX6_falls_10 : decode cX6_falls 10 = .ok (.if_icmp .ge 120, 3) := by decide +kernel
theorem dX6_falls_13 : decode cX6_falls 13 = .ok (.iconst 1, 1) := by decide +kernel
theorem dX6_falls_14 : decode cX6_falls 14 = .ok (.istore 6, 2) := by decide +kernel
theorem dX6_falls_16 : decode cX6_falls 16 = .ok (.iload 6, 2) := by decide +kernel
theorem dX6_falls_18 : decode cX6_falls 18 = .ok (.ifCond .lt 106, 3) := by decide +kernel
theorem dX6_falls_21 : decode cX6_falls 21 = .ok (.iconst 0, 1) := by decide +kernel
theorem dX6_falls_22 : decode cX6_falls 22 = .ok (.istore 7, 2) := by decide +kernel
theorem dX6_falls_24 : decode cX6_falls 24 = .ok (.iload 7, 2) := by decide +kernel
theorem dX6_falls_26 : decode cX6_falls 26 = .ok (.aload_n 0, 1) := by decide +kernel
theorem dX6_falls_27 : decode cX6_falls 27 = .ok (.getfield 102, 3) := by decide +kernel
theorem dX6_falls_30 : decode cX6_falls 30 = .ok (.if_icmp .ge 88, 3) := by decide +kernel
theorem dX6_falls_33 : decode cX6_falls 33 = .ok (.aload_n 1, 1) := by decide +kernel
theorem dX6_falls_34 : decode cX6_falls 34 = .ok (.iload 7, 2) := by decide +kernel
theorem dX6_falls_36 : decode cX6_falls 36 = .ok (.iaload, 1) := by decide +kernel
theorem dX6_falls_37 : decode cX6_falls 37 = .ok (.istore 8, 2) := by decide +kernel
theorem dX6_falls_39 : decode cX6_falls 39 = .ok (.iload_n 3, 1) := by decide +kernel
theorem dX6_falls_40 : decode cX6_falls 40 = .ok (.iload 8, 2) := by decide +kernel
theorem dX6_falls_42 : decode cX6_falls 42 = .ok (.invokestatic 122, 3) := by decide +kernel
theorem dX6_falls_45 : decode cX6_falls 45 = .ok (.ifCond .eq 8, 3) := by decide +kernel
theorem dX6_falls_48 : decode cX6_falls 48 = .ok (.bipush 10, 2) := by decide +kernel
theorem dX6_falls_50 : decode cX6_falls 50 = .ok (.goto 11, 3) := by decide +kernel
theorem dX6_falls_53 : decode cX6_falls 53 = .ok (.aload_n 0, 1) := by decide +kernel
theorem dX6_falls_54 : decode cX6_falls 54 = .ok (.aload_n 1, 1) := by decide +kernel
theorem dX6_falls_55 : decode cX6_falls 55 = .ok (.iload 8, 2) := by decide +kernel
theorem dX6_falls_57 : decode cX6_falls 57 = .ok (.iload_n 2, 1) := by decide +kernel
theorem dX6_falls_58 : decode cX6_falls 58 = .ok (.invokevirtual 126, 3) := by decide +kernel
theorem dX6_falls_61 : decode cX6_falls 61 = .ok (.istore 9, 2) := by decide +kernel
theorem dX6_falls_63 : decode cX6_falls 63 = .ok (.iload 9, 2) := by decide +kernel
theorem dX6_falls_65 : decode cX6_falls 65 = .ok (.iload 5, 2) := by decide +kernel
theorem dX6_falls_67 : decode cX6_falls 67 = .ok (.if_icmp .ne 45, 3) := by decide +kernel
theorem dX6_falls_70 : decode cX6_falls 70 = .ok (.aload_n 0, 1) := by decide +kernel
theorem dX6_falls_71 : decode cX6_falls 71 = .ok (.getfield 22, 3) := by decide +kernel
theorem dX6_falls_74 : decode cX6_falls 74 = .ok (.iload 8, 2) := by decide +kernel
theorem dX6_falls_76 : decode cX6_falls 76 = .ok (.iaload, 1) := by decide +kernel
theorem dX6_falls_77 : decode cX6_falls 77 = .ok (.iconst 5, 1) := by decide +kernel
theorem dX6_falls_78 : decode cX6_falls 78 = .ok (.if_icmp .ne 7, 3) := by decide +kernel
theorem dX6_falls_81 : decode cX6_falls 81 = .ok (.iconst 1, 1) := by decide +kernel
theorem dX6_falls_82 : decode cX6_falls 82 = .ok (.goto 4, 3) := by decide +kernel
theorem dX6_falls_85 : decode cX6_falls 85 = .ok (.iconst 0, 1) := by decide +kernel
theorem dX6_falls_86 : decode cX6_falls 86 = .ok (.iload 6, 2) := by decide +kernel
theorem dX6_falls_88 : decode cX6_falls 88 = .ok (.iconst 1, 1) := by decide +kernel
theorem dX6_falls_89 : decode cX6_falls 89 = .ok (.if_icmp .ne 7, 3) := by decide +kernel
theorem dX6_falls_92 : decode cX6_falls 92 = .ok (.iconst 1, 1) := by decide +kernel
theorem dX6_falls_93 : decode cX6_falls 93 = .ok (.goto 4, 3) := by decide +kernel
theorem dX6_falls_96 : decode cX6_falls 96 = .ok (.iconst 0, 1) := by decide +kernel
theorem dX6_falls_97 : decode cX6_falls 97 = .ok (.if_icmp .ne 15, 3) := by decide +kernel
theorem dX6_falls_100 : decode cX6_falls 100 = .ok (.aload_n 0, 1) := by decide +kernel
theorem dX6_falls_101 : decode cX6_falls 101 = .ok (.getfield 54, 3) := by decide +kernel
theorem dX6_falls_104 : decode cX6_falls 104 = .ok (.iload 4, 2) := by decide +kernel
theorem dX6_falls_106 : decode cX6_falls 106 = .ok (.iload 8, 2) := by decide +kernel
theorem dX6_falls_108 : decode cX6_falls 108 = .ok (.iastore, 1) := by decide +kernel
theorem dX6_falls_109 : decode cX6_falls 109 = .ok (.iinc 4 1, 3) := by decide +kernel
theorem dX6_falls_112 : decode cX6_falls 112 = .ok (.iinc 7 1, 3) := by decide +kernel
theorem dX6_falls_115 : decode cX6_falls 115 = .ok (.goto (-91), 3) := by decide +kernel
theorem dX6_falls_118 : decode cX6_falls 118 = .ok (.iinc 6 (-1), 3) := by decide +kernel
theorem dX6_falls_121 : decode cX6_falls 121 = .ok (.goto (-105), 3) := by decide +kernel
theorem dX6_falls_124 : decode cX6_falls 124 = .ok (.iinc 5 1, 3) := by decide +kernel
theorem dX6_falls_127 : decode cX6_falls 127 = .ok (.goto (-121), 3) := by decide +kernel
theorem dX6_falls_130 : decode cX6_falls 130 = .ok (.aload_n 0, 1) := by decide +kernel
theorem dX6_falls_131 : decode cX6_falls 131 = .ok (.getfield 54, 3) := by decide +kernel
theorem dX6_falls_134 : decode cX6_falls 134 = .ok (.iconst 0, 1) := by decide +kernel
theorem dX6_falls_135 : decode cX6_falls 135 = .ok (.aload_n 1, 1) := by decide +kernel
theorem dX6_falls_136 : decode cX6_falls 136 = .ok (.iconst 0, 1) := by decide +kernel
theorem dX6_falls_137 : decode cX6_falls 137 = .ok (.aload_n 0, 1) := by decide +kernel
theorem dX6_falls_138 : decode cX6_falls 138 = .ok (.getfield 102, 3) := by decide +kernel
theorem dX6_falls_141 : decode cX6_falls 141 = .ok (.invokestatic 105, 3) := by decide +kernel
theorem dX6_falls_144 : decode cX6_falls 144 = .ok (.return_, 1) := by decide +kernel
theorem dX6_passes_0 : decode cX6_passes 0 = .ok (.aload_n 0, 1) := by decide +kernel
theorem dX6_passes_1 : decode cX6_passes 1 = .ok (.aload_n 1, 1) := by decide +kernel
theorem dX6_passes_2 : decode cX6_passes 2 = .ok (.iload_n 2, 1) := by decide +kernel
theorem dX6_passes_3 : decode cX6_passes 3 = .ok (.iconst 0, 1) := by decide +kernel
theorem dX6_passes_4 : decode cX6_passes 4 = .ok (.invokevirtual 130, 3) := by decide +kernel
theorem dX6_passes_7 : decode cX6_passes 7 = .ok (.aload_n 1, 1) := by decide +kernel
theorem dX6_passes_8 : decode cX6_passes 8 = .ok (.bipush 24, 2) := by decide +kernel
theorem dX6_passes_10 : decode cX6_passes 10 = .ok (.dup2, 1) := by decide +kernel
theorem dX6_passes_11 : decode cX6_passes 11 = .ok (.iaload, 1) := by decide +kernel
theorem dX6_passes_12 : decode cX6_passes 12 = .ok (.aload_n 1, 1) := by decide +kernel
theorem dX6_passes_13 : decode cX6_passes 13 = .ok (.bipush 24, 2) := by decide +kernel
theorem dX6_passes_15 : decode cX6_passes 15 = .ok (.iaload, 1) := by decide +kernel
theorem dX6_passes_16 : decode cX6_passes 16 = .ok (.bipush 60, 2) := by decide +kernel
theorem dX6_passes_18 : decode cX6_passes 18 = .ok (.if_icmp .ge 7, 3) := by decide +kernel
theorem dX6_passes_21 : decode cX6_passes 21 = .ok (.iconst 1, 1) := by decide +kernel
theorem dX6_passes_22 : decode cX6_passes 22 = .ok (.goto 4, 3) := by decide +kernel
theorem dX6_passes_25 : decode cX6_passes 25 = .ok (.iconst 0, 1) := by decide +kernel
theorem dX6_passes_26 : decode cX6_passes 26 = .ok (.iadd, 1) := by decide +kernel
theorem dX6_passes_27 : decode cX6_passes 27 = .ok (.iastore, 1) := by decide +kernel
theorem dX6_passes_28 : decode cX6_passes 28 = .ok (.return_, 1) := by decide +kernel
theorem dX6_card_0 : decode cX6_card 0 = .ok (.aload_n 0, 1) := by decide +kernel
theorem dX6_card_1 : decode cX6_card 1 = .ok (.iload_n 1, 1) := by decide +kernel
theorem dX6_card_2 : decode cX6_card 2 = .ok (.invokevirtual 134, 3) := by decide +kernel
theorem dX6_card_5 : decode cX6_card 5 = .ok (.ifCond .eq 15, 3) := by decide +kernel
theorem dX6_card_8 : decode cX6_card 8 = .ok (.iload_n 2, 1) := by decide +kernel
theorem dX6_card_9 : decode cX6_card 9 = .ok (.i2l, 1) := by decide +kernel
theorem dX6_card_10 : decode cX6_card 10 = .ok (.lconst 0, 1) := by decide +kernel
theorem dX6_card_11 : decode cX6_card 11 = .ok (.ldc2_w 137, 3) := by decide +kernel
theorem dX6_card_14 : decode cX6_card 14 = .ok (.invokestatic 69, 3) := by decide +kernel
theorem dX6_card_17 : decode cX6_card 17 = .ok (.ifCond .ne 5, 3) := by decide +kernel
theorem dX6_card_20 : decode cX6_card 20 = .ok (.iconst (-1), 1) := by decide +kernel
theorem dX6_card_21 : decode cX6_card 21 = .ok (.ireturn, 1) := by decide +kernel
theorem dX6_card_22 : decode cX6_card 22 = .ok (.aload_n 0, 1) := by decide +kernel
theorem dX6_card_23 : decode cX6_card 23 = .ok (.iload_n 2, 1) := by decide +kernel
theorem dX6_card_24 : decode cX6_card 24 = .ok (.ifCond .ne 12, 3) := by decide +kernel
theorem dX6_card_27 : decode cX6_card 27 = .ok (.aload_n 0, 1) := by decide +kernel
theorem dX6_card_28 : decode cX6_card 28 = .ok (.getfield 22, 3) := by decide +kernel
theorem dX6_card_31 : decode cX6_card 31 = .ok (.iload_n 1, 1) := by decide +kernel
theorem dX6_card_32 : decode cX6_card 32 = .ok (.iaload, 1) := by decide +kernel
theorem dX6_card_33 : decode cX6_card 33 = .ok (.goto 54, 3) := by decide +kernel
theorem dX6_card_36 : decode cX6_card 36 = .ok (.iload_n 2, 1) := by decide +kernel
theorem dX6_card_37 : decode cX6_card 37 = .ok (.iconst 4, 1) := by decide +kernel
theorem dX6_card_38 : decode cX6_card 38 = .ok (.if_icmp .ge 21, 3) := by decide +kernel
theorem dX6_card_41 : decode cX6_card 41 = .ok (.aload_n 0, 1) := by decide +kernel
theorem dX6_card_42 : decode cX6_card 42 = .ok (.getfield 25, 3) := by decide +kernel
theorem dX6_card_45 : decode cX6_card 45 = .ok (.bipush 6, 2) := by decide +kernel
theorem dX6_card_47 : decode cX6_card 47 = .ok (.iconst 3, 1) := by decide +kernel
theorem dX6_card_48 : decode cX6_card 48 = .ok (.iload_n 1, 1) := by decide +kernel
theorem dX6_card_49 : decode cX6_card 49 = .ok (.imul, 1) := by decide +kernel
theorem dX6_card_50 : decode cX6_card 50 = .ok (.iadd, 1) := by decide +kernel
theorem dX6_card_51 : decode cX6_card 51 = .ok (.iload_n 2, 1) := by decide +kernel
theorem dX6_card_52 : decode cX6_card 52 = .ok (.iadd, 1) := by decide +kernel
theorem dX6_card_53 : decode cX6_card 53 = .ok (.iconst 1, 1) := by decide +kernel
theorem dX6_card_54 : decode cX6_card 54 = .ok (.isub, 1) := by decide +kernel
theorem dX6_card_55 : decode cX6_card 55 = .ok (.iaload, 1) := by decide +kernel
theorem dX6_card_56 : decode cX6_card 56 = .ok (.goto 31, 3) := by decide +kernel
theorem dX6_card_59 : decode cX6_card 59 = .ok (.iload_n 2, 1) := by decide +kernel
theorem dX6_card_60 : decode cX6_card 60 = .ok (.iconst 4, 1) := by decide +kernel
theorem dX6_card_61 : decode cX6_card 61 = .ok (.if_icmp .ne 14, 3) := by decide +kernel
theorem dX6_card_64 : decode cX6_card 64 = .ok (.aload_n 0, 1) := by decide +kernel
theorem dX6_card_65 : decode cX6_card 65 = .ok (.getfield 25, 3) := by decide +kernel
theorem dX6_card_68 : decode cX6_card 68 = .ok (.iload_n 1, 1) := by decide +kernel
theorem dX6_card_69 : decode cX6_card 69 = .ok (.invokestatic 139, 3) := by decide +kernel
theorem dX6_card_72 : decode cX6_card 72 = .ok (.goto 15, 3) := by decide +kernel
theorem dX6_card_75 : decode cX6_card 75 = .ok (.aload_n 0, 1) := by decide +kernel
theorem dX6_card_76 : decode cX6_card 76 = .ok (.aload_n 0, 1) := by decide +kernel
theorem dX6_card_77 : decode cX6_card 77 = .ok (.getfield 25, 3) := by decide +kernel
theorem dX6_card_80 : decode cX6_card 80 = .ok (.iload_n 1, 1) := by decide +kernel
theorem dX6_card_81 : decode cX6_card 81 = .ok (.iload_n 2, 1) := by decide +kernel
theorem dX6_card_82 : decode cX6_card 82 = .ok (.iconst 5, 1) := by decide +kernel
theorem dX6_card_83 : decode cX6_card 83 = .ok (.isub, 1) := by decide +kernel
theorem dX6_card_84 : decode cX6_card 84 = .ok (.invokevirtual 126, 3) := by decide +kernel
theorem dX6_card_87 : decode cX6_card 87 = .ok (.invokevirtual 83, 3) := by decide +kernel
theorem dX6_card_90 : decode cX6_card 90 = .ok (.ireturn, 1) := by decide +kernel
theorem dX6_mark_0 : decode cX6_mark 0 = .ok (.aload_n 0, 1) := by decide +kernel
theorem dX6_mark_1 : decode cX6_mark 1 = .ok (.iload_n 1, 1) := by decide +kernel
theorem dX6_mark_2 : decode cX6_mark 2 = .ok (.invokevirtual 134, 3) := by decide +kernel
theorem dX6_mark_5 : decode cX6_mark 5 = .ok (.ifCond .eq 15, 3) := by decide +kernel
theorem dX6_mark_8 : decode cX6_mark 8 = .ok (.iload_n 2, 1) := by decide +kernel
theorem dX6_mark_9 : decode cX6_mark 9 = .ok (.i2l, 1) := by decide +kernel
theorem dX6_mark_10 : decode cX6_mark 10 = .ok (.lconst 1, 1) := by decide +kernel
theorem dX6_mark_11 : decode cX6_mark 11 = .ok (.ldc2_w 67, 3) := by decide +kernel
theorem dX6_mark_14 : decode cX6_mark 14 = .ok (.invokestatic 69, 3) := by decide +kernel
theorem dX6_mark_17 : decode cX6_mark 17 = .ok (.ifCond .ne 5, 3) := by decide +kernel
theorem dX6_mark_20 : decode cX6_mark 20 = .ok (.iconst (-1), 1) := by decide +kernel
theorem dX6_mark_21 : decode cX6_mark 21 = .ok (.ireturn, 1) := by decide +kernel
theorem dX6_mark_22 : decode cX6_mark 22 = .ok (.aload_n 0, 1) := by decide +kernel
theorem dX6_mark_23 : decode cX6_mark 23 = .ok (.getfield 22, 3) := by decide +kernel
theorem dX6_mark_26 : decode cX6_mark 26 = .ok (.iload_n 1, 1) := by decide +kernel
theorem dX6_mark_27 : decode cX6_mark 27 = .ok (.iaload, 1) := by decide +kernel
theorem dX6_mark_28 : decode cX6_mark 28 = .ok (.istore_n 3, 1) := by decide +kernel
theorem dX6_mark_29 : decode cX6_mark 29 = .ok (.iload_n 3, 1) := by decide +kernel
theorem dX6_mark_30 : decode cX6_mark 30 = .ok (.iload_n 2, 1) := by decide +kernel
theorem dX6_mark_31 : decode cX6_mark 31 = .ok (.if_icmp .eq 29, 3) := by decide +kernel
theorem dX6_mark_34 : decode cX6_mark 34 = .ok (.iload_n 2, 1) := by decide +kernel
theorem dX6_mark_35 : decode cX6_mark 35 = .ok (.iconst 2, 1) := by decide +kernel
theorem dX6_mark_36 : decode cX6_mark 36 = .ok (.if_icmp .ne 8, 3) := by decide +kernel
theorem dX6_mark_39 : decode cX6_mark 39 = .ok (.iload_n 3, 1) := by decide +kernel
theorem dX6_mark_40 : decode cX6_mark 40 = .ok (.iconst 4, 1) := by decide +kernel
theorem dX6_mark_41 : decode cX6_mark 41 = .ok (.if_icmp .eq 19, 3) := by decide +kernel
theorem dX6_mark_44 : decode cX6_mark 44 = .ok (.iload_n 2, 1) := by decide +kernel
theorem dX6_mark_45 : decode cX6_mark 45 = .ok (.iconst 3, 1) := by decide +kernel
theorem dX6_mark_46 : decode cX6_mark 46 = .ok (.if_icmp .ne 8, 3) := by decide +kernel
theorem dX6_mark_49 : decode cX6_mark 49 = .ok (.iload_n 3, 1) := by decide +kernel
theorem dX6_mark_50 : decode cX6_mark 50 = .ok (.iconst 5, 1) := by decide +kernel
theorem dX6_mark_51 : decode cX6_mark 51 = .ok (.if_icmp .eq 9, 3) := by decide +kernel
theorem dX6_mark_54 : decode cX6_mark 54 = .ok (.aload_n 0, 1) := by decide +kernel
theorem dX6_mark_55 : decode cX6_mark 55 = .ok (.iconst 3, 1) := by decide +kernel
theorem dX6_mark_56 : decode cX6_mark 56 = .ok (.invokevirtual 79, 3) := by decide +kernel
theorem dX6_mark_59 : decode cX6_mark 59 = .ok (.ireturn, 1) := by decide +kernel
theorem dX6_mark_60 : decode cX6_mark 60 = .ok (.iload_n 2, 1) := by decide +kernel
theorem dX6_mark_61 : decode cX6_mark 61 = .ok (.iconst 2, 1) := by decide +kernel
theorem dX6_mark_62 : decode cX6_mark 62 = .ok (.if_icmp .ne 32, 3) := by decide +kernel
theorem dX6_mark_65 : decode cX6_mark 65 = .ok (.aload_n 0, 1) := by decide +kernel
theorem dX6_mark_66 : decode cX6_mark 66 = .ok (.getfield 25, 3) := by decide +kernel
theorem dX6_mark_69 : decode cX6_mark 69 = .ok (.bipush 24, 2) := by decide +kernel
theorem dX6_mark_71 : decode cX6_mark 71 = .ok (.iaload, 1) := by decide +kernel
theorem dX6_mark_72 : decode cX6_mark 72 = .ok (.iconst 4, 1) := by decide +kernel
theorem dX6_mark_73 : decode cX6_mark 73 = .ok (.idiv, 1) := by decide +kernel
theorem dX6_mark_74 : decode cX6_mark 74 = .ok (.bipush 9, 2) := by decide +kernel
theorem dX6_mark_76 : decode cX6_mark 76 = .ok (.if_icmp .ge 15, 3) := by decide +kernel
theorem dX6_mark_79 : decode cX6_mark 79 = .ok (.aload_n 0, 1) := by decide +kernel
theorem dX6_mark_80 : decode cX6_mark 80 = .ok (.getfield 25, 3) := by decide +kernel
theorem dX6_mark_83 : decode cX6_mark 83 = .ok (.bipush 24, 2) := by decide +kernel
theorem dX6_mark_85 : decode cX6_mark 85 = .ok (.iaload, 1) := by decide +kernel
theorem dX6_mark_86 : decode cX6_mark 86 = .ok (.iconst 4, 1) := by decide +kernel
theorem dX6_mark_87 : decode cX6_mark 87 = .ok (.idiv, 1) := by decide +kernel
theorem dX6_mark_88 : decode cX6_mark 88 = .ok (.goto 5, 3) := by decide +kernel
theorem dX6_mark_91 : decode cX6_mark 91 = .ok (.bipush 9, 2) := by decide +kernel
theorem dX6_mark_93 : decode cX6_mark 93 = .ok (.ireturn, 1) := by decide +kernel
theorem dX6_mark_94 : decode cX6_mark 94 = .ok (.iload_n 2, 1) := by decide +kernel
theorem dX6_mark_95 : decode cX6_mark 95 = .ok (.iconst 5, 1) := by decide +kernel
theorem dX6_mark_96 : decode cX6_mark 96 = .ok (.if_icmp .ne 12, 3) := by decide +kernel
theorem dX6_mark_99 : decode cX6_mark 99 = .ok (.aload_n 0, 1) := by decide +kernel
theorem dX6_mark_100 : decode cX6_mark 100 = .ok (.getfield 25, 3) := by decide +kernel
theorem dX6_mark_103 : decode cX6_mark 103 = .ok (.iload_n 1, 1) := by decide +kernel
theorem dX6_mark_104 : decode cX6_mark 104 = .ok (.invokestatic 139, 3) := by decide +kernel
theorem dX6_mark_107 : decode cX6_mark 107 = .ok (.ireturn, 1) := by decide +kernel
theorem dX6_mark_108 : decode cX6_mark 108 = .ok (.iconst 0, 1) := by decide +kernel
theorem dX6_mark_109 : decode cX6_mark 109 = .ok (.istore 4, 2) := by decide +kernel
theorem dX6_mark_111 : decode cX6_mark 111 = .ok (.iconst 0, 1) := by decide +kernel
theorem dX6_mark_112 : decode cX6_mark 112 = .ok (.istore 5, 2) := by decide +kernel
theorem dX6_mark_114 : decode cX6_mark 114 = .ok (.iload 5, 2) := by decide +kernel
theorem dX6_mark_116 : decode cX6_mark 116 = .ok (.iconst 3, 1) := by decide +kernel
theorem dX6_mark_117 : decode cX6_mark 117 = .ok (.if_icmp .ge 85, 3) := by decide +kernel
theorem dX6_mark_120 : decode cX6_mark 120 = .ok (.aload_n 0, 1) := by decide +kernel
theorem dX6_mark_121 : decode cX6_mark 121 = .ok (.getfield 25, 3) := by decide +kernel
theorem dX6_mark_124 : decode cX6_mark 124 = .ok (.bipush 6, 2) := by decide +kernel
theorem dX6_mark_126 : decode cX6_mark 126 = .ok (.iconst 3, 1) := by decide +kernel
theorem dX6_mark_127 : decode cX6_mark 127 = .ok (.iload_n 1, 1) := by decide +kernel
theorem dX6_mark_128 : decode cX6_mark 128 = .ok (.imul, 1) := by decide +kernel
theorem dX6_mark_129 : decode cX6_mark 129 = .ok (.iadd, 1) := by decide +kernel
theorem dX6_mark_130 : decode cX6_mark 130 = .ok (.iload 5, 2) := by decide +kernel
theorem dX6_mark_132 : decode cX6_mark 132 = .ok (.iadd, 1) := by decide +kernel
theorem dX6_mark_133 : decode cX6_mark 133 = .ok (.iaload, 1) := by decide +kernel
theorem dX6_mark_134 : decode cX6_mark 134 = .ok (.istore 6, 2) := by decide +kernel
theorem dX6_mark_136 : decode cX6_mark 136 = .ok (.aload_n 0, 1) := by decide +kernel
theorem dX6_mark_137 : decode cX6_mark 137 = .ok (.aload_n 0, 1) := by decide +kernel
theorem dX6_mark_138 : decode cX6_mark 138 = .ok (.getfield 25, 3) := by decide +kernel
theorem dX6_mark_141 : decode cX6_mark 141 = .ok (.iload_n 1, 1) := by decide +kernel
theorem dX6_mark_142 : decode cX6_mark 142 = .ok (.iload 5, 2) := by decide +kernel
theorem dX6_mark_144 : decode cX6_mark 144 = .ok (.invokevirtual 126, 3) := by decide +kernel
theorem dX6_mark_147 : decode cX6_mark 147 = .ok (.istore 7, 2) := by decide +kernel
theorem dX6_mark_149 : decode cX6_mark 149 = .ok (.iload 4, 2) := by decide +kernel
theorem dX6_mark_151 : decode cX6_mark 151 = .ok (.iload_n 2, 1) := by decide +kernel
theorem dX6_mark_152 : decode cX6_mark 152 = .ok (.iconst 1, 1) := by decide +kernel
theorem dX6_mark_153 : decode cX6_mark 153 = .ok (.if_icmp .ne 13, 3) := by decide +kernel
theorem dX6_mark_156 : decode cX6_mark 156 = .ok (.iload 7, 2) := by decide +kernel
theorem dX6_mark_158 : decode cX6_mark 158 = .ok (.iload 6, 2) := by decide +kernel
theorem dX6_mark_160 : decode cX6_mark 160 = .ok (.if_icmp .eq 32, 3) := by decide +kernel
theorem dX6_mark_163 : decode cX6_mark 163 = .ok (.goto 25, 3) := by decide +kernel
theorem dX6_mark_166 : decode cX6_mark 166 = .ok (.iload_n 2, 1) := by decide +kernel
theorem dX6_mark_167 : decode cX6_mark 167 = .ok (.iconst 3, 1) := by decide +kernel
theorem dX6_mark_168 : decode cX6_mark 168 = .ok (.if_icmp .ne 13, 3) := by decide +kernel
theorem dX6_mark_171 : decode cX6_mark 171 = .ok (.iload 7, 2) := by decide +kernel
theorem dX6_mark_173 : decode cX6_mark 173 = .ok (.iload 6, 2) := by decide +kernel
theorem dX6_mark_175 : decode cX6_mark 175 = .ok (.if_icmp .le 17, 3) := by decide +kernel
theorem dX6_mark_178 : decode cX6_mark 178 = .ok (.goto 10, 3) := by decide +kernel
theorem dX6_mark_181 : decode cX6_mark 181 = .ok (.iload 7, 2) := by decide +kernel
theorem dX6_mark_183 : decode cX6_mark 183 = .ok (.bipush 10, 2) := by decide +kernel
theorem dX6_mark_185 : decode cX6_mark 185 = .ok (.if_icmp .ne 7, 3) := by decide +kernel
theorem dX6_mark_188 : decode cX6_mark 188 = .ok (.iconst 1, 1) := by decide +kernel
theorem dX6_mark_189 : decode cX6_mark 189 = .ok (.goto 4, 3) := by decide +kernel
theorem dX6_mark_192 : decode cX6_mark 192 = .ok (.iconst 0, 1) := by decide +kernel
theorem dX6_mark_193 : decode cX6_mark 193 = .ok (.iadd, 1) := by decide +kernel
theorem dX6_mark_194 : decode cX6_mark 194 = .ok (.istore 4, 2) := by decide +kernel
theorem dX6_mark_196 : decode cX6_mark 196 = .ok (.iinc 5 1, 3) := by decide +kernel
theorem dX6_mark_199 : decode cX6_mark 199 = .ok (.goto (-85), 3) := by decide +kernel
theorem dX6_mark_202 : decode cX6_mark 202 = .ok (.iload 4, 2) := by decide +kernel
theorem dX6_mark_204 : decode cX6_mark 204 = .ok (.ireturn, 1) := by decide +kernel
theorem dX6_remembers_0 : decode cX6_remembers 0 = .ok (.aload_n 0, 1) := by decide +kernel
theorem dX6_remembers_1 : decode cX6_remembers 1 = .ok (.getfield 25, 3) := by decide +kernel
theorem dX6_remembers_4 : decode cX6_remembers 4 = .ok (.iconst 0, 1) := by decide +kernel
theorem dX6_remembers_5 : decode cX6_remembers 5 = .ok (.aload_n 0, 1) := by decide +kernel
theorem dX6_remembers_6 : decode cX6_remembers 6 = .ok (.getfield 31, 3) := by decide +kernel
theorem dX6_remembers_9 : decode cX6_remembers 9 = .ok (.bipush 25, 2) := by decide +kernel
theorem dX6_remembers_11 : decode cX6_remembers 11 = .ok (.aload_n 0, 1) := by decide +kernel
theorem dX6_remembers_12 : decode cX6_remembers 12 = .ok (.getfield 109, 3) := by decide +kernel
theorem dX6_remembers_15 : decode cX6_remembers 15 = .ok (.imul, 1) := by decide +kernel
theorem dX6_remembers_16 : decode cX6_remembers 16 = .ok (.bipush 25, 2) := by decide +kernel
theorem dX6_remembers_18 : decode cX6_remembers 18 = .ok (.invokestatic 105, 3) := by decide +kernel
theorem dX6_remembers_21 : decode cX6_remembers 21 = .ok (.aload_n 0, 1) := by decide +kernel
theorem dX6_remembers_22 : decode cX6_remembers 22 = .ok (.dup, 1) := by decide +kernel
theorem dX6_remembers_23 : decode cX6_remembers 23 = .ok (.getfield 109, 3) := by decide +kernel
theorem dX6_remembers_26 : decode cX6_remembers 26 = .ok (.iconst 1, 1) := by decide +kernel
theorem dX6_remembers_27 : decode cX6_remembers 27 = .ok (.iadd, 1) := by decide +kernel
theorem dX6_remembers_28 : decode cX6_remembers 28 = .ok (.putfield 109, 3) := by decide +kernel
theorem dX6_remembers_31 : decode cX6_remembers 31 = .ok (.return_, 1) := by decide +kernel
theorem dX6_pass_0 : decode cX6_pass 0 = .ok (.iload_n 1, 1) := by decide +kernel
theorem dX6_pass_1 : decode cX6_pass 1 = .ok (.invokestatic 143, 3) := by decide +kernel
theorem dX6_pass_4 : decode cX6_pass 4 = .ok (.ifCond .ne 5, 3) := by decide +kernel
theorem dX6_pass_7 : decode cX6_pass 7 = .ok (.iconst (-1), 1) := by decide +kernel
theorem dX6_pass_8 : decode cX6_pass 8 = .ok (.ireturn, 1) := by decide +kernel
theorem dX6_pass_9 : decode cX6_pass 9 = .ok (.aload_n 0, 1) := by decide +kernel
theorem dX6_pass_10 : decode cX6_pass 10 = .ok (.getfield 102, 3) := by decide +kernel
theorem dX6_pass_13 : decode cX6_pass 13 = .ok (.ifCond .ne 6, 3) := by decide +kernel
theorem dX6_pass_16 : decode cX6_pass 16 = .ok (.bipush (-4), 2) := by decide +kernel
theorem dX6_pass_18 : decode cX6_pass 18 = .ok (.ireturn, 1) := by decide +kernel
theorem dX6_pass_19 : decode cX6_pass 19 = .ok (.aload_n 0, 1) := by decide +kernel
theorem dX6_pass_20 : decode cX6_pass 20 = .ok (.getfield 109, 3) := by decide +kernel
theorem dX6_pass_23 : decode cX6_pass 23 = .ok (.bipush 40, 2) := by decide +kernel
theorem dX6_pass_25 : decode cX6_pass 25 = .ok (.if_icmp .ne 6, 3) := by decide +kernel
theorem dX6_pass_28 : decode cX6_pass 28 = .ok (.bipush (-2), 2) := by decide +kernel
theorem dX6_pass_30 : decode cX6_pass 30 = .ok (.ireturn, 1) := by decide +kernel
theorem dX6_pass_31 : decode cX6_pass 31 = .ok (.aload_n 0, 1) := by decide +kernel
theorem dX6_pass_32 : decode cX6_pass 32 = .ok (.invokevirtual 146, 3) := by decide +kernel
theorem dX6_pass_35 : decode cX6_pass 35 = .ok (.aload_n 0, 1) := by decide +kernel
theorem dX6_pass_36 : decode cX6_pass 36 = .ok (.aload_n 0, 1) := by decide +kernel
theorem dX6_pass_37 : decode cX6_pass 37 = .ok (.getfield 25, 3) := by decide +kernel
theorem dX6_pass_40 : decode cX6_pass 40 = .ok (.iload_n 1, 1) := by decide +kernel
theorem dX6_pass_41 : decode cX6_pass 41 = .ok (.invokevirtual 149, 3) := by decide +kernel
theorem dX6_pass_44 : decode cX6_pass 44 = .ok (.aload_n 0, 1) := by decide +kernel
theorem dX6_pass_45 : decode cX6_pass 45 = .ok (.getfield 25, 3) := by decide +kernel
theorem dX6_pass_48 : decode cX6_pass 48 = .ok (.iconst 0, 1) := by decide +kernel
theorem dX6_pass_49 : decode cX6_pass 49 = .ok (.iaload, 1) := by decide +kernel
theorem dX6_pass_50 : decode cX6_pass 50 = .ok (.ireturn, 1) := by decide +kernel
theorem dX6_turns_0 : decode cX6_turns 0 = .ok (.aload_n 0, 1) := by decide +kernel
theorem dX6_turns_1 : decode cX6_turns 1 = .ok (.getfield 25, 3) := by decide +kernel
theorem dX6_turns_4 : decode cX6_turns 4 = .ok (.iconst 0, 1) := by decide +kernel
theorem dX6_turns_5 : decode cX6_turns 5 = .ok (.aload_n 0, 1) := by decide +kernel
theorem dX6_turns_6 : decode cX6_turns 6 = .ok (.getfield 54, 3) := by decide +kernel
theorem dX6_turns_9 : decode cX6_turns 9 = .ok (.iconst 0, 1) := by decide +kernel
theorem dX6_turns_10 : decode cX6_turns 10 = .ok (.aload_n 0, 1) := by decide +kernel
theorem dX6_turns_11 : decode cX6_turns 11 = .ok (.getfield 102, 3) := by decide +kernel
theorem dX6_turns_14 : decode cX6_turns 14 = .ok (.invokestatic 105, 3) := by decide +kernel
theorem dX6_turns_17 : decode cX6_turns 17 = .ok (.iconst 0, 1) := by decide +kernel
theorem dX6_turns_18 : decode cX6_turns 18 = .ok (.istore_n 1, 1) := by decide +kernel
theorem dX6_turns_19 : decode cX6_turns 19 = .ok (.iload_n 1, 1) := by decide +kernel
theorem dX6_turns_20 : decode cX6_turns 20 = .ok (.aload_n 0, 1) := by decide +kernel
theorem dX6_turns_21 : decode cX6_turns 21 = .ok (.getfield 102, 3) := by decide +kernel
theorem dX6_turns_24 : decode cX6_turns 24 = .ok (.if_icmp .ge 28, 3) := by decide +kernel
theorem dX6_turns_27 : decode cX6_turns 27 = .ok (.aload_n 0, 1) := by decide +kernel
theorem dX6_turns_28 : decode cX6_turns 28 = .ok (.getfield 25, 3) := by decide +kernel
theorem dX6_turns_31 : decode cX6_turns 31 = .ok (.iload_n 1, 1) := by decide +kernel
theorem dX6_turns_32 : decode cX6_turns 32 = .ok (.aload_n 0, 1) := by decide +kernel
theorem dX6_turns_33 : decode cX6_turns 33 = .ok (.getfield 54, 3) := by decide +kernel
theorem dX6_turns_36 : decode cX6_turns 36 = .ok (.aload_n 0, 1) := by decide +kernel
theorem dX6_turns_37 : decode cX6_turns 37 = .ok (.getfield 102, 3) := by decide +kernel
theorem dX6_turns_40 : decode cX6_turns 40 = .ok (.iconst 1, 1) := by decide +kernel
theorem dX6_turns_41 : decode cX6_turns 41 = .ok (.isub, 1) := by decide +kernel
theorem dX6_turns_42 : decode cX6_turns 42 = .ok (.iload_n 1, 1) := by decide +kernel
theorem dX6_turns_43 : decode cX6_turns 43 = .ok (.isub, 1) := by decide +kernel
theorem dX6_turns_44 : decode cX6_turns 44 = .ok (.iaload, 1) := by decide +kernel
theorem dX6_turns_45 : decode cX6_turns 45 = .ok (.iastore, 1) := by decide +kernel
theorem dX6_turns_46 : decode cX6_turns 46 = .ok (.iinc 1 1, 3) := by decide +kernel
theorem dX6_turns_49 : decode cX6_turns 49 = .ok (.goto (-30), 3) := by decide +kernel
theorem dX6_turns_52 : decode cX6_turns 52 = .ok (.return_, 1) := by decide +kernel
theorem dX6_turn_0 : decode cX6_turn 0 = .ok (.aload_n 0, 1) := by decide +kernel
theorem dX6_turn_1 : decode cX6_turn 1 = .ok (.getfield 102, 3) := by decide +kernel
theorem dX6_turn_4 : decode cX6_turn 4 = .ok (.ifCond .ne 6, 3) := by decide +kernel
theorem dX6_turn_7 : decode cX6_turn 7 = .ok (.bipush (-4), 2) := by decide +kernel
theorem dX6_turn_9 : decode cX6_turn 9 = .ok (.ireturn, 1) := by decide +kernel
theorem dX6_turn_10 : decode cX6_turn 10 = .ok (.aload_n 0, 1) := by decide +kernel
theorem dX6_turn_11 : decode cX6_turn 11 = .ok (.getfield 109, 3) := by decide +kernel
theorem dX6_turn_14 : decode cX6_turn 14 = .ok (.bipush 40, 2) := by decide +kernel
theorem dX6_turn_16 : decode cX6_turn 16 = .ok (.if_icmp .ne 6, 3) := by decide +kernel
theorem dX6_turn_19 : decode cX6_turn 19 = .ok (.bipush (-2), 2) := by decide +kernel
theorem dX6_turn_21 : decode cX6_turn 21 = .ok (.ireturn, 1) := by decide +kernel
theorem dX6_turn_22 : decode cX6_turn 22 = .ok (.aload_n 0, 1) := by decide +kernel
theorem dX6_turn_23 : decode cX6_turn 23 = .ok (.invokevirtual 146, 3) := by decide +kernel
theorem dX6_turn_26 : decode cX6_turn 26 = .ok (.aload_n 0, 1) := by decide +kernel
theorem dX6_turn_27 : decode cX6_turn 27 = .ok (.invokevirtual 153, 3) := by decide +kernel
theorem dX6_turn_30 : decode cX6_turn 30 = .ok (.aload_n 0, 1) := by decide +kernel
theorem dX6_turn_31 : decode cX6_turn 31 = .ok (.getfield 25, 3) := by decide +kernel
theorem dX6_turn_34 : decode cX6_turn 34 = .ok (.iconst 0, 1) := by decide +kernel
theorem dX6_turn_35 : decode cX6_turn 35 = .ok (.iaload, 1) := by decide +kernel
theorem dX6_turn_36 : decode cX6_turn 36 = .ok (.ireturn, 1) := by decide +kernel
theorem dX6_lifts_0 : decode cX6_lifts 0 = .ok (.aload_n 0, 1) := by decide +kernel
theorem dX6_lifts_1 : decode cX6_lifts 1 = .ok (.getfield 25, 3) := by decide +kernel
theorem dX6_lifts_4 : decode cX6_lifts 4 = .ok (.iconst 0, 1) := by decide +kernel
theorem dX6_lifts_5 : decode cX6_lifts 5 = .ok (.aload_n 0, 1) := by decide +kernel
theorem dX6_lifts_6 : decode cX6_lifts 6 = .ok (.getfield 54, 3) := by decide +kernel
theorem dX6_lifts_9 : decode cX6_lifts 9 = .ok (.iconst 0, 1) := by decide +kernel
theorem dX6_lifts_10 : decode cX6_lifts 10 = .ok (.aload_n 0, 1) := by decide +kernel
theorem dX6_lifts_11 : decode cX6_lifts 11 = .ok (.getfield 102, 3) := by decide +kernel
theorem dX6_lifts_14 : decode cX6_lifts 14 = .ok (.invokestatic 105, 3) := by decide +kernel
theorem dX6_lifts_17 : decode cX6_lifts 17 = .ok (.iconst 0, 1) := by decide +kernel
theorem dX6_lifts_18 : decode cX6_lifts 18 = .ok (.istore_n 2, 1) := by decide +kernel
theorem dX6_lifts_19 : decode cX6_lifts 19 = .ok (.iload_n 2, 1) := by decide +kernel
theorem dX6_lifts_20 : decode cX6_lifts 20 = .ok (.aload_n 0, 1) := by decide +kernel
theorem dX6_lifts_21 : decode cX6_lifts 21 = .ok (.getfield 102, 3) := by decide +kernel
theorem dX6_lifts_24 : decode cX6_lifts 24 = .ok (.if_icmp .ge 28, 3) := by decide +kernel
theorem dX6_lifts_27 : decode cX6_lifts 27 = .ok (.aload_n 0, 1) := by decide +kernel
theorem dX6_lifts_28 : decode cX6_lifts 28 = .ok (.getfield 25, 3) := by decide +kernel
theorem dX6_lifts_31 : decode cX6_lifts 31 = .ok (.iload_n 2, 1) := by decide +kernel
theorem dX6_lifts_32 : decode cX6_lifts 32 = .ok (.aload_n 0, 1) := by decide +kernel
theorem dX6_lifts_33 : decode cX6_lifts 33 = .ok (.getfield 54, 3) := by decide +kernel
theorem dX6_lifts_36 : decode cX6_lifts 36 = .ok (.iload_n 2, 1) := by decide +kernel
theorem dX6_lifts_37 : decode cX6_lifts 37 = .ok (.iload_n 1, 1) := by decide +kernel
theorem dX6_lifts_38 : decode cX6_lifts 38 = .ok (.iadd, 1) := by decide +kernel
theorem dX6_lifts_39 : decode cX6_lifts 39 = .ok (.aload_n 0, 1) := by decide +kernel
theorem dX6_lifts_40 : decode cX6_lifts 40 = .ok (.getfield 102, 3) := by decide +kernel
theorem dX6_lifts_43 : decode cX6_lifts 43 = .ok (.irem, 1) := by decide +kernel
theorem dX6_lifts_44 : decode cX6_lifts 44 = .ok (.iaload, 1) := by decide +kernel
theorem dX6_lifts_45 : decode cX6_lifts 45 = .ok (.iastore, 1) := by decide +kernel
theorem dX6_lifts_46 : decode cX6_lifts 46 = .ok (.iinc 2 1, 3) := by decide +kernel
theorem dX6_lifts_49 : decode cX6_lifts 49 = .ok (.goto (-30), 3) := by decide +kernel
theorem dX6_lifts_52 : decode cX6_lifts 52 = .ok (.return_, 1) := by decide +kernel
theorem dX6_lift_0 : decode cX6_lift 0 = .ok (.aload_n 0, 1) := by decide +kernel
theorem dX6_lift_1 : decode cX6_lift 1 = .ok (.getfield 102, 3) := by decide +kernel
theorem dX6_lift_4 : decode cX6_lift 4 = .ok (.ifCond .ne 6, 3) := by decide +kernel
theorem dX6_lift_7 : decode cX6_lift 7 = .ok (.bipush (-4), 2) := by decide +kernel
theorem dX6_lift_9 : decode cX6_lift 9 = .ok (.ireturn, 1) := by decide +kernel
theorem dX6_lift_10 : decode cX6_lift 10 = .ok (.iload_n 1, 1) := by decide +kernel
theorem dX6_lift_11 : decode cX6_lift 11 = .ok (.i2l, 1) := by decide +kernel
theorem dX6_lift_12 : decode cX6_lift 12 = .ok (.lconst 1, 1) := by decide +kernel
theorem dX6_lift_13 : decode cX6_lift 13 = .ok (.aload_n 0, 1) := by decide +kernel
theorem dX6_lift_14 : decode cX6_lift 14 = .ok (.getfield 102, 3) := by decide +kernel
theorem dX6_lift_17 : decode cX6_lift 17 = .ok (.iconst 1, 1) := by decide +kernel
theorem dX6_lift_18 : decode cX6_lift 18 = .ok (.isub, 1) := by decide +kernel
theorem dX6_lift_19 : decode cX6_lift 19 = .ok (.i2l, 1) := by decide +kernel
theorem dX6_lift_20 : decode cX6_lift 20 = .ok (.invokestatic 69, 3) := by decide +kernel
theorem dX6_lift_23 : decode cX6_lift 23 = .ok (.ifCond .ne 5, 3) := by decide +kernel
theorem dX6_lift_26 : decode cX6_lift 26 = .ok (.iconst (-1), 1) := by decide +kernel
theorem dX6_lift_27 : decode cX6_lift 27 = .ok (.ireturn, 1) := by decide +kernel
theorem dX6_lift_28 : decode cX6_lift 28 = .ok (.aload_n 0, 1) := by decide +kernel
theorem dX6_lift_29 : decode cX6_lift 29 = .ok (.getfield 109, 3) := by decide +kernel
theorem dX6_lift_32 : decode cX6_lift 32 = .ok (.bipush 40, 2) := by decide +kernel
theorem dX6_lift_34 : decode cX6_lift 34 = .ok (.if_icmp .ne 6, 3) := by decide +kernel
theorem dX6_lift_37 : decode cX6_lift 37 = .ok (.bipush (-2), 2) := by decide +kernel
theorem dX6_lift_39 : decode cX6_lift 39 = .ok (.ireturn, 1) := by decide +kernel
theorem dX6_lift_40 : decode cX6_lift 40 = .ok (.aload_n 0, 1) := by decide +kernel
theorem dX6_lift_41 : decode cX6_lift 41 = .ok (.invokevirtual 146, 3) := by decide +kernel
theorem dX6_lift_44 : decode cX6_lift 44 = .ok (.aload_n 0, 1) := by decide +kernel
theorem dX6_lift_45 : decode cX6_lift 45 = .ok (.iload_n 1, 1) := by decide +kernel
theorem dX6_lift_46 : decode cX6_lift 46 = .ok (.invokevirtual 156, 3) := by decide +kernel
theorem dX6_lift_49 : decode cX6_lift 49 = .ok (.aload_n 0, 1) := by decide +kernel
theorem dX6_lift_50 : decode cX6_lift 50 = .ok (.getfield 25, 3) := by decide +kernel
theorem dX6_lift_53 : decode cX6_lift 53 = .ok (.iconst 0, 1) := by decide +kernel
theorem dX6_lift_54 : decode cX6_lift 54 = .ok (.iaload, 1) := by decide +kernel
theorem dX6_lift_55 : decode cX6_lift 55 = .ok (.ireturn, 1) := by decide +kernel
theorem dX6_punch_0 : decode cX6_punch 0 = .ok (.aload_n 0, 1) := by decide +kernel
theorem dX6_punch_1 : decode cX6_punch 1 = .ok (.iload_n 1, 1) := by decide +kernel
theorem dX6_punch_2 : decode cX6_punch 2 = .ok (.invokevirtual 134, 3) := by decide +kernel
theorem dX6_punch_5 : decode cX6_punch 5 = .ok (.ifCond .eq 22, 3) := by decide +kernel
theorem dX6_punch_8 : decode cX6_punch 8 = .ok (.iload_n 2, 1) := by decide +kernel
theorem dX6_punch_9 : decode cX6_punch 9 = .ok (.invokestatic 143, 3) := by decide +kernel
theorem dX6_punch_12 : decode cX6_punch 12 = .ok (.ifCond .eq 15, 3) := by decide +kernel
theorem dX6_punch_15 : decode cX6_punch 15 = .ok (.iload_n 3, 1) := by decide +kernel
theorem dX6_punch_16 : decode cX6_punch 16 = .ok (.i2l, 1) := by decide +kernel
theorem dX6_punch_17 : decode cX6_punch 17 = .ok (.lconst 0, 1) := by decide +kernel
theorem dX6_punch_18 : decode cX6_punch 18 = .ok (.ldc2_w 160, 3) := by decide +kernel
theorem dX6_punch_21 : decode cX6_punch 21 = .ok (.invokestatic 69, 3) := by decide +kernel
theorem dX6_punch_24 : decode cX6_punch 24 = .ok (.ifCond .ne 5, 3) := by decide +kernel
theorem dX6_punch_27 : decode cX6_punch 27 = .ok (.iconst (-1), 1) := by decide +kernel
theorem dX6_punch_28 : decode cX6_punch 28 = .ok (.ireturn, 1) := by decide +kernel
theorem dX6_punch_29 : decode cX6_punch 29 = .ok (.bipush 6, 2) := by decide +kernel
theorem dX6_punch_31 : decode cX6_punch 31 = .ok (.iconst 3, 1) := by decide +kernel
theorem dX6_punch_32 : decode cX6_punch 32 = .ok (.iload_n 1, 1) := by decide +kernel
theorem dX6_punch_33 : decode cX6_punch 33 = .ok (.imul, 1) := by decide +kernel
theorem dX6_punch_34 : decode cX6_punch 34 = .ok (.iadd, 1) := by decide +kernel
theorem dX6_punch_35 : decode cX6_punch 35 = .ok (.iload_n 2, 1) := by decide +kernel
theorem dX6_punch_36 : decode cX6_punch 36 = .ok (.iadd, 1) := by decide +kernel
theorem dX6_punch_37 : decode cX6_punch 37 = .ok (.istore 4, 2) := by decide +kernel
theorem dX6_punch_39 : decode cX6_punch 39 = .ok (.aload_n 0, 1) := by decide +kernel
theorem dX6_punch_40 : decode cX6_punch 40 = .ok (.getfield 25, 3) := by decide +kernel
theorem dX6_punch_43 : decode cX6_punch 43 = .ok (.iload 4, 2) := by decide +kernel
theorem dX6_punch_45 : decode cX6_punch 45 = .ok (.iaload, 1) := by decide +kernel
theorem dX6_punch_46 : decode cX6_punch 46 = .ok (.istore 5, 2) := by decide +kernel
theorem dX6_punch_48 : decode cX6_punch 48 = .ok (.iload 5, 2) := by decide +kernel
theorem dX6_punch_50 : decode cX6_punch 50 = .ok (.iload_n 3, 1) := by decide +kernel
theorem dX6_punch_51 : decode cX6_punch 51 = .ok (.if_icmp .ne 6, 3) := by decide +kernel
theorem dX6_punch_54 : decode cX6_punch 54 = .ok (.bipush (-4), 2) := by decide +kernel
theorem dX6_punch_56 : decode cX6_punch 56 = .ok (.ireturn, 1) := by decide +kernel
theorem dX6_punch_57 : decode cX6_punch 57 = .ok (.aload_n 0, 1) := by decide +kernel
theorem dX6_punch_58 : decode cX6_punch 58 = .ok (.getfield 109, 3) := by decide +kernel
theorem dX6_punch_61 : decode cX6_punch 61 = .ok (.bipush 40, 2) := by decide +kernel
theorem dX6_punch_63 : decode cX6_punch 63 = .ok (.if_icmp .ne 6, 3) := by decide +kernel
theorem dX6_punch_66 : decode cX6_punch 66 = .ok (.bipush (-2), 2) := by decide +kernel
theorem dX6_punch_68 : decode cX6_punch 68 = .ok (.ireturn, 1) := by decide +kernel
theorem dX6_punch_69 : decode cX6_punch 69 = .ok (.aload_n 0, 1) := by decide +kernel
theorem dX6_punch_70 : decode cX6_punch 70 = .ok (.invokevirtual 146, 3) := by decide +kernel
theorem dX6_punch_73 : decode cX6_punch 73 = .ok (.aload_n 0, 1) := by decide +kernel
theorem dX6_punch_74 : decode cX6_punch 74 = .ok (.getfield 25, 3) := by decide +kernel
theorem dX6_punch_77 : decode cX6_punch 77 = .ok (.iload 4, 2) := by decide +kernel
theorem dX6_punch_79 : decode cX6_punch 79 = .ok (.iload_n 3, 1) := by decide +kernel
theorem dX6_punch_80 : decode cX6_punch 80 = .ok (.iastore, 1) := by decide +kernel
theorem dX6_punch_81 : decode cX6_punch 81 = .ok (.iload 5, 2) := by decide +kernel
theorem dX6_punch_83 : decode cX6_punch 83 = .ok (.ireturn, 1) := by decide +kernel
theorem dX6_undo_0 : decode cX6_undo 0 = .ok (.iload_n 1, 1) := by decide +kernel
theorem dX6_undo_1 : decode cX6_undo 1 = .ok (.i2l, 1) := by decide +kernel
theorem dX6_undo_2 : decode cX6_undo 2 = .ok (.lconst 0, 1) := by decide +kernel
theorem dX6_undo_3 : decode cX6_undo 3 = .ok (.aload_n 0, 1) := by decide +kernel
theorem dX6_undo_4 : decode cX6_undo 4 = .ok (.getfield 109, 3) := by decide +kernel
theorem dX6_undo_7 : decode cX6_undo 7 = .ok (.i2l, 1) := by decide +kernel
theorem dX6_undo_8 : decode cX6_undo 8 = .ok (.invokestatic 69, 3) := by decide +kernel
theorem dX6_undo_11 : decode cX6_undo 11 = .ok (.ifCond .ne 5, 3) := by decide +kernel
theorem dX6_undo_14 : decode cX6_undo 14 = .ok (.iconst (-1), 1) := by decide +kernel
theorem dX6_undo_15 : decode cX6_undo 15 = .ok (.ireturn, 1) := by decide +kernel
theorem dX6_undo_16 : decode cX6_undo 16 = .ok (.aload_n 0, 1) := by decide +kernel
theorem dX6_undo_17 : decode cX6_undo 17 = .ok (.getfield 109, 3) := by decide +kernel
theorem dX6_undo_20 : decode cX6_undo 20 = .ok (.iload_n 1, 1) := by decide +kernel
theorem dX6_undo_21 : decode cX6_undo 21 = .ok (.isub, 1) := by decide +kernel
theorem dX6_undo_22 : decode cX6_undo 22 = .ok (.istore_n 2, 1) := by decide +kernel
theorem dX6_undo_23 : decode cX6_undo 23 = .ok (.iload_n 2, 1) := by decide +kernel
theorem dX6_undo_24 : decode cX6_undo 24 = .ok (.ifCond .le 21, 3) := by decide +kernel
theorem dX6_undo_27 : decode cX6_undo 27 = .ok (.aload_n 0, 1) := by decide +kernel
theorem dX6_undo_28 : decode cX6_undo 28 = .ok (.getfield 31, 3) := by decide +kernel
theorem dX6_undo_31 : decode cX6_undo 31 = .ok (.bipush 25, 2) := by decide +kernel
theorem dX6_undo_33 : decode cX6_undo 33 = .ok (.iload_n 1, 1) := by decide +kernel
theorem dX6_undo_34 : decode cX6_undo 34 = .ok (.imul, 1) := by decide +kernel
theorem dX6_undo_35 : decode cX6_undo 35 = .ok (.aload_n 0, 1) := by decide +kernel
theorem dX6_undo_36 : decode cX6_undo 36 = .ok (.getfield 25, 3) := by decide +kernel
theorem dX6_undo_39 : decode cX6_undo 39 = .ok (.iconst 0, 1) := by decide +kernel
theorem dX6_undo_40 : decode cX6_undo 40 = .ok (.bipush 25, 2) := by decide +kernel
theorem dX6_undo_42 : decode cX6_undo 42 = .ok (.invokestatic 105, 3) := by decide +kernel
theorem dX6_undo_45 : decode cX6_undo 45 = .ok (.aload_n 0, 1) := by decide +kernel
theorem dX6_undo_46 : decode cX6_undo 46 = .ok (.iload_n 1, 1) := by decide +kernel
theorem dX6_undo_47 : decode cX6_undo 47 = .ok (.putfield 109, 3) := by decide +kernel
theorem dX6_undo_50 : decode cX6_undo 50 = .ok (.iload_n 2, 1) := by decide +kernel
theorem dX6_undo_51 : decode cX6_undo 51 = .ok (.ireturn, 1) := by decide +kernel
theorem dX6_isPlace_0 : decode cX6_isPlace 0 = .ok (.iload_n 0, 1) := by decide +kernel
theorem dX6_isPlace_1 : decode cX6_isPlace 1 = .ok (.i2l, 1) := by decide +kernel
theorem dX6_isPlace_2 : decode cX6_isPlace 2 = .ok (.lconst 0, 1) := by decide +kernel
theorem dX6_isPlace_3 : decode cX6_isPlace 3 = .ok (.ldc2_w 112, 3) := by decide +kernel
theorem dX6_isPlace_6 : decode cX6_isPlace 6 = .ok (.invokestatic 69, 3) := by decide +kernel
theorem dX6_isPlace_9 : decode cX6_isPlace 9 = .ok (.ireturn, 1) := by decide +kernel
theorem dX6_keep_0 : decode cX6_keep 0 = .ok (.iload_n 1, 1) := by decide +kernel
theorem dX6_keep_1 : decode cX6_keep 1 = .ok (.invokestatic 162, 3) := by decide +kernel
theorem dX6_keep_4 : decode cX6_keep 4 = .ok (.ifCond .ne 5, 3) := by decide +kernel
theorem dX6_keep_7 : decode cX6_keep 7 = .ok (.iconst (-1), 1) := by decide +kernel
theorem dX6_keep_8 : decode cX6_keep 8 = .ok (.ireturn, 1) := by decide +kernel
theorem dX6_keep_9 : decode cX6_keep 9 = .ok (.aload_n 0, 1) := by decide +kernel
theorem dX6_keep_10 : decode cX6_keep 10 = .ok (.getfield 102, 3) := by decide +kernel
theorem dX6_keep_13 : decode cX6_keep 13 = .ok (.ifCond .ne 6, 3) := by decide +kernel
theorem dX6_keep_16 : decode cX6_keep 16 = .ok (.bipush (-4), 2) := by decide +kernel
theorem dX6_keep_18 : decode cX6_keep 18 = .ok (.ireturn, 1) := by decide +kernel
theorem dX6_keep_19 : decode cX6_keep 19 = .ok (.aload_n 0, 1) := by decide +kernel
theorem dX6_keep_20 : decode cX6_keep 20 = .ok (.getfield 25, 3) := by decide +kernel
theorem dX6_keep_23 : decode cX6_keep 23 = .ok (.iconst 0, 1) := by decide +kernel
theorem dX6_keep_24 : decode cX6_keep 24 = .ok (.aload_n 0, 1) := by decide +kernel
theorem dX6_keep_25 : decode cX6_keep 25 = .ok (.getfield 34, 3) := by decide +kernel
theorem dX6_keep_28 : decode cX6_keep 28 = .ok (.sipush 1026, 3) := by decide +kernel
theorem dX6_keep_31 : decode cX6_keep 31 = .ok (.iload_n 1, 1) := by decide +kernel
theorem dX6_keep_32 : decode cX6_keep 32 = .ok (.imul, 1) := by decide +kernel
theorem dX6_keep_33 : decode cX6_keep 33 = .ok (.bipush 25, 2) := by decide +kernel
theorem dX6_keep_35 : decode cX6_keep 35 = .ok (.invokestatic 105, 3) := by decide +kernel
theorem dX6_keep_38 : decode cX6_keep 38 = .ok (.aload_n 0, 1) := by decide +kernel
theorem dX6_keep_39 : decode cX6_keep 39 = .ok (.getfield 34, 3) := by decide +kernel
theorem dX6_keep_42 : decode cX6_keep 42 = .ok (.sipush 1026, 3) := by decide +kernel
theorem dX6_keep_45 : decode cX6_keep 45 = .ok (.iload_n 1, 1) := by decide +kernel
theorem dX6_keep_46 : decode cX6_keep 46 = .ok (.imul, 1) := by decide +kernel
theorem dX6_keep_47 : decode cX6_keep 47 = .ok (.bipush 25, 2) := by decide +kernel
theorem dX6_keep_49 : decode cX6_keep 49 = .ok (.iadd, 1) := by decide +kernel
theorem dX6_keep_50 : decode cX6_keep 50 = .ok (.aload_n 0, 1) := by decide +kernel
theorem dX6_keep_51 : decode cX6_keep 51 = .ok (.getfield 109, 3) := by decide +kernel
theorem dX6_keep_54 : decode cX6_keep 54 = .ok (.iastore, 1) := by decide +kernel
theorem dX6_keep_55 : decode cX6_keep 55 = .ok (.aload_n 0, 1) := by decide +kernel
theorem dX6_keep_56 : decode cX6_keep 56 = .ok (.getfield 31, 3) := by decide +kernel
theorem dX6_keep_59 : decode cX6_keep 59 = .ok (.iconst 0, 1) := by decide +kernel
theorem dX6_keep_60 : decode cX6_keep 60 = .ok (.aload_n 0, 1) := by decide +kernel
theorem dX6_keep_61 : decode cX6_keep 61 = .ok (.getfield 34, 3) := by decide +kernel
theorem dX6_keep_64 : decode cX6_keep 64 = .ok (.sipush 1026, 3) := by decide +kernel
theorem dX6_keep_67 : decode cX6_keep 67 = .ok (.iload_n 1, 1) := by decide +kernel
theorem dX6_keep_68 : decode cX6_keep 68 = .ok (.imul, 1) := by decide +kernel
theorem dX6_keep_69 : decode cX6_keep 69 = .ok (.bipush 25, 2) := by decide +kernel
theorem dX6_keep_71 : decode cX6_keep 71 = .ok (.iadd, 1) := by decide +kernel
theorem dX6_keep_72 : decode cX6_keep 72 = .ok (.iconst 1, 1) := by decide +kernel
theorem dX6_keep_73 : decode cX6_keep 73 = .ok (.iadd, 1) := by decide +kernel
theorem dX6_keep_74 : decode cX6_keep 74 = .ok (.sipush 1000, 3) := by decide +kernel
theorem dX6_keep_77 : decode cX6_keep 77 = .ok (.invokestatic 105, 3) := by decide +kernel
theorem dX6_keep_80 : decode cX6_keep 80 = .ok (.aload_n 0, 1) := by decide +kernel
theorem dX6_keep_81 : decode cX6_keep 81 = .ok (.getfield 37, 3) := by decide +kernel
theorem dX6_keep_84 : decode cX6_keep 84 = .ok (.iload_n 1, 1) := by decide +kernel
theorem dX6_keep_85 : decode cX6_keep 85 = .ok (.iconst 1, 1) := by decide +kernel
theorem dX6_keep_86 : decode cX6_keep 86 = .ok (.bastore, 1) := by decide +kernel
theorem dX6_keep_87 : decode cX6_keep 87 = .ok (.aload_n 0, 1) := by decide +kernel
theorem dX6_keep_88 : decode cX6_keep 88 = .ok (.getfield 109, 3) := by decide +kernel
theorem dX6_keep_91 : decode cX6_keep 91 = .ok (.ireturn, 1) := by decide +kernel
theorem dX6_on_0 : decode cX6_on 0 = .ok (.iload_n 1, 1) := by decide +kernel
theorem dX6_on_1 : decode cX6_on 1 = .ok (.invokestatic 162, 3) := by decide +kernel
theorem dX6_on_4 : decode cX6_on 4 = .ok (.ifCond .ne 5, 3) := by decide +kernel
theorem dX6_on_7 : decode cX6_on 7 = .ok (.iconst (-1), 1) := by decide +kernel
theorem dX6_on_8 : decode cX6_on 8 = .ok (.ireturn, 1) := by decide +kernel
theorem dX6_on_9 : decode cX6_on 9 = .ok (.aload_n 0, 1) := by decide +kernel
theorem dX6_on_10 : decode cX6_on 10 = .ok (.getfield 37, 3) := by decide +kernel
theorem dX6_on_13 : decode cX6_on 13 = .ok (.iload_n 1, 1) := by decide +kernel
theorem dX6_on_14 : decode cX6_on 14 = .ok (.baload, 1) := by decide +kernel
theorem dX6_on_15 : decode cX6_on 15 = .ok (.ifCond .ne 9, 3) := by decide +kernel
theorem dX6_on_18 : decode cX6_on 18 = .ok (.aload_n 0, 1) := by decide +kernel
theorem dX6_on_19 : decode cX6_on 19 = .ok (.iconst 1, 1) := by decide +kernel
theorem dX6_on_20 : decode cX6_on 20 = .ok (.invokevirtual 79, 3) := by decide +kernel
theorem dX6_on_23 : decode cX6_on 23 = .ok (.ireturn, 1) := by decide +kernel
theorem dX6_on_24 : decode cX6_on 24 = .ok (.aload_n 0, 1) := by decide +kernel
theorem dX6_on_25 : decode cX6_on 25 = .ok (.getfield 34, 3) := by decide +kernel
theorem dX6_on_28 : decode cX6_on 28 = .ok (.sipush 1026, 3) := by decide +kernel
theorem dX6_on_31 : decode cX6_on 31 = .ok (.iload_n 1, 1) := by decide +kernel
theorem dX6_on_32 : decode cX6_on 32 = .ok (.imul, 1) := by decide +kernel
theorem dX6_on_33 : decode cX6_on 33 = .ok (.aload_n 0, 1) := by decide +kernel
theorem dX6_on_34 : decode cX6_on 34 = .ok (.getfield 25, 3) := by decide +kernel
theorem dX6_on_37 : decode cX6_on 37 = .ok (.iconst 0, 1) := by decide +kernel
theorem dX6_on_38 : decode cX6_on 38 = .ok (.bipush 25, 2) := by decide +kernel
theorem dX6_on_40 : decode cX6_on 40 = .ok (.invokestatic 105, 3) := by decide +kernel
theorem dX6_on_43 : decode cX6_on 43 = .ok (.aload_n 0, 1) := by decide +kernel
theorem dX6_on_44 : decode cX6_on 44 = .ok (.aload_n 0, 1) := by decide +kernel
theorem dX6_on_45 : decode cX6_on 45 = .ok (.getfield 34, 3) := by decide +kernel
theorem dX6_on_48 : decode cX6_on 48 = .ok (.sipush 1026, 3) := by decide +kernel
theorem dX6_on_51 : decode cX6_on 51 = .ok (.iload_n 1, 1) := by decide +kernel
theorem dX6_on_52 : decode cX6_on 52 = .ok (.imul, 1) := by decide +kernel
theorem dX6_on_53 : decode cX6_on 53 = .ok (.bipush 25, 2) := by decide +kernel
theorem dX6_on_55 : decode cX6_on 55 = .ok (.iadd, 1) := by decide +kernel
theorem dX6_on_56 : decode cX6_on 56 = .ok (.iaload, 1) := by decide +kernel
theorem dX6_on_57 : decode cX6_on 57 = .ok (.putfield 109, 3) := by decide +kernel
theorem dX6_on_60 : decode cX6_on 60 = .ok (.aload_n 0, 1) := by decide +kernel
theorem dX6_on_61 : decode cX6_on 61 = .ok (.getfield 34, 3) := by decide +kernel
theorem dX6_on_64 : decode cX6_on 64 = .ok (.sipush 1026, 3) := by decide +kernel
theorem dX6_on_67 : decode cX6_on 67 = .ok (.iload_n 1, 1) := by decide +kernel
theorem dX6_on_68 : decode cX6_on 68 = .ok (.imul, 1) := by decide +kernel
theorem dX6_on_69 : decode cX6_on 69 = .ok (.bipush 25, 2) := by decide +kernel
theorem dX6_on_71 : decode cX6_on 71 = .ok (.iadd, 1) := by decide +kernel
theorem dX6_on_72 : decode cX6_on 72 = .ok (.iconst 1, 1) := by decide +kernel
theorem dX6_on_73 : decode cX6_on 73 = .ok (.iadd, 1) := by decide +kernel
theorem dX6_on_74 : decode cX6_on 74 = .ok (.aload_n 0, 1) := by decide +kernel
theorem dX6_on_75 : decode cX6_on 75 = .ok (.getfield 31, 3) := by decide +kernel
theorem dX6_on_78 : decode cX6_on 78 = .ok (.iconst 0, 1) := by decide +kernel
theorem dX6_on_79 : decode cX6_on 79 = .ok (.sipush 1000, 3) := by decide +kernel
theorem dX6_on_82 : decode cX6_on 82 = .ok (.invokestatic 105, 3) := by decide +kernel
theorem dX6_on_85 : decode cX6_on 85 = .ok (.aload_n 0, 1) := by decide +kernel
theorem dX6_on_86 : decode cX6_on 86 = .ok (.getfield 109, 3) := by decide +kernel
theorem dX6_on_89 : decode cX6_on 89 = .ok (.ireturn, 1) := by decide +kernel
theorem dX6_laysAside_0 : decode cX6_laysAside 0 = .ok (.aload_n 0, 1) := by decide +kernel
theorem dX6_laysAside_1 : decode cX6_laysAside 1 = .ok (.getfield 25, 3) := by decide +kernel
theorem dX6_laysAside_4 : decode cX6_laysAside 4 = .ok (.iconst 0, 1) := by decide +kernel
theorem dX6_laysAside_5 : decode cX6_laysAside 5 = .ok (.aload_n 0, 1) := by decide +kernel
theorem dX6_laysAside_6 : decode cX6_laysAside 6 = .ok (.getfield 28, 3) := by decide +kernel
theorem dX6_laysAside_9 : decode cX6_laysAside 9 = .ok (.iconst 0, 1) := by decide +kernel
theorem dX6_laysAside_10 : decode cX6_laysAside 10 = .ok (.bipush 25, 2) := by decide +kernel
theorem dX6_laysAside_12 : decode cX6_laysAside 12 = .ok (.invokestatic 105, 3) := by decide +kernel
theorem dX6_laysAside_15 : decode cX6_laysAside 15 = .ok (.return_, 1) := by decide +kernel
theorem dX6_pocket_0 : decode cX6_pocket 0 = .ok (.aload_n 0, 1) := by decide +kernel
theorem dX6_pocket_1 : decode cX6_pocket 1 = .ok (.iload_n 1, 1) := by decide +kernel
theorem dX6_pocket_2 : decode cX6_pocket 2 = .ok (.invokevirtual 134, 3) := by decide +kernel
theorem dX6_pocket_5 : decode cX6_pocket 5 = .ok (.ifCond .eq 46, 3) := by decide +kernel
theorem dX6_pocket_8 : decode cX6_pocket 8 = .ok (.iload_n 2, 1) := by decide +kernel
theorem dX6_pocket_9 : decode cX6_pocket 9 = .ok (.invokestatic 143, 3) := by decide +kernel
theorem dX6_pocket_12 : decode cX6_pocket 12 = .ok (.ifCond .eq 39, 3) := by decide +kernel
theorem dX6_pocket_15 : decode cX6_pocket 15 = .ok (.iload_n 3, 1) := by decide +kernel
theorem dX6_pocket_16 : decode cX6_pocket 16 = .ok (.i2l, 1) := by decide +kernel
theorem dX6_pocket_17 : decode cX6_pocket 17 = .ok (.lconst 0, 1) := by decide +kernel
theorem dX6_pocket_18 : decode cX6_pocket 18 = .ok (.ldc2_w 165, 3) := by decide +kernel
theorem dX6_pocket_21 : decode cX6_pocket 21 = .ok (.invokestatic 69, 3) := by decide +kernel
theorem dX6_pocket_24 : decode cX6_pocket 24 = .ok (.ifCond .eq 27, 3) := by decide +kernel
theorem dX6_pocket_27 : decode cX6_pocket 27 = .ok (.aload_n 0, 1) := by decide +kernel
theorem dX6_pocket_28 : decode cX6_pocket 28 = .ok (.getfield 25, 3) := by decide +kernel
theorem dX6_pocket_31 : decode cX6_pocket 31 = .ok (.bipush 6, 2) := by decide +kernel
theorem dX6_pocket_33 : decode cX6_pocket 33 = .ok (.iconst 3, 1) := by decide +kernel
theorem dX6_pocket_34 : decode cX6_pocket 34 = .ok (.iload_n 1, 1) := by decide +kernel
theorem dX6_pocket_35 : decode cX6_pocket 35 = .ok (.imul, 1) := by decide +kernel
theorem dX6_pocket_36 : decode cX6_pocket 36 = .ok (.iadd, 1) := by decide +kernel
theorem dX6_pocket_37 : decode cX6_pocket 37 = .ok (.aload_n 0, 1) := by decide +kernel
theorem dX6_pocket_38 : decode cX6_pocket 38 = .ok (.getfield 22, 3) := by decide +kernel
theorem dX6_pocket_41 : decode cX6_pocket 41 = .ok (.iload_n 1, 1) := by decide +kernel
theorem dX6_pocket_42 : decode cX6_pocket 42 = .ok (.iaload, 1) := by decide +kernel
theorem dX6_pocket_43 : decode cX6_pocket 43 = .ok (.iload_n 2, 1) := by decide +kernel
theorem dX6_pocket_44 : decode cX6_pocket 44 = .ok (.iload_n 3, 1) := by decide +kernel
theorem dX6_pocket_45 : decode cX6_pocket 45 = .ok (.invokestatic 118, 3) := by decide +kernel
theorem dX6_pocket_48 : decode cX6_pocket 48 = .ok (.goto 4, 3) := by decide +kernel
theorem dX6_pocket_51 : decode cX6_pocket 51 = .ok (.iconst (-1), 1) := by decide +kernel
theorem dX6_pocket_52 : decode cX6_pocket 52 = .ok (.ireturn, 1) := by decide +kernel
theorem dX6_run_0 : decode cX6_run 0 = .ok (.iload_n 1, 1) := by decide +kernel
theorem dX6_run_1 : decode cX6_run 1 = .ok (.invokestatic 75, 3) := by decide +kernel
theorem dX6_run_4 : decode cX6_run 4 = .ok (.ifCond .eq 10, 3) := by decide +kernel
theorem dX6_run_7 : decode cX6_run 7 = .ok (.iload_n 2, 1) := by decide +kernel
theorem dX6_run_8 : decode cX6_run 8 = .ok (.invokestatic 75, 3) := by decide +kernel
theorem dX6_run_11 : decode cX6_run 11 = .ok (.ifCond .ne 5, 3) := by decide +kernel
theorem dX6_run_14 : decode cX6_run 14 = .ok (.iconst (-1), 1) := by decide +kernel
theorem dX6_run_15 : decode cX6_run 15 = .ok (.ireturn, 1) := by decide +kernel
theorem dX6_run_16 : decode cX6_run 16 = .ok (.aload_n 0, 1) := by decide +kernel
theorem dX6_run_17 : decode cX6_run 17 = .ok (.getfield 102, 3) := by decide +kernel
theorem dX6_run_20 : decode cX6_run 20 = .ok (.ifCond .ne 6, 3) := by decide +kernel
theorem dX6_run_23 : decode cX6_run 23 = .ok (.bipush (-4), 2) := by decide +kernel
theorem dX6_run_25 : decode cX6_run 25 = .ok (.ireturn, 1) := by decide +kernel
theorem dX6_run_26 : decode cX6_run 26 = .ok (.aload_n 0, 1) := by decide +kernel
theorem dX6_run_27 : decode cX6_run 27 = .ok (.getfield 7, 3) := by decide +kernel
theorem dX6_run_30 : decode cX6_run 30 = .ok (.iload_n 1, 1) := by decide +kernel
theorem dX6_run_31 : decode cX6_run 31 = .ok (.iaload, 1) := by decide +kernel
theorem dX6_run_32 : decode cX6_run 32 = .ok (.ifCond .ge 9, 3) := by decide +kernel
theorem dX6_run_35 : decode cX6_run 35 = .ok (.aload_n 0, 1) := by decide +kernel
theorem dX6_run_36 : decode cX6_run 36 = .ok (.iconst 1, 1) := by decide +kernel
theorem dX6_run_37 : decode cX6_run 37 = .ok (.invokevirtual 79, 3) := by decide +kernel
theorem dX6_run_40 : decode cX6_run 40 = .ok (.ireturn, 1) := by decide +kernel
theorem dX6_run_41 : decode cX6_run 41 = .ok (.aload_n 0, 1) := by decide +kernel
theorem dX6_run_42 : decode cX6_run 42 = .ok (.getfield 7, 3) := by decide +kernel
theorem dX6_run_45 : decode cX6_run 45 = .ok (.iload_n 1, 1) := by decide +kernel
theorem dX6_run_46 : decode cX6_run 46 = .ok (.iaload, 1) := by decide +kernel
theorem dX6_run_47 : decode cX6_run 47 = .ok (.bipush 10, 2) := by decide +kernel
theorem dX6_run_49 : decode cX6_run 49 = .ok (.if_icmp .le 9, 3) := by decide +kernel
theorem dX6_run_52 : decode cX6_run 52 = .ok (.aload_n 0, 1) := by decide +kernel
theorem dX6_run_53 : decode cX6_run 53 = .ok (.iconst 5, 1) := by decide +kernel
theorem dX6_run_54 : decode cX6_run 54 = .ok (.invokevirtual 79, 3) := by decide +kernel
theorem dX6_run_57 : decode cX6_run 57 = .ok (.ireturn, 1) := by decide +kernel
theorem dX6_run_58 : decode cX6_run 58 = .ok (.iconst 0, 1) := by decide +kernel
theorem dX6_run_59 : decode cX6_run 59 = .ok (.istore_n 3, 1) := by decide +kernel
theorem dX6_run_60 : decode cX6_run 60 = .ok (.iload_n 3, 1) := by decide +kernel
theorem dX6_run_61 : decode cX6_run 61 = .ok (.aload_n 0, 1) := by decide +kernel
theorem dX6_run_62 : decode cX6_run 62 = .ok (.getfield 7, 3) := by decide +kernel
theorem dX6_run_65 : decode cX6_run 65 = .ok (.iload_n 1, 1) := by decide +kernel
theorem dX6_run_66 : decode cX6_run 66 = .ok (.iaload, 1) := by decide +kernel
theorem dX6_run_67 : decode cX6_run 67 = .ok (.if_icmp .ge 32, 3) := by decide +kernel
theorem dX6_run_70 : decode cX6_run 70 = .ok (.aload_n 0, 1) := by decide +kernel
theorem dX6_run_71 : decode cX6_run 71 = .ok (.getfield 13, 3) := by decide +kernel
theorem dX6_run_74 : decode cX6_run 74 = .ok (.bipush 40, 2) := by decide +kernel
theorem dX6_run_76 : decode cX6_run 76 = .ok (.iload_n 1, 1) := by decide +kernel
theorem dX6_run_77 : decode cX6_run 77 = .ok (.imul, 1) := by decide +kernel
theorem dX6_run_78 : decode cX6_run 78 = .ok (.iload_n 3, 1) := by decide +kernel
theorem dX6_run_79 : decode cX6_run 79 = .ok (.iadd, 1) := by decide +kernel
theorem dX6_run_80 : decode cX6_run 80 = .ok (.iaload, 1) := by decide +kernel
theorem dX6_run_81 : decode cX6_run 81 = .ok (.invokestatic 143, 3) := by decide +kernel
theorem dX6_run_84 : decode cX6_run 84 = .ok (.ifCond .ne 9, 3) := by decide +kernel
theorem dX6_run_87 : decode cX6_run 87 = .ok (.aload_n 0, 1) := by decide +kernel
theorem dX6_run_88 : decode cX6_run 88 = .ok (.iconst 3, 1) := by decide +kernel
theorem dX6_run_89 : decode cX6_run 89 = .ok (.invokevirtual 79, 3) := by decide +kernel
theorem dX6_run_92 : decode cX6_run 92 = .ok (.ireturn, 1) := by decide +kernel
theorem dX6_run_93 : decode cX6_run 93 = .ok (.iinc 3 1, 3) := by decide +kernel
theorem dX6_run_96 : decode cX6_run 96 = .ok (.goto (-36), 3) := by decide +kernel
theorem dX6_run_99 : decode cX6_run 99 = .ok (.aload_n 0, 1) := by decide +kernel
theorem dX6_run_100 : decode cX6_run 100 = .ok (.invokevirtual 167, 3) := by decide +kernel
theorem dX6_run_103 : decode cX6_run 103 = .ok (.iconst 0, 1) := by decide +kernel
theorem dX6_run_104 : decode cX6_run 104 = .ok (.istore_n 3, 1) := by decide +kernel
theorem dX6_run_105 : decode cX6_run 105 = .ok (.iload_n 3, 1) := by decide +kernel
theorem dX6_run_106 : decode cX6_run 106 = .ok (.aload_n 0, 1) := by decide +kernel
theorem dX6_run_107 : decode cX6_run 107 = .ok (.getfield 7, 3) := by decide +kernel
theorem dX6_run_110 : decode cX6_run 110 = .ok (.iload_n 1, 1) := by decide +kernel
theorem dX6_run_111 : decode cX6_run 111 = .ok (.iaload, 1) := by decide +kernel
theorem dX6_run_112 : decode cX6_run 112 = .ok (.if_icmp .ge 28, 3) := by decide +kernel
theorem dX6_run_115 : decode cX6_run 115 = .ok (.aload_n 0, 1) := by decide +kernel
theorem dX6_run_116 : decode cX6_run 116 = .ok (.aload_n 0, 1) := by decide +kernel
theorem dX6_run_117 : decode cX6_run 117 = .ok (.getfield 28, 3) := by decide +kernel
theorem dX6_run_120 : decode cX6_run 120 = .ok (.aload_n 0, 1) := by decide +kernel
theorem dX6_run_121 : decode cX6_run 121 = .ok (.getfield 13, 3) := by decide +kernel
theorem dX6_run_124 : decode cX6_run 124 = .ok (.bipush 40, 2) := by decide +kernel
theorem dX6_run_126 : decode cX6_run 126 = .ok (.iload_n 1, 1) := by decide +kernel
theorem dX6_run_127 : decode cX6_run 127 = .ok (.imul, 1) := by decide +kernel
theorem dX6_run_128 : decode cX6_run 128 = .ok (.iload_n 3, 1) := by decide +kernel
theorem dX6_run_129 : decode cX6_run 129 = .ok (.iadd, 1) := by decide +kernel
theorem dX6_run_130 : decode cX6_run 130 = .ok (.iaload, 1) := by decide +kernel
theorem dX6_run_131 : decode cX6_run 131 = .ok (.invokevirtual 149, 3) := by decide +kernel
theorem dX6_run_134 : decode cX6_run 134 = .ok (.iinc 3 1, 3) := by decide +kernel
theorem dX6_run_137 : decode cX6_run 137 = .ok (.goto (-32), 3) := by decide +kernel
theorem dX6_run_140 : decode cX6_run 140 = .ok (.aload_n 0, 1) := by decide +kernel
theorem dX6_run_141 : decode cX6_run 141 = .ok (.iload_n 2, 1) := by decide +kernel
theorem dX6_run_142 : decode cX6_run 142 = .ok (.aload_n 0, 1) := by decide +kernel
theorem dX6_run_143 : decode cX6_run 143 = .ok (.getfield 102, 3) := by decide +kernel
theorem dX6_run_146 : decode cX6_run 146 = .ok (.invokevirtual 170, 3) := by decide +kernel
theorem dX6_run_149 : decode cX6_run 149 = .ok (.aload_n 0, 1) := by decide +kernel
theorem dX6_run_150 : decode cX6_run 150 = .ok (.getfield 28, 3) := by decide +kernel
theorem dX6_run_153 : decode cX6_run 153 = .ok (.iconst 0, 1) := by decide +kernel
theorem dX6_run_154 : decode cX6_run 154 = .ok (.aload_n 0, 1) := by decide +kernel
theorem dX6_run_155 : decode cX6_run 155 = .ok (.getfield 13, 3) := by decide +kernel
theorem dX6_run_158 : decode cX6_run 158 = .ok (.bipush 40, 2) := by decide +kernel
theorem dX6_run_160 : decode cX6_run 160 = .ok (.iload_n 2, 1) := by decide +kernel
theorem dX6_run_161 : decode cX6_run 161 = .ok (.imul, 1) := by decide +kernel
theorem dX6_run_162 : decode cX6_run 162 = .ok (.aload_n 0, 1) := by decide +kernel
theorem dX6_run_163 : decode cX6_run 163 = .ok (.getfield 102, 3) := by decide +kernel
theorem dX6_run_166 : decode cX6_run 166 = .ok (.invokestatic 105, 3) := by decide +kernel
theorem dX6_run_169 : decode cX6_run 169 = .ok (.aload_n 0, 1) := by decide +kernel
theorem dX6_run_170 : decode cX6_run 170 = .ok (.getfield 28, 3) := by decide +kernel
theorem dX6_run_173 : decode cX6_run 173 = .ok (.iconst 0, 1) := by decide +kernel
theorem dX6_run_174 : decode cX6_run 174 = .ok (.iaload, 1) := by decide +kernel
theorem dX6_run_175 : decode cX6_run 175 = .ok (.ireturn, 1) := by decide +kernel
theorem dX6_lays_0 : decode cX6_lays 0 = .ok (.aload_n 0, 1) := by decide +kernel
theorem dX6_lays_1 : decode cX6_lays 1 = .ok (.getfield 7, 3) := by decide +kernel
theorem dX6_lays_4 : decode cX6_lays 4 = .ok (.iload_n 1, 1) := by decide +kernel
theorem dX6_lays_5 : decode cX6_lays 5 = .ok (.iload_n 2, 1) := by decide +kernel
theorem dX6_lays_6 : decode cX6_lays 6 = .ok (.iastore, 1) := by decide +kernel
theorem dX6_lays_7 : decode cX6_lays 7 = .ok (.iconst 0, 1) := by decide +kernel
theorem dX6_lays_8 : decode cX6_lays 8 = .ok (.istore_n 3, 1) := by decide +kernel
theorem dX6_lays_9 : decode cX6_lays 9 = .ok (.iload_n 3, 1) := by decide +kernel
theorem dX6_lays_10 : decode cX6_lays 10 = .ok (.bipush 40, 2) := by decide +kernel
theorem dX6_lays_12 : decode cX6_lays 12 = .ok (.if_icmp .ge 21, 3) := by decide +kernel
theorem dX6_lays_15 : decode cX6_lays 15 = .ok (.aload_n 0, 1) := by decide +kernel
theorem dX6_lays_16 : decode cX6_lays 16 = .ok (.getfield 13, 3) := by decide +kernel
theorem dX6_lays_19 : decode cX6_lays 19 = .ok (.bipush 40, 2) := by decide +kernel
theorem dX6_lays_21 : decode cX6_lays 21 = .ok (.iload_n 1, 1) := by decide +kernel
theorem dX6_lays_22 : decode cX6_lays 22 = .ok (.imul, 1) := by decide +kernel
theorem dX6_lays_23 : decode cX6_lays 23 = .ok (.iload_n 3, 1) := by decide +kernel
theorem dX6_lays_24 : decode cX6_lays 24 = .ok (.iadd, 1) := by decide +kernel
theorem dX6_lays_25 : decode cX6_lays 25 = .ok (.iconst 0, 1) := by decide +kernel
theorem dX6_lays_26 : decode cX6_lays 26 = .ok (.iastore, 1) := by decide +kernel
theorem dX6_lays_27 : decode cX6_lays 27 = .ok (.iinc 3 1, 3) := by decide +kernel
theorem dX6_lays_30 : decode cX6_lays 30 = .ok (.goto (-21), 3) := by decide +kernel
theorem dX6_lays_33 : decode cX6_lays 33 = .ok (.return_, 1) := by decide +kernel
theorem dX6_isOrdered_0 : decode cX6_isOrdered 0 = .ok (.iconst 1, 1) := by decide +kernel
theorem dX6_isOrdered_1 : decode cX6_isOrdered 1 = .ok (.istore_n 3, 1) := by decide +kernel
theorem dX6_isOrdered_2 : decode cX6_isOrdered 2 = .ok (.iconst 1, 1) := by decide +kernel
theorem dX6_isOrdered_3 : decode cX6_isOrdered 3 = .ok (.istore 4, 2) := by decide +kernel
theorem dX6_isOrdered_5 : decode cX6_isOrdered 5 = .ok (.iload 4, 2) := by decide +kernel
theorem dX6_isOrdered_7 : decode cX6_isOrdered 7 = .ok (.aload_n 0, 1) := by decide +kernel
theorem dX6_isOrdered_8 : decode cX6_isOrdered 8 = .ok (.getfield 102, 3) := by decide +kernel
theorem dX6_isOrdered_11 : decode cX6_isOrdered 11 = .ok (.if_icmp .ge 44, 3) := by decide +kernel
theorem dX6_isOrdered_14 : decode cX6_isOrdered 14 = .ok (.iload_n 3, 1) := by decide +kernel
theorem dX6_isOrdered_15 : decode cX6_isOrdered 15 = .ok (.ifCond .eq 32, 3) := by decide +kernel
theorem dX6_isOrdered_18 : decode cX6_isOrdered 18 = .ok (.aload_n 0, 1) := by decide +kernel
theorem dX6_isOrdered_19 : decode cX6_isOrdered 19 = .ok (.aload_n 1, 1) := by decide +kernel
theorem dX6_isOrdered_20 : decode cX6_isOrdered 20 = .ok (.aload_n 1, 1) := by decide +kernel
theorem dX6_isOrdered_21 : decode cX6_isOrdered 21 = .ok (.iload 4, 2) := by decide +kernel
theorem dX6_isOrdered_23 : decode cX6_isOrdered 23 = .ok (.iconst 1, 1) := by decide +kernel
theorem dX6_isOrdered_24 : decode cX6_isOrdered 24 = .ok (.isub, 1) := by decide +kernel
theorem dX6_isOrdered_25 : decode cX6_isOrdered 25 = .ok (.iaload, 1) := by decide +kernel
theorem dX6_isOrdered_26 : decode cX6_isOrdered 26 = .ok (.iload_n 2, 1) := by decide +kernel
theorem dX6_isOrdered_27 : decode cX6_isOrdered 27 = .ok (.invokevirtual 126, 3) := by decide +kernel
theorem dX6_isOrdered_30 : decode cX6_isOrdered 30 = .ok (.aload_n 0, 1) := by decide +kernel
theorem dX6_isOrdered_31 : decode cX6_isOrdered 31 = .ok (.aload_n 1, 1) := by decide +kernel
theorem dX6_isOrdered_32 : decode cX6_isOrdered 32 = .ok (.aload_n 1, 1) := by decide +kernel
theorem dX6_isOrdered_33 : decode cX6_isOrdered 33 = .ok (.iload 4, 2) := by decide +kernel
theorem dX6_isOrdered_35 : decode cX6_isOrdered 35 = .ok (.iaload, 1) := by decide +kernel
theorem dX6_isOrdered_36 : decode cX6_isOrdered 36 = .ok (.iload_n 2, 1) := by decide +kernel
theorem dX6_isOrdered_37 : decode cX6_isOrdered 37 = .ok (.invokevirtual 126, 3) := by decide +kernel
theorem dX6_isOrdered_40 : decode cX6_isOrdered 40 = .ok (.if_icmp .gt 7, 3) := by decide +kernel
theorem dX6_isOrdered_43 : decode cX6_isOrdered 43 = .ok (.iconst 1, 1) := by decide +kernel
theorem dX6_isOrdered_44 : decode cX6_isOrdered 44 = .ok (.goto 4, 3) := by decide +kernel
theorem dX6_isOrdered_47 : decode cX6_isOrdered 47 = .ok (.iconst 0, 1) := by decide +kernel
theorem dX6_isOrdered_48 : decode cX6_isOrdered 48 = .ok (.istore_n 3, 1) := by decide +kernel
theorem dX6_isOrdered_49 : decode cX6_isOrdered 49 = .ok (.iinc 4 1, 3) := by decide +kernel
theorem dX6_isOrdered_52 : decode cX6_isOrdered 52 = .ok (.goto (-47), 3) := by decide +kernel
theorem dX6_isOrdered_55 : decode cX6_isOrdered 55 = .ok (.iload_n 3, 1) := by decide +kernel
theorem dX6_isOrdered_56 : decode cX6_isOrdered 56 = .ok (.ireturn, 1) := by decide +kernel
theorem dX6_firstRow_0 : decode cX6_firstRow 0 = .ok (.iconst 1, 1) := by decide +kernel
theorem dX6_firstRow_1 : decode cX6_firstRow 1 = .ok (.istore 4, 2) := by decide +kernel
theorem dX6_firstRow_3 : decode cX6_firstRow 3 = .ok (.iconst 0, 1) := by decide +kernel
theorem dX6_firstRow_4 : decode cX6_firstRow 4 = .ok (.istore 5, 2) := by decide +kernel
theorem dX6_firstRow_6 : decode cX6_firstRow 6 = .ok (.iload 5, 2) := by decide +kernel
theorem dX6_firstRow_8 : decode cX6_firstRow 8 = .ok (.bipush 6, 2) := by decide +kernel
theorem dX6_firstRow_10 : decode cX6_firstRow 10 = .ok (.if_icmp .ge 154, 3) := by decide +kernel
theorem dX6_firstRow_13 : decode cX6_firstRow 13 = .ok (.iconst 0, 1) := by decide +kernel
theorem dX6_firstRow_14 : decode cX6_firstRow 14 = .ok (.istore 6, 2) := by decide +kernel
theorem dX6_firstRow_16 : decode cX6_firstRow 16 = .ok (.iload 6, 2) := by decide +kernel
theorem dX6_firstRow_18 : decode cX6_firstRow 18 = .ok (.iload 4, 2) := by decide +kernel
theorem dX6_firstRow_20 : decode cX6_firstRow 20 = .ok (.if_icmp .ge 132, 3) := by decide +kernel
theorem dX6_firstRow_23 : decode cX6_firstRow 23 = .ok (.aload_n 0, 1) := by decide +kernel
theorem dX6_firstRow_24 : decode cX6_firstRow 24 = .ok (.invokevirtual 167, 3) := by decide +kernel
theorem dX6_firstRow_27 : decode cX6_firstRow 27 = .ok (.iload 4, 2) := by decide +kernel
theorem dX6_firstRow_29 : decode cX6_firstRow 29 = .ok (.iconst 3, 1) := by decide +kernel
theorem dX6_firstRow_30 : decode cX6_firstRow 30 = .ok (.idiv, 1) := by decide +kernel
theorem dX6_firstRow_31 : decode cX6_firstRow 31 = .ok (.istore 7, 2) := by decide +kernel
theorem dX6_firstRow_33 : decode cX6_firstRow 33 = .ok (.iload 7, 2) := by decide +kernel
theorem dX6_firstRow_35 : decode cX6_firstRow 35 = .ok (.ifCond .le 27, 3) := by decide +kernel
theorem dX6_firstRow_38 : decode cX6_firstRow 38 = .ok (.aload_n 0, 1) := by decide +kernel
theorem dX6_firstRow_39 : decode cX6_firstRow 39 = .ok (.aload_n 0, 1) := by decide +kernel
theorem dX6_firstRow_40 : decode cX6_firstRow 40 = .ok (.getfield 28, 3) := by decide +kernel
theorem dX6_firstRow_43 : decode cX6_firstRow 43 = .ok (.iload 6, 2) := by decide +kernel
theorem dX6_firstRow_45 : decode cX6_firstRow 45 = .ok (.iload 7, 2) := by decide +kernel
theorem dX6_firstRow_47 : decode cX6_firstRow 47 = .ok (.idiv, 1) := by decide +kernel
theorem dX6_firstRow_48 : decode cX6_firstRow 48 = .ok (.iconst 3, 1) := by decide +kernel
theorem dX6_firstRow_49 : decode cX6_firstRow 49 = .ok (.irem, 1) := by decide +kernel
theorem dX6_firstRow_50 : decode cX6_firstRow 50 = .ok (.invokevirtual 149, 3) := by decide +kernel
theorem dX6_firstRow_53 : decode cX6_firstRow 53 = .ok (.iload 7, 2) := by decide +kernel
theorem dX6_firstRow_55 : decode cX6_firstRow 55 = .ok (.iconst 3, 1) := by decide +kernel
theorem dX6_firstRow_56 : decode cX6_firstRow 56 = .ok (.idiv, 1) := by decide +kernel
theorem dX6_firstRow_57 : decode cX6_firstRow 57 = .ok (.istore 7, 2) := by decide +kernel
theorem dX6_firstRow_59 : decode cX6_firstRow 59 = .ok (.goto (-26), 3) := by decide +kernel
theorem dX6_firstRow_62 : decode cX6_firstRow 62 = .ok (.iload_n 1, 1) := by decide +kernel
theorem dX6_firstRow_63 : decode cX6_firstRow 63 = .ok (.bipush (-9), 2) := by decide +kernel
theorem dX6_firstRow_65 : decode cX6_firstRow 65 = .ok (.if_icmp .ne 18, 3) := by decide +kernel
theorem dX6_firstRow_68 : decode cX6_firstRow 68 = .ok (.aload_n 0, 1) := by decide +kernel
theorem dX6_firstRow_69 : decode cX6_firstRow 69 = .ok (.aload_n 0, 1) := by decide +kernel
theorem dX6_firstRow_70 : decode cX6_firstRow 70 = .ok (.getfield 28, 3) := by decide +kernel
theorem dX6_firstRow_73 : decode cX6_firstRow 73 = .ok (.iload_n 2, 1) := by decide +kernel
theorem dX6_firstRow_74 : decode cX6_firstRow 74 = .ok (.invokevirtual 174, 3) := by decide +kernel
theorem dX6_firstRow_77 : decode cX6_firstRow 77 = .ok (.ifCond .eq 69, 3) := by decide +kernel
theorem dX6_firstRow_80 : decode cX6_firstRow 80 = .ok (.goto 13, 3) := by decide +kernel
theorem dX6_firstRow_83 : decode cX6_firstRow 83 = .ok (.aload_n 0, 1) := by decide +kernel
theorem dX6_firstRow_84 : decode cX6_firstRow 84 = .ok (.getfield 28, 3) := by decide +kernel
theorem dX6_firstRow_87 : decode cX6_firstRow 87 = .ok (.iload_n 2, 1) := by decide +kernel
theorem dX6_firstRow_88 : decode cX6_firstRow 88 = .ok (.iaload, 1) := by decide +kernel
theorem dX6_firstRow_89 : decode cX6_firstRow 89 = .ok (.iload_n 1, 1) := by decide +kernel
theorem dX6_firstRow_90 : decode cX6_firstRow 90 = .ok (.if_icmp .ne 56, 3) := by decide +kernel
theorem dX6_firstRow_93 : decode cX6_firstRow 93 = .ok (.aload_n 0, 1) := by decide +kernel
theorem dX6_firstRow_94 : decode cX6_firstRow 94 = .ok (.iload_n 3, 1) := by decide +kernel
theorem dX6_firstRow_95 : decode cX6_firstRow 95 = .ok (.iload 5, 2) := by decide +kernel
theorem dX6_firstRow_97 : decode cX6_firstRow 97 = .ok (.invokevirtual 170, 3) := by decide +kernel
theorem dX6_firstRow_100 : decode cX6_firstRow 100 = .ok (.iload 6, 2) := by decide +kernel
theorem dX6_firstRow_102 : decode cX6_firstRow 102 = .ok (.istore 7, 2) := by decide +kernel
theorem dX6_firstRow_104 : decode cX6_firstRow 104 = .ok (.iload 5, 2) := by decide +kernel
theorem dX6_firstRow_106 : decode cX6_firstRow 106 = .ok (.iconst 1, 1) := by decide +kernel
theorem dX6_firstRow_107 : decode cX6_firstRow 107 = .ok (.isub, 1) := by decide +kernel
theorem dX6_firstRow_108 : decode cX6_firstRow 108 = .ok (.istore 8, 2) := by decide +kernel
theorem dX6_firstRow_110 : decode cX6_firstRow 110 = .ok (.iload 8, 2) := by decide +kernel
theorem dX6_firstRow_112 : decode cX6_firstRow 112 = .ok (.ifCond .lt 31, 3) := by decide +kernel
theorem dX6_firstRow_115 : decode cX6_firstRow 115 = .ok (.aload_n 0, 1) := by decide +kernel
theorem dX6_firstRow_116 : decode cX6_firstRow 116 = .ok (.getfield 13, 3) := by decide +kernel
theorem dX6_firstRow_119 : decode cX6_firstRow 119 = .ok (.bipush 40, 2) := by decide +kernel
theorem dX6_firstRow_121 : decode cX6_firstRow 121 = .ok (.iload_n 3, 1) := by decide +kernel
theorem dX6_firstRow_122 : decode cX6_firstRow 122 = .ok (.imul, 1) := by decide +kernel
theorem dX6_firstRow_123 : decode cX6_firstRow 123 = .ok (.iload 8, 2) := by decide +kernel
theorem dX6_firstRow_125 : decode cX6_firstRow 125 = .ok (.iadd, 1) := by decide +kernel
theorem dX6_firstRow_126 : decode cX6_firstRow 126 = .ok (.iload 7, 2) := by decide +kernel
theorem dX6_firstRow_128 : decode cX6_firstRow 128 = .ok (.iconst 3, 1) := by decide +kernel
theorem dX6_firstRow_129 : decode cX6_firstRow 129 = .ok (.irem, 1) := by decide +kernel
theorem dX6_firstRow_130 : decode cX6_firstRow 130 = .ok (.iastore, 1) := by decide +kernel
theorem dX6_firstRow_131 : decode cX6_firstRow 131 = .ok (.iload 7, 2) := by decide +kernel
theorem dX6_firstRow_133 : decode cX6_firstRow 133 = .ok (.iconst 3, 1) := by decide +kernel
theorem dX6_firstRow_134 : decode cX6_firstRow 134 = .ok (.idiv, 1) := by decide +kernel
theorem dX6_firstRow_135 : decode cX6_firstRow 135 = .ok (.istore 7, 2) := by decide +kernel
theorem dX6_firstRow_137 : decode cX6_firstRow 137 = .ok (.iinc 8 (-1), 3) := by decide +kernel
theorem dX6_firstRow_140 : decode cX6_firstRow 140 = .ok (.goto (-30), 3) := by decide +kernel
theorem dX6_firstRow_143 : decode cX6_firstRow 143 = .ok (.iload 5, 2) := by decide +kernel
theorem dX6_firstRow_145 : decode cX6_firstRow 145 = .ok (.ireturn, 1) := by decide +kernel
theorem dX6_firstRow_146 : decode cX6_firstRow 146 = .ok (.iinc 6 1, 3) := by decide +kernel
theorem dX6_firstRow_149 : decode cX6_firstRow 149 = .ok (.goto (-133), 3) := by decide +kernel
theorem dX6_firstRow_152 : decode cX6_firstRow 152 = .ok (.iload 4, 2) := by decide +kernel
theorem dX6_firstRow_154 : decode cX6_firstRow 154 = .ok (.iconst 3, 1) := by decide +kernel
theorem dX6_firstRow_155 : decode cX6_firstRow 155 = .ok (.imul, 1) := by decide +kernel
theorem dX6_firstRow_156 : decode cX6_firstRow 156 = .ok (.istore 4, 2) := by decide +kernel
theorem dX6_firstRow_158 : decode cX6_firstRow 158 = .ok (.iinc 5 1, 3) := by decide +kernel
theorem dX6_firstRow_161 : decode cX6_firstRow 161 = .ok (.goto (-155), 3) := by decide +kernel
theorem dX6_firstRow_164 : decode cX6_firstRow 164 = .ok (.bipush (-9), 2) := by decide +kernel
theorem dX6_firstRow_166 : decode cX6_firstRow 166 = .ok (.ireturn, 1) := by decide +kernel
theorem dX6_fewest_0 : decode cX6_fewest 0 = .ok (.aload_n 0, 1) := by decide +kernel
theorem dX6_fewest_1 : decode cX6_fewest 1 = .ok (.iload_n 1, 1) := by decide +kernel
theorem dX6_fewest_2 : decode cX6_fewest 2 = .ok (.invokevirtual 134, 3) := by decide +kernel
theorem dX6_fewest_5 : decode cX6_fewest 5 = .ok (.ifCond .eq 36, 3) := by decide +kernel
theorem dX6_fewest_8 : decode cX6_fewest 8 = .ok (.iload_n 2, 1) := by decide +kernel
theorem dX6_fewest_9 : decode cX6_fewest 9 = .ok (.i2l, 1) := by decide +kernel
theorem dX6_fewest_10 : decode cX6_fewest 10 = .ok (.lconst 0, 1) := by decide +kernel
theorem dX6_fewest_11 : decode cX6_fewest 11 = .ok (.aload_n 0, 1) := by decide +kernel
theorem dX6_fewest_12 : decode cX6_fewest 12 = .ok (.getfield 102, 3) := by decide +kernel
theorem dX6_fewest_15 : decode cX6_fewest 15 = .ok (.iconst 1, 1) := by decide +kernel
theorem dX6_fewest_16 : decode cX6_fewest 16 = .ok (.isub, 1) := by decide +kernel
theorem dX6_fewest_17 : decode cX6_fewest 17 = .ok (.i2l, 1) := by decide +kernel
theorem dX6_fewest_18 : decode cX6_fewest 18 = .ok (.invokestatic 69, 3) := by decide +kernel
theorem dX6_fewest_21 : decode cX6_fewest 21 = .ok (.ifCond .eq 20, 3) := by decide +kernel
theorem dX6_fewest_24 : decode cX6_fewest 24 = .ok (.iload_n 3, 1) := by decide +kernel
theorem dX6_fewest_25 : decode cX6_fewest 25 = .ok (.invokestatic 75, 3) := by decide +kernel
theorem dX6_fewest_28 : decode cX6_fewest 28 = .ok (.ifCond .eq 13, 3) := by decide +kernel
theorem dX6_fewest_31 : decode cX6_fewest 31 = .ok (.aload_n 0, 1) := by decide +kernel
theorem dX6_fewest_32 : decode cX6_fewest 32 = .ok (.iload_n 1, 1) := by decide +kernel
theorem dX6_fewest_33 : decode cX6_fewest 33 = .ok (.iload_n 2, 1) := by decide +kernel
theorem dX6_fewest_34 : decode cX6_fewest 34 = .ok (.iload_n 3, 1) := by decide +kernel
theorem dX6_fewest_35 : decode cX6_fewest 35 = .ok (.invokevirtual 178, 3) := by decide +kernel
theorem dX6_fewest_38 : decode cX6_fewest 38 = .ok (.goto 4, 3) := by decide +kernel
theorem dX6_fewest_41 : decode cX6_fewest 41 = .ok (.iconst (-1), 1) := by decide +kernel
theorem dX6_fewest_42 : decode cX6_fewest 42 = .ok (.ireturn, 1) := by decide +kernel
theorem dX6_order_0 : decode cX6_order 0 = .ok (.iload_n 1, 1) := by decide +kernel
theorem dX6_order_1 : decode cX6_order 1 = .ok (.invokestatic 143, 3) := by decide +kernel
theorem dX6_order_4 : decode cX6_order 4 = .ok (.ifCond .eq 10, 3) := by decide +kernel
theorem dX6_order_7 : decode cX6_order 7 = .ok (.iload_n 2, 1) := by decide +kernel
theorem dX6_order_8 : decode cX6_order 8 = .ok (.invokestatic 75, 3) := by decide +kernel
theorem dX6_order_11 : decode cX6_order 11 = .ok (.ifCond .ne 5, 3) := by decide +kernel
theorem dX6_order_14 : decode cX6_order 14 = .ok (.iconst (-1), 1) := by decide +kernel
theorem dX6_order_15 : decode cX6_order 15 = .ok (.ireturn, 1) := by decide +kernel
theorem dX6_order_16 : decode cX6_order 16 = .ok (.aload_n 0, 1) := by decide +kernel
theorem dX6_order_17 : decode cX6_order 17 = .ok (.getfield 102, 3) := by decide +kernel
theorem dX6_order_20 : decode cX6_order 20 = .ok (.ifCond .ne 8, 3) := by decide +kernel
theorem dX6_order_23 : decode cX6_order 23 = .ok (.bipush (-4), 2) := by decide +kernel
theorem dX6_order_25 : decode cX6_order 25 = .ok (.goto 11, 3) := by decide +kernel
theorem dX6_order_28 : decode cX6_order 28 = .ok (.aload_n 0, 1) := by decide +kernel
theorem dX6_order_29 : decode cX6_order 29 = .ok (.bipush (-9), 2) := by decide +kernel
theorem dX6_order_31 : decode cX6_order 31 = .ok (.iload_n 1, 1) := by decide +kernel
theorem dX6_order_32 : decode cX6_order 32 = .ok (.iload_n 2, 1) := by decide +kernel
theorem dX6_order_33 : decode cX6_order 33 = .ok (.invokevirtual 178, 3) := by decide +kernel
theorem dX6_order_36 : decode cX6_order 36 = .ok (.ireturn, 1) := by decide +kernel
theorem dX6_columns_0 : decode cX6_columns 0 = .ok (.iload_n 1, 1) := by decide +kernel
theorem dX6_columns_1 : decode cX6_columns 1 = .ok (.invokestatic 75, 3) := by decide +kernel
theorem dX6_columns_4 : decode cX6_columns 4 = .ok (.ifCond .ne 5, 3) := by decide +kernel
theorem dX6_columns_7 : decode cX6_columns 7 = .ok (.iconst (-1), 1) := by decide +kernel
theorem dX6_columns_8 : decode cX6_columns 8 = .ok (.ireturn, 1) := by decide +kernel
theorem dX6_columns_9 : decode cX6_columns 9 = .ok (.aload_n 0, 1) := by decide +kernel
theorem dX6_columns_10 : decode cX6_columns 10 = .ok (.getfield 102, 3) := by decide +kernel
theorem dX6_columns_13 : decode cX6_columns 13 = .ok (.ifCond .ne 6, 3) := by decide +kernel
theorem dX6_columns_16 : decode cX6_columns 16 = .ok (.bipush (-4), 2) := by decide +kernel
theorem dX6_columns_18 : decode cX6_columns 18 = .ok (.ireturn, 1) := by decide +kernel
theorem dX6_columns_19 : decode cX6_columns 19 = .ok (.aload_n 0, 1) := by decide +kernel
theorem dX6_columns_20 : decode cX6_columns 20 = .ok (.getfield 7, 3) := by decide +kernel
theorem dX6_columns_23 : decode cX6_columns 23 = .ok (.iload_n 1, 1) := by decide +kernel
theorem dX6_columns_24 : decode cX6_columns 24 = .ok (.iaload, 1) := by decide +kernel
theorem dX6_columns_25 : decode cX6_columns 25 = .ok (.ifCond .ge 9, 3) := by decide +kernel
theorem dX6_columns_28 : decode cX6_columns 28 = .ok (.aload_n 0, 1) := by decide +kernel
theorem dX6_columns_29 : decode cX6_columns 29 = .ok (.iconst 1, 1) := by decide +kernel
theorem dX6_columns_30 : decode cX6_columns 30 = .ok (.invokevirtual 79, 3) := by decide +kernel
theorem dX6_columns_33 : decode cX6_columns 33 = .ok (.ireturn, 1) := by decide +kernel
theorem dX6_columns_34 : decode cX6_columns 34 = .ok (.aload_n 0, 1) := by decide +kernel
theorem dX6_columns_35 : decode cX6_columns 35 = .ok (.getfield 7, 3) := by decide +kernel
theorem dX6_columns_38 : decode cX6_columns 38 = .ok (.iload_n 1, 1) := by decide +kernel
theorem dX6_columns_39 : decode cX6_columns 39 = .ok (.iaload, 1) := by decide +kernel
theorem dX6_columns_40 : decode cX6_columns 40 = .ok (.aload_n 0, 1) := by decide +kernel
theorem dX6_columns_41 : decode cX6_columns 41 = .ok (.getfield 102, 3) := by decide +kernel
theorem dX6_columns_44 : decode cX6_columns 44 = .ok (.if_icmp .eq 9, 3) := by decide +kernel
theorem dX6_columns_47 : decode cX6_columns 47 = .ok (.aload_n 0, 1) := by decide +kernel
theorem dX6_columns_48 : decode cX6_columns 48 = .ok (.iconst 5, 1) := by decide +kernel
theorem dX6_columns_49 : decode cX6_columns 49 = .ok (.invokevirtual 79, 3) := by decide +kernel
theorem dX6_columns_52 : decode cX6_columns 52 = .ok (.ireturn, 1) := by decide +kernel
theorem dX6_columns_53 : decode cX6_columns 53 = .ok (.iconst 0, 1) := by decide +kernel
theorem dX6_columns_54 : decode cX6_columns 54 = .ok (.istore_n 2, 1) := by decide +kernel
theorem dX6_columns_55 : decode cX6_columns 55 = .ok (.iconst 0, 1) := by decide +kernel
theorem dX6_columns_56 : decode cX6_columns 56 = .ok (.istore_n 3, 1) := by decide +kernel
theorem dX6_columns_57 : decode cX6_columns 57 = .ok (.iload_n 3, 1) := by decide +kernel
theorem dX6_columns_58 : decode cX6_columns 58 = .ok (.aload_n 0, 1) := by decide +kernel
theorem dX6_columns_59 : decode cX6_columns 59 = .ok (.getfield 102, 3) := by decide +kernel
theorem dX6_columns_62 : decode cX6_columns 62 = .ok (.if_icmp .ge 53, 3) := by decide +kernel
theorem dX6_columns_65 : decode cX6_columns 65 = .ok (.aload_n 0, 1) := by decide +kernel
theorem dX6_columns_66 : decode cX6_columns 66 = .ok (.getfield 13, 3) := by decide +kernel
theorem dX6_columns_69 : decode cX6_columns 69 = .ok (.bipush 40, 2) := by decide +kernel
theorem dX6_columns_71 : decode cX6_columns 71 = .ok (.iload_n 1, 1) := by decide +kernel
theorem dX6_columns_72 : decode cX6_columns 72 = .ok (.imul, 1) := by decide +kernel
theorem dX6_columns_73 : decode cX6_columns 73 = .ok (.iload_n 3, 1) := by decide +kernel
theorem dX6_columns_74 : decode cX6_columns 74 = .ok (.iadd, 1) := by decide +kernel
theorem dX6_columns_75 : decode cX6_columns 75 = .ok (.iaload, 1) := by decide +kernel
theorem dX6_columns_76 : decode cX6_columns 76 = .ok (.istore 4, 2) := by decide +kernel
theorem dX6_columns_78 : decode cX6_columns 78 = .ok (.aload_n 0, 1) := by decide +kernel
theorem dX6_columns_79 : decode cX6_columns 79 = .ok (.iload 4, 2) := by decide +kernel
theorem dX6_columns_81 : decode cX6_columns 81 = .ok (.invokevirtual 134, 3) := by decide +kernel
theorem dX6_columns_84 : decode cX6_columns 84 = .ok (.ifCond .eq 12, 3) := by decide +kernel
theorem dX6_columns_87 : decode cX6_columns 87 = .ok (.iload_n 2, 1) := by decide +kernel
theorem dX6_columns_88 : decode cX6_columns 88 = .ok (.iload 4, 2) := by decide +kernel
theorem dX6_columns_90 : decode cX6_columns 90 = .ok (.invokestatic 122, 3) := by decide +kernel
theorem dX6_columns_93 : decode cX6_columns 93 = .ok (.ifCond .eq 9, 3) := by decide +kernel
theorem dX6_columns_96 : decode cX6_columns 96 = .ok (.aload_n 0, 1) := by decide +kernel
theorem dX6_columns_97 : decode cX6_columns 97 = .ok (.iconst 3, 1) := by decide +kernel
theorem dX6_columns_98 : decode cX6_columns 98 = .ok (.invokevirtual 79, 3) := by decide +kernel
theorem dX6_columns_101 : decode cX6_columns 101 = .ok (.ireturn, 1) := by decide +kernel
theorem dX6_columns_102 : decode cX6_columns 102 = .ok (.iload_n 2, 1) := by decide +kernel
theorem dX6_columns_103 : decode cX6_columns 103 = .ok (.iconst 1, 1) := by decide +kernel
theorem dX6_columns_104 : decode cX6_columns 104 = .ok (.iload 4, 2) := by decide +kernel
theorem dX6_columns_106 : decode cX6_columns 106 = .ok (.ishl, 1) := by decide +kernel
theorem dX6_columns_107 : decode cX6_columns 107 = .ok (.ior, 1) := by decide +kernel
theorem dX6_columns_108 : decode cX6_columns 108 = .ok (.istore_n 2, 1) := by decide +kernel
theorem dX6_columns_109 : decode cX6_columns 109 = .ok (.iinc 3 1, 3) := by decide +kernel
theorem dX6_columns_112 : decode cX6_columns 112 = .ok (.goto (-55), 3) := by decide +kernel
theorem dX6_columns_115 : decode cX6_columns 115 = .ok (.iconst 0, 1) := by decide +kernel
theorem dX6_columns_116 : decode cX6_columns 116 = .ok (.istore_n 3, 1) := by decide +kernel
theorem dX6_columns_117 : decode cX6_columns 117 = .ok (.iconst 0, 1) := by decide +kernel
theorem dX6_columns_118 : decode cX6_columns 118 = .ok (.istore 4, 2) := by decide +kernel
theorem dX6_columns_120 : decode cX6_columns 120 = .ok (.iload 4, 2) := by decide +kernel
theorem dX6_columns_122 : decode cX6_columns 122 = .ok (.iconst 3, 1) := by decide +kernel
theorem dX6_columns_123 : decode cX6_columns 123 = .ok (.if_icmp .ge 94, 3) := by decide +kernel
theorem dX6_columns_126 : decode cX6_columns 126 = .ok (.aload_n 0, 1) := by decide +kernel
theorem dX6_columns_127 : decode cX6_columns 127 = .ok (.invokevirtual 167, 3) := by decide +kernel
theorem dX6_columns_130 : decode cX6_columns 130 = .ok (.aload_n 0, 1) := by decide +kernel
theorem dX6_columns_131 : decode cX6_columns 131 = .ok (.aload_n 0, 1) := by decide +kernel
theorem dX6_columns_132 : decode cX6_columns 132 = .ok (.getfield 28, 3) := by decide +kernel
theorem dX6_columns_135 : decode cX6_columns 135 = .ok (.iload 4, 2) := by decide +kernel
theorem dX6_columns_137 : decode cX6_columns 137 = .ok (.invokevirtual 149, 3) := by decide +kernel
theorem dX6_columns_140 : decode cX6_columns 140 = .ok (.iconst 1, 1) := by decide +kernel
theorem dX6_columns_141 : decode cX6_columns 141 = .ok (.istore 5, 2) := by decide +kernel
theorem dX6_columns_143 : decode cX6_columns 143 = .ok (.iconst 0, 1) := by decide +kernel
theorem dX6_columns_144 : decode cX6_columns 144 = .ok (.istore 6, 2) := by decide +kernel
theorem dX6_columns_146 : decode cX6_columns 146 = .ok (.iload 6, 2) := by decide +kernel
theorem dX6_columns_148 : decode cX6_columns 148 = .ok (.aload_n 0, 1) := by decide +kernel
theorem dX6_columns_149 : decode cX6_columns 149 = .ok (.getfield 102, 3) := by decide +kernel
theorem dX6_columns_152 : decode cX6_columns 152 = .ok (.if_icmp .ge 43, 3) := by decide +kernel
theorem dX6_columns_155 : decode cX6_columns 155 = .ok (.iload 5, 2) := by decide +kernel
theorem dX6_columns_157 : decode cX6_columns 157 = .ok (.ifCond .eq 29, 3) := by decide +kernel
theorem dX6_columns_160 : decode cX6_columns 160 = .ok (.aload_n 0, 1) := by decide +kernel
theorem dX6_columns_161 : decode cX6_columns 161 = .ok (.getfield 28, 3) := by decide +kernel
theorem dX6_columns_164 : decode cX6_columns 164 = .ok (.iload 6, 2) := by decide +kernel
theorem dX6_columns_166 : decode cX6_columns 166 = .ok (.iaload, 1) := by decide +kernel
theorem dX6_columns_167 : decode cX6_columns 167 = .ok (.aload_n 0, 1) := by decide +kernel
theorem dX6_columns_168 : decode cX6_columns 168 = .ok (.getfield 13, 3) := by decide +kernel
theorem dX6_columns_171 : decode cX6_columns 171 = .ok (.bipush 40, 2) := by decide +kernel
theorem dX6_columns_173 : decode cX6_columns 173 = .ok (.iload_n 1, 1) := by decide +kernel
theorem dX6_columns_174 : decode cX6_columns 174 = .ok (.imul, 1) := by decide +kernel
theorem dX6_columns_175 : decode cX6_columns 175 = .ok (.iload 6, 2) := by decide +kernel
theorem dX6_columns_177 : decode cX6_columns 177 = .ok (.iadd, 1) := by decide +kernel
theorem dX6_columns_178 : decode cX6_columns 178 = .ok (.iaload, 1) := by decide +kernel
theorem dX6_columns_179 : decode cX6_columns 179 = .ok (.if_icmp .ne 7, 3) := by decide +kernel
theorem dX6_columns_182 : decode cX6_columns 182 = .ok (.iconst 1, 1) := by decide +kernel
theorem dX6_columns_183 : decode cX6_columns 183 = .ok (.goto 4, 3) := by decide +kernel
theorem dX6_columns_186 : decode cX6_columns 186 = .ok (.iconst 0, 1) := by decide +kernel
theorem dX6_columns_187 : decode cX6_columns 187 = .ok (.istore 5, 2) := by decide +kernel
theorem dX6_columns_189 : decode cX6_columns 189 = .ok (.iinc 6 1, 3) := by decide +kernel
theorem dX6_columns_192 : decode cX6_columns 192 = .ok (.goto (-46), 3) := by decide +kernel
theorem dX6_columns_195 : decode cX6_columns 195 = .ok (.iload_n 3, 1) := by decide +kernel
theorem dX6_columns_196 : decode cX6_columns 196 = .ok (.iload 5, 2) := by decide +kernel
theorem dX6_columns_198 : decode cX6_columns 198 = .ok (.ifCond .eq 10, 3) := by decide +kernel
theorem dX6_columns_201 : decode cX6_columns 201 = .ok (.iconst 1, 1) := by decide +kernel
theorem dX6_columns_202 : decode cX6_columns 202 = .ok (.iload 4, 2) := by decide +kernel
theorem dX6_columns_204 : decode cX6_columns 204 = .ok (.ishl, 1) := by decide +kernel
theorem dX6_columns_205 : decode cX6_columns 205 = .ok (.goto 4, 3) := by decide +kernel
theorem dX6_columns_208 : decode cX6_columns 208 = .ok (.iconst 0, 1) := by decide +kernel
theorem dX6_columns_209 : decode cX6_columns 209 = .ok (.ior, 1) := by decide +kernel
theorem dX6_columns_210 : decode cX6_columns 210 = .ok (.istore_n 3, 1) := by decide +kernel
theorem dX6_columns_211 : decode cX6_columns 211 = .ok (.iinc 4 1, 3) := by decide +kernel
theorem dX6_columns_214 : decode cX6_columns 214 = .ok (.goto (-94), 3) := by decide +kernel
theorem dX6_columns_217 : decode cX6_columns 217 = .ok (.iload_n 3, 1) := by decide +kernel
theorem dX6_columns_218 : decode cX6_columns 218 = .ok (.ireturn, 1) := by decide +kernel
theorem dX6_pairs_0 : decode cX6_pairs 0 = .ok (.aload_n 0, 1) := by decide +kernel
theorem dX6_pairs_1 : decode cX6_pairs 1 = .ok (.getfield 7, 3) := by decide +kernel
theorem dX6_pairs_4 : decode cX6_pairs 4 = .ok (.iload_n 1, 1) := by decide +kernel
theorem dX6_pairs_5 : decode cX6_pairs 5 = .ok (.iaload, 1) := by decide +kernel
theorem dX6_pairs_6 : decode cX6_pairs 6 = .ok (.ifCond .ge 5, 3) := by decide +kernel
theorem dX6_pairs_9 : decode cX6_pairs 9 = .ok (.iconst 1, 1) := by decide +kernel
theorem dX6_pairs_10 : decode cX6_pairs 10 = .ok (.ireturn, 1) := by decide +kernel
theorem dX6_pairs_11 : decode cX6_pairs 11 = .ok (.aload_n 0, 1) := by decide +kernel
theorem dX6_pairs_12 : decode cX6_pairs 12 = .ok (.getfield 7, 3) := by decide +kernel
theorem dX6_pairs_15 : decode cX6_pairs 15 = .ok (.iload_n 1, 1) := by decide +kernel
theorem dX6_pairs_16 : decode cX6_pairs 16 = .ok (.iaload, 1) := by decide +kernel
theorem dX6_pairs_17 : decode cX6_pairs 17 = .ok (.bipush 16, 2) := by decide +kernel
theorem dX6_pairs_19 : decode cX6_pairs 19 = .ok (.if_icmp .gt 15, 3) := by decide +kernel
theorem dX6_pairs_22 : decode cX6_pairs 22 = .ok (.aload_n 0, 1) := by decide +kernel
theorem dX6_pairs_23 : decode cX6_pairs 23 = .ok (.getfield 7, 3) := by decide +kernel
theorem dX6_pairs_26 : decode cX6_pairs 26 = .ok (.iload_n 1, 1) := by decide +kernel
theorem dX6_pairs_27 : decode cX6_pairs 27 = .ok (.iaload, 1) := by decide +kernel
theorem dX6_pairs_28 : decode cX6_pairs 28 = .ok (.iconst 2, 1) := by decide +kernel
theorem dX6_pairs_29 : decode cX6_pairs 29 = .ok (.irem, 1) := by decide +kernel
theorem dX6_pairs_30 : decode cX6_pairs 30 = .ok (.iconst 1, 1) := by decide +kernel
theorem dX6_pairs_31 : decode cX6_pairs 31 = .ok (.if_icmp .ne 5, 3) := by decide +kernel
theorem dX6_pairs_34 : decode cX6_pairs 34 = .ok (.iconst 5, 1) := by decide +kernel
theorem dX6_pairs_35 : decode cX6_pairs 35 = .ok (.ireturn, 1) := by decide +kernel
theorem dX6_pairs_36 : decode cX6_pairs 36 = .ok (.iconst 0, 1) := by decide +kernel
theorem dX6_pairs_37 : decode cX6_pairs 37 = .ok (.istore_n 2, 1) := by decide +kernel
theorem dX6_pairs_38 : decode cX6_pairs 38 = .ok (.iload_n 2, 1) := by decide +kernel
theorem dX6_pairs_39 : decode cX6_pairs 39 = .ok (.aload_n 0, 1) := by decide +kernel
theorem dX6_pairs_40 : decode cX6_pairs 40 = .ok (.getfield 7, 3) := by decide +kernel
theorem dX6_pairs_43 : decode cX6_pairs 43 = .ok (.iload_n 1, 1) := by decide +kernel
theorem dX6_pairs_44 : decode cX6_pairs 44 = .ok (.iaload, 1) := by decide +kernel
theorem dX6_pairs_45 : decode cX6_pairs 45 = .ok (.if_icmp .ge 52, 3) := by decide +kernel
theorem dX6_pairs_48 : decode cX6_pairs 48 = .ok (.aload_n 0, 1) := by decide +kernel
theorem dX6_pairs_49 : decode cX6_pairs 49 = .ok (.getfield 13, 3) := by decide +kernel
theorem dX6_pairs_52 : decode cX6_pairs 52 = .ok (.bipush 40, 2) := by decide +kernel
theorem dX6_pairs_54 : decode cX6_pairs 54 = .ok (.iload_n 1, 1) := by decide +kernel
theorem dX6_pairs_55 : decode cX6_pairs 55 = .ok (.imul, 1) := by decide +kernel
theorem dX6_pairs_56 : decode cX6_pairs 56 = .ok (.iload_n 2, 1) := by decide +kernel
theorem dX6_pairs_57 : decode cX6_pairs 57 = .ok (.iadd, 1) := by decide +kernel
theorem dX6_pairs_58 : decode cX6_pairs 58 = .ok (.iaload, 1) := by decide +kernel
theorem dX6_pairs_59 : decode cX6_pairs 59 = .ok (.invokestatic 143, 3) := by decide +kernel
theorem dX6_pairs_62 : decode cX6_pairs 62 = .ok (.ifCond .eq 27, 3) := by decide +kernel
theorem dX6_pairs_65 : decode cX6_pairs 65 = .ok (.aload_n 0, 1) := by decide +kernel
theorem dX6_pairs_66 : decode cX6_pairs 66 = .ok (.getfield 13, 3) := by decide +kernel
theorem dX6_pairs_69 : decode cX6_pairs 69 = .ok (.bipush 40, 2) := by decide +kernel
theorem dX6_pairs_71 : decode cX6_pairs 71 = .ok (.iload_n 1, 1) := by decide +kernel
theorem dX6_pairs_72 : decode cX6_pairs 72 = .ok (.imul, 1) := by decide +kernel
theorem dX6_pairs_73 : decode cX6_pairs 73 = .ok (.iload_n 2, 1) := by decide +kernel
theorem dX6_pairs_74 : decode cX6_pairs 74 = .ok (.iadd, 1) := by decide +kernel
theorem dX6_pairs_75 : decode cX6_pairs 75 = .ok (.iconst 1, 1) := by decide +kernel
theorem dX6_pairs_76 : decode cX6_pairs 76 = .ok (.iadd, 1) := by decide +kernel
theorem dX6_pairs_77 : decode cX6_pairs 77 = .ok (.iaload, 1) := by decide +kernel
theorem dX6_pairs_78 : decode cX6_pairs 78 = .ok (.i2l, 1) := by decide +kernel
theorem dX6_pairs_79 : decode cX6_pairs 79 = .ok (.lconst 0, 1) := by decide +kernel
theorem dX6_pairs_80 : decode cX6_pairs 80 = .ok (.ldc2_w 182, 3) := by decide +kernel
theorem dX6_pairs_83 : decode cX6_pairs 83 = .ok (.invokestatic 69, 3) := by decide +kernel
theorem dX6_pairs_86 : decode cX6_pairs 86 = .ok (.ifCond .ne 5, 3) := by decide +kernel
theorem dX6_pairs_89 : decode cX6_pairs 89 = .ok (.iconst 3, 1) := by decide +kernel
theorem dX6_pairs_90 : decode cX6_pairs 90 = .ok (.ireturn, 1) := by decide +kernel
theorem dX6_pairs_91 : decode cX6_pairs 91 = .ok (.iinc 2 2, 3) := by decide +kernel
theorem dX6_pairs_94 : decode cX6_pairs 94 = .ok (.goto (-56), 3) := by decide +kernel
theorem dX6_pairs_97 : decode cX6_pairs 97 = .ok (.iconst 0, 1) := by decide +kernel
theorem dX6_pairs_98 : decode cX6_pairs 98 = .ok (.ireturn, 1) := by decide +kernel
theorem dX6_comesSo_0 : decode cX6_comesSo 0 = .ok (.iconst 1, 1) := by decide +kernel
theorem dX6_comesSo_1 : decode cX6_comesSo 1 = .ok (.istore 4, 2) := by decide +kernel
theorem dX6_comesSo_3 : decode cX6_comesSo 3 = .ok (.iconst 0, 1) := by decide +kernel
theorem dX6_comesSo_4 : decode cX6_comesSo 4 = .ok (.istore 5, 2) := by decide +kernel
theorem dX6_comesSo_6 : decode cX6_comesSo 6 = .ok (.iload 5, 2) := by decide +kernel
theorem dX6_comesSo_8 : decode cX6_comesSo 8 = .ok (.aload_n 0, 1) := by decide +kernel
theorem dX6_comesSo_9 : decode cX6_comesSo 9 = .ok (.getfield 7, 3) := by decide +kernel
theorem dX6_comesSo_12 : decode cX6_comesSo 12 = .ok (.iload_n 3, 1) := by decide +kernel
theorem dX6_comesSo_13 : decode cX6_comesSo 13 = .ok (.iaload, 1) := by decide +kernel
theorem dX6_comesSo_14 : decode cX6_comesSo 14 = .ok (.if_icmp .ge 71, 3) := by decide +kernel
theorem dX6_comesSo_17 : decode cX6_comesSo 17 = .ok (.iload 4, 2) := by decide +kernel
theorem dX6_comesSo_19 : decode cX6_comesSo 19 = .ok (.ifCond .eq 57, 3) := by decide +kernel
theorem dX6_comesSo_22 : decode cX6_comesSo 22 = .ok (.aload_n 0, 1) := by decide +kernel
theorem dX6_comesSo_23 : decode cX6_comesSo 23 = .ok (.getfield 28, 3) := by decide +kernel
theorem dX6_comesSo_26 : decode cX6_comesSo 26 = .ok (.bipush 6, 2) := by decide +kernel
theorem dX6_comesSo_28 : decode cX6_comesSo 28 = .ok (.iconst 3, 1) := by decide +kernel
theorem dX6_comesSo_29 : decode cX6_comesSo 29 = .ok (.iload_n 1, 1) := by decide +kernel
theorem dX6_comesSo_30 : decode cX6_comesSo 30 = .ok (.imul, 1) := by decide +kernel
theorem dX6_comesSo_31 : decode cX6_comesSo 31 = .ok (.iadd, 1) := by decide +kernel
theorem dX6_comesSo_32 : decode cX6_comesSo 32 = .ok (.iload_n 2, 1) := by decide +kernel
theorem dX6_comesSo_33 : decode cX6_comesSo 33 = .ok (.aload_n 0, 1) := by decide +kernel
theorem dX6_comesSo_34 : decode cX6_comesSo 34 = .ok (.getfield 13, 3) := by decide +kernel
theorem dX6_comesSo_37 : decode cX6_comesSo 37 = .ok (.bipush 40, 2) := by decide +kernel
theorem dX6_comesSo_39 : decode cX6_comesSo 39 = .ok (.iload_n 3, 1) := by decide +kernel
theorem dX6_comesSo_40 : decode cX6_comesSo 40 = .ok (.imul, 1) := by decide +kernel
theorem dX6_comesSo_41 : decode cX6_comesSo 41 = .ok (.iload 5, 2) := by decide +kernel
theorem dX6_comesSo_43 : decode cX6_comesSo 43 = .ok (.iadd, 1) := by decide +kernel
theorem dX6_comesSo_44 : decode cX6_comesSo 44 = .ok (.iaload, 1) := by decide +kernel
theorem dX6_comesSo_45 : decode cX6_comesSo 45 = .ok (.aload_n 0, 1) := by decide +kernel
theorem dX6_comesSo_46 : decode cX6_comesSo 46 = .ok (.getfield 25, 3) := by decide +kernel
theorem dX6_comesSo_49 : decode cX6_comesSo 49 = .ok (.bipush 24, 2) := by decide +kernel
theorem dX6_comesSo_51 : decode cX6_comesSo 51 = .ok (.iaload, 1) := by decide +kernel
theorem dX6_comesSo_52 : decode cX6_comesSo 52 = .ok (.invokestatic 118, 3) := by decide +kernel
theorem dX6_comesSo_55 : decode cX6_comesSo 55 = .ok (.aload_n 0, 1) := by decide +kernel
theorem dX6_comesSo_56 : decode cX6_comesSo 56 = .ok (.getfield 13, 3) := by decide +kernel
theorem dX6_comesSo_59 : decode cX6_comesSo 59 = .ok (.bipush 40, 2) := by decide +kernel
theorem dX6_comesSo_61 : decode cX6_comesSo 61 = .ok (.iload_n 3, 1) := by decide +kernel
theorem dX6_comesSo_62 : decode cX6_comesSo 62 = .ok (.imul, 1) := by decide +kernel
theorem dX6_comesSo_63 : decode cX6_comesSo 63 = .ok (.iload 5, 2) := by decide +kernel
theorem dX6_comesSo_65 : decode cX6_comesSo 65 = .ok (.iadd, 1) := by decide +kernel
theorem dX6_comesSo_66 : decode cX6_comesSo 66 = .ok (.iconst 1, 1) := by decide +kernel
theorem dX6_comesSo_67 : decode cX6_comesSo 67 = .ok (.iadd, 1) := by decide +kernel
theorem dX6_comesSo_68 : decode cX6_comesSo 68 = .ok (.iaload, 1) := by decide +kernel
theorem dX6_comesSo_69 : decode cX6_comesSo 69 = .ok (.if_icmp .ne 7, 3) := by decide +kernel
theorem dX6_comesSo_72 : decode cX6_comesSo 72 = .ok (.iconst 1, 1) := by decide +kernel
theorem dX6_comesSo_73 : decode cX6_comesSo 73 = .ok (.goto 4, 3) := by decide +kernel
theorem dX6_comesSo_76 : decode cX6_comesSo 76 = .ok (.iconst 0, 1) := by decide +kernel
theorem dX6_comesSo_77 : decode cX6_comesSo 77 = .ok (.istore 4, 2) := by decide +kernel
theorem dX6_comesSo_79 : decode cX6_comesSo 79 = .ok (.iinc 5 2, 3) := by decide +kernel
theorem dX6_comesSo_82 : decode cX6_comesSo 82 = .ok (.goto (-76), 3) := by decide +kernel
theorem dX6_comesSo_85 : decode cX6_comesSo 85 = .ok (.iload 4, 2) := by decide +kernel
theorem dX6_comesSo_87 : decode cX6_comesSo 87 = .ok (.ireturn, 1) := by decide +kernel
theorem dX6_kindsBy_0 : decode cX6_kindsBy 0 = .ok (.aload_n 0, 1) := by decide +kernel
theorem dX6_kindsBy_1 : decode cX6_kindsBy 1 = .ok (.invokevirtual 167, 3) := by decide +kernel
theorem dX6_kindsBy_4 : decode cX6_kindsBy 4 = .ok (.iconst 0, 1) := by decide +kernel
theorem dX6_kindsBy_5 : decode cX6_kindsBy 5 = .ok (.istore_n 3, 1) := by decide +kernel
theorem dX6_kindsBy_6 : decode cX6_kindsBy 6 = .ok (.iconst 0, 1) := by decide +kernel
theorem dX6_kindsBy_7 : decode cX6_kindsBy 7 = .ok (.istore 4, 2) := by decide +kernel
theorem dX6_kindsBy_9 : decode cX6_kindsBy 9 = .ok (.iload 4, 2) := by decide +kernel
theorem dX6_kindsBy_11 : decode cX6_kindsBy 11 = .ok (.bipush 6, 2) := by decide +kernel
theorem dX6_kindsBy_13 : decode cX6_kindsBy 13 = .ok (.if_icmp .ge 31, 3) := by decide +kernel
theorem dX6_kindsBy_16 : decode cX6_kindsBy 16 = .ok (.iload_n 3, 1) := by decide +kernel
theorem dX6_kindsBy_17 : decode cX6_kindsBy 17 = .ok (.aload_n 0, 1) := by decide +kernel
theorem dX6_kindsBy_18 : decode cX6_kindsBy 18 = .ok (.iload_n 1, 1) := by decide +kernel
theorem dX6_kindsBy_19 : decode cX6_kindsBy 19 = .ok (.iload 4, 2) := by decide +kernel
theorem dX6_kindsBy_21 : decode cX6_kindsBy 21 = .ok (.iload_n 2, 1) := by decide +kernel
theorem dX6_kindsBy_22 : decode cX6_kindsBy 22 = .ok (.invokevirtual 184, 3) := by decide +kernel
theorem dX6_kindsBy_25 : decode cX6_kindsBy 25 = .ok (.ifCond .eq 10, 3) := by decide +kernel
theorem dX6_kindsBy_28 : decode cX6_kindsBy 28 = .ok (.iconst 1, 1) := by decide +kernel
theorem dX6_kindsBy_29 : decode cX6_kindsBy 29 = .ok (.iload 4, 2) := by decide +kernel
theorem dX6_kindsBy_31 : decode cX6_kindsBy 31 = .ok (.ishl, 1) := by decide +kernel
theorem dX6_kindsBy_32 : decode cX6_kindsBy 32 = .ok (.goto 4, 3) := by decide +kernel
theorem dX6_kindsBy_35 : decode cX6_kindsBy 35 = .ok (.iconst 0, 1) := by decide +kernel
theorem dX6_kindsBy_36 : decode cX6_kindsBy 36 = .ok (.ior, 1) := by decide +kernel
theorem dX6_kindsBy_37 : decode cX6_kindsBy 37 = .ok (.istore_n 3, 1) := by decide +kernel
theorem dX6_kindsBy_38 : decode cX6_kindsBy 38 = .ok (.iinc 4 1, 3) := by decide +kernel
theorem dX6_kindsBy_41 : decode cX6_kindsBy 41 = .ok (.goto (-32), 3) := by decide +kernel
theorem dX6_kindsBy_44 : decode cX6_kindsBy 44 = .ok (.iload_n 3, 1) := by decide +kernel
theorem dX6_kindsBy_45 : decode cX6_kindsBy 45 = .ok (.ireturn, 1) := by decide +kernel
theorem dX6_kinds_0 : decode cX6_kinds 0 = .ok (.aload_n 0, 1) := by decide +kernel
theorem dX6_kinds_1 : decode cX6_kinds 1 = .ok (.iload_n 1, 1) := by decide +kernel
theorem dX6_kinds_2 : decode cX6_kinds 2 = .ok (.invokevirtual 134, 3) := by decide +kernel
theorem dX6_kinds_5 : decode cX6_kinds 5 = .ok (.ifCond .eq 10, 3) := by decide +kernel
theorem dX6_kinds_8 : decode cX6_kinds 8 = .ok (.iload_n 2, 1) := by decide +kernel
theorem dX6_kinds_9 : decode cX6_kinds 9 = .ok (.invokestatic 75, 3) := by decide +kernel
theorem dX6_kinds_12 : decode cX6_kinds 12 = .ok (.ifCond .ne 5, 3) := by decide +kernel
theorem dX6_kinds_15 : decode cX6_kinds 15 = .ok (.iconst (-1), 1) := by decide +kernel
theorem dX6_kinds_16 : decode cX6_kinds 16 = .ok (.ireturn, 1) := by decide +kernel
theorem dX6_kinds_17 : decode cX6_kinds 17 = .ok (.aload_n 0, 1) := by decide +kernel
theorem dX6_kinds_18 : decode cX6_kinds 18 = .ok (.iload_n 2, 1) := by decide +kernel
theorem dX6_kinds_19 : decode cX6_kinds 19 = .ok (.invokevirtual 188, 3) := by decide +kernel
theorem dX6_kinds_22 : decode cX6_kinds 22 = .ok (.istore_n 3, 1) := by decide +kernel
theorem dX6_kinds_23 : decode cX6_kinds 23 = .ok (.iload_n 3, 1) := by decide +kernel
theorem dX6_kinds_24 : decode cX6_kinds 24 = .ok (.ifCond .le 11, 3) := by decide +kernel
theorem dX6_kinds_27 : decode cX6_kinds 27 = .ok (.aload_n 0, 1) := by decide +kernel
theorem dX6_kinds_28 : decode cX6_kinds 28 = .ok (.iload_n 3, 1) := by decide +kernel
theorem dX6_kinds_29 : decode cX6_kinds 29 = .ok (.invokevirtual 79, 3) := by decide +kernel
theorem dX6_kinds_32 : decode cX6_kinds 32 = .ok (.goto 9, 3) := by decide +kernel
theorem dX6_kinds_35 : decode cX6_kinds 35 = .ok (.aload_n 0, 1) := by decide +kernel
theorem dX6_kinds_36 : decode cX6_kinds 36 = .ok (.iload_n 1, 1) := by decide +kernel
theorem dX6_kinds_37 : decode cX6_kinds 37 = .ok (.iload_n 2, 1) := by decide +kernel
theorem dX6_kinds_38 : decode cX6_kinds 38 = .ok (.invokevirtual 191, 3) := by decide +kernel
theorem dX6_kinds_41 : decode cX6_kinds 41 = .ok (.ireturn, 1) := by decide +kernel
theorem dX6_figures_0 : decode cX6_figures 0 = .ok (.aload_n 0, 1) := by decide +kernel
theorem dX6_figures_1 : decode cX6_figures 1 = .ok (.iload_n 1, 1) := by decide +kernel
theorem dX6_figures_2 : decode cX6_figures 2 = .ok (.invokevirtual 134, 3) := by decide +kernel
theorem dX6_figures_5 : decode cX6_figures 5 = .ok (.ifCond .eq 17, 3) := by decide +kernel
theorem dX6_figures_8 : decode cX6_figures 8 = .ok (.iload_n 2, 1) := by decide +kernel
theorem dX6_figures_9 : decode cX6_figures 9 = .ok (.invokestatic 143, 3) := by decide +kernel
theorem dX6_figures_12 : decode cX6_figures 12 = .ok (.ifCond .eq 10, 3) := by decide +kernel
theorem dX6_figures_15 : decode cX6_figures 15 = .ok (.iload_n 3, 1) := by decide +kernel
theorem dX6_figures_16 : decode cX6_figures 16 = .ok (.invokestatic 75, 3) := by decide +kernel
theorem dX6_figures_19 : decode cX6_figures 19 = .ok (.ifCond .ne 5, 3) := by decide +kernel
theorem dX6_figures_22 : decode cX6_figures 22 = .ok (.iconst (-1), 1) := by decide +kernel
theorem dX6_figures_23 : decode cX6_figures 23 = .ok (.ireturn, 1) := by decide +kernel
theorem dX6_figures_24 : decode cX6_figures 24 = .ok (.aload_n 0, 1) := by decide +kernel
theorem dX6_figures_25 : decode cX6_figures 25 = .ok (.iload_n 3, 1) := by decide +kernel
theorem dX6_figures_26 : decode cX6_figures 26 = .ok (.invokevirtual 188, 3) := by decide +kernel
theorem dX6_figures_29 : decode cX6_figures 29 = .ok (.istore 4, 2) := by decide +kernel
theorem dX6_figures_31 : decode cX6_figures 31 = .ok (.iload 4, 2) := by decide +kernel
theorem dX6_figures_33 : decode cX6_figures 33 = .ok (.ifCond .le 10, 3) := by decide +kernel
theorem dX6_figures_36 : decode cX6_figures 36 = .ok (.aload_n 0, 1) := by decide +kernel
theorem dX6_figures_37 : decode cX6_figures 37 = .ok (.iload 4, 2) := by decide +kernel
theorem dX6_figures_39 : decode cX6_figures 39 = .ok (.invokevirtual 79, 3) := by decide +kernel
theorem dX6_figures_42 : decode cX6_figures 42 = .ok (.ireturn, 1) := by decide +kernel
theorem dX6_figures_43 : decode cX6_figures 43 = .ok (.aload_n 0, 1) := by decide +kernel
theorem dX6_figures_44 : decode cX6_figures 44 = .ok (.invokevirtual 167, 3) := by decide +kernel
theorem dX6_figures_47 : decode cX6_figures 47 = .ok (.iconst 0, 1) := by decide +kernel
theorem dX6_figures_48 : decode cX6_figures 48 = .ok (.istore 5, 2) := by decide +kernel
theorem dX6_figures_50 : decode cX6_figures 50 = .ok (.iconst 0, 1) := by decide +kernel
theorem dX6_figures_51 : decode cX6_figures 51 = .ok (.istore 6, 2) := by decide +kernel
theorem dX6_figures_53 : decode cX6_figures 53 = .ok (.iload 6, 2) := by decide +kernel
theorem dX6_figures_55 : decode cX6_figures 55 = .ok (.bipush 10, 2) := by decide +kernel
theorem dX6_figures_57 : decode cX6_figures 57 = .ok (.if_icmp .ge 52, 3) := by decide +kernel
theorem dX6_figures_60 : decode cX6_figures 60 = .ok (.aload_n 0, 1) := by decide +kernel
theorem dX6_figures_61 : decode cX6_figures 61 = .ok (.getfield 28, 3) := by decide +kernel
theorem dX6_figures_64 : decode cX6_figures 64 = .ok (.bipush 6, 2) := by decide +kernel
theorem dX6_figures_66 : decode cX6_figures 66 = .ok (.iconst 3, 1) := by decide +kernel
theorem dX6_figures_67 : decode cX6_figures 67 = .ok (.iload_n 1, 1) := by decide +kernel
theorem dX6_figures_68 : decode cX6_figures 68 = .ok (.imul, 1) := by decide +kernel
theorem dX6_figures_69 : decode cX6_figures 69 = .ok (.iadd, 1) := by decide +kernel
theorem dX6_figures_70 : decode cX6_figures 70 = .ok (.iload_n 2, 1) := by decide +kernel
theorem dX6_figures_71 : decode cX6_figures 71 = .ok (.iadd, 1) := by decide +kernel
theorem dX6_figures_72 : decode cX6_figures 72 = .ok (.iload 6, 2) := by decide +kernel
theorem dX6_figures_74 : decode cX6_figures 74 = .ok (.iastore, 1) := by decide +kernel
theorem dX6_figures_75 : decode cX6_figures 75 = .ok (.iload 5, 2) := by decide +kernel
theorem dX6_figures_77 : decode cX6_figures 77 = .ok (.aload_n 0, 1) := by decide +kernel
theorem dX6_figures_78 : decode cX6_figures 78 = .ok (.iload_n 1, 1) := by decide +kernel
theorem dX6_figures_79 : decode cX6_figures 79 = .ok (.aload_n 0, 1) := by decide +kernel
theorem dX6_figures_80 : decode cX6_figures 80 = .ok (.getfield 22, 3) := by decide +kernel
theorem dX6_figures_83 : decode cX6_figures 83 = .ok (.iload_n 1, 1) := by decide +kernel
theorem dX6_figures_84 : decode cX6_figures 84 = .ok (.iaload, 1) := by decide +kernel
theorem dX6_figures_85 : decode cX6_figures 85 = .ok (.iload_n 3, 1) := by decide +kernel
theorem dX6_figures_86 : decode cX6_figures 86 = .ok (.invokevirtual 184, 3) := by decide +kernel
theorem dX6_figures_89 : decode cX6_figures 89 = .ok (.ifCond .eq 10, 3) := by decide +kernel
theorem dX6_figures_92 : decode cX6_figures 92 = .ok (.iconst 1, 1) := by decide +kernel
theorem dX6_figures_93 : decode cX6_figures 93 = .ok (.iload 6, 2) := by decide +kernel
theorem dX6_figures_95 : decode cX6_figures 95 = .ok (.ishl, 1) := by decide +kernel
theorem dX6_figures_96 : decode cX6_figures 96 = .ok (.goto 4, 3) := by decide +kernel
theorem dX6_figures_99 : decode cX6_figures 99 = .ok (.iconst 0, 1) := by decide +kernel
theorem dX6_figures_100 : decode cX6_figures 100 = .ok (.ior, 1) := by decide +kernel
theorem dX6_figures_101 : decode cX6_figures 101 = .ok (.istore 5, 2) := by decide +kernel
theorem dX6_figures_103 : decode cX6_figures 103 = .ok (.iinc 6 1, 3) := by decide +kernel
theorem dX6_figures_106 : decode cX6_figures 106 = .ok (.goto (-53), 3) := by decide +kernel
theorem dX6_figures_109 : decode cX6_figures 109 = .ok (.iload 5, 2) := by decide +kernel
theorem dX6_figures_111 : decode cX6_figures 111 = .ok (.ireturn, 1) := by decide +kernel
theorem dX6_next_0 : decode cX6_next 0 = .ok (.aload_n 0, 1) := by decide +kernel
theorem dX6_next_1 : decode cX6_next 1 = .ok (.iload_n 1, 1) := by decide +kernel
theorem dX6_next_2 : decode cX6_next 2 = .ok (.invokevirtual 134, 3) := by decide +kernel
theorem dX6_next_5 : decode cX6_next 5 = .ok (.ifCond .eq 10, 3) := by decide +kernel
theorem dX6_next_8 : decode cX6_next 8 = .ok (.iload_n 2, 1) := by decide +kernel
theorem dX6_next_9 : decode cX6_next 9 = .ok (.invokestatic 75, 3) := by decide +kernel
theorem dX6_next_12 : decode cX6_next 12 = .ok (.ifCond .ne 5, 3) := by decide +kernel
theorem dX6_next_15 : decode cX6_next 15 = .ok (.iconst (-1), 1) := by decide +kernel
theorem dX6_next_16 : decode cX6_next 16 = .ok (.ireturn, 1) := by decide +kernel
theorem dX6_next_17 : decode cX6_next 17 = .ok (.aload_n 0, 1) := by decide +kernel
theorem dX6_next_18 : decode cX6_next 18 = .ok (.iload_n 2, 1) := by decide +kernel
theorem dX6_next_19 : decode cX6_next 19 = .ok (.invokevirtual 188, 3) := by decide +kernel
theorem dX6_next_22 : decode cX6_next 22 = .ok (.istore_n 3, 1) := by decide +kernel
theorem dX6_next_23 : decode cX6_next 23 = .ok (.iload_n 3, 1) := by decide +kernel
theorem dX6_next_24 : decode cX6_next 24 = .ok (.ifCond .le 9, 3) := by decide +kernel
theorem dX6_next_27 : decode cX6_next 27 = .ok (.aload_n 0, 1) := by decide +kernel
theorem dX6_next_28 : decode cX6_next 28 = .ok (.iload_n 3, 1) := by decide +kernel
theorem dX6_next_29 : decode cX6_next 29 = .ok (.invokevirtual 79, 3) := by decide +kernel
theorem dX6_next_32 : decode cX6_next 32 = .ok (.ireturn, 1) := by decide +kernel
theorem dX6_next_33 : decode cX6_next 33 = .ok (.aload_n 0, 1) := by decide +kernel
theorem dX6_next_34 : decode cX6_next 34 = .ok (.iload_n 1, 1) := by decide +kernel
theorem dX6_next_35 : decode cX6_next 35 = .ok (.iload_n 2, 1) := by decide +kernel
theorem dX6_next_36 : decode cX6_next 36 = .ok (.invokevirtual 191, 3) := by decide +kernel
theorem dX6_next_39 : decode cX6_next 39 = .ok (.istore 4, 2) := by decide +kernel
theorem dX6_next_41 : decode cX6_next 41 = .ok (.iload 4, 2) := by decide +kernel
theorem dX6_next_43 : decode cX6_next 43 = .ok (.ifCond .ne 6, 3) := by decide +kernel
theorem dX6_next_46 : decode cX6_next 46 = .ok (.bipush (-9), 2) := by decide +kernel
theorem dX6_next_48 : decode cX6_next 48 = .ok (.ireturn, 1) := by decide +kernel
theorem dX6_next_49 : decode cX6_next 49 = .ok (.bipush (-9), 2) := by decide +kernel
theorem dX6_next_51 : decode cX6_next 51 = .ok (.istore 5, 2) := by decide +kernel
theorem dX6_next_53 : decode cX6_next 53 = .ok (.bipush 7, 2) := by decide +kernel
theorem dX6_next_55 : decode cX6_next 55 = .ok (.istore 6, 2) := by decide +kernel
theorem dX6_next_57 : decode cX6_next 57 = .ok (.iconst 0, 1) := by decide +kernel
theorem dX6_next_58 : decode cX6_next 58 = .ok (.istore 7, 2) := by decide +kernel
theorem dX6_next_60 : decode cX6_next 60 = .ok (.iload 7, 2) := by decide +kernel
theorem dX6_next_62 : decode cX6_next 62 = .ok (.iconst 3, 1) := by decide +kernel
theorem dX6_next_63 : decode cX6_next 63 = .ok (.if_icmp .ge 137, 3) := by decide +kernel
theorem dX6_next_66 : decode cX6_next 66 = .ok (.iconst 0, 1) := by decide +kernel
theorem dX6_next_67 : decode cX6_next 67 = .ok (.istore 8, 2) := by decide +kernel
theorem dX6_next_69 : decode cX6_next 69 = .ok (.iconst 0, 1) := by decide +kernel
theorem dX6_next_70 : decode cX6_next 70 = .ok (.istore 9, 2) := by decide +kernel
theorem dX6_next_72 : decode cX6_next 72 = .ok (.iload 9, 2) := by decide +kernel
theorem dX6_next_74 : decode cX6_next 74 = .ok (.bipush 11, 2) := by decide +kernel
theorem dX6_next_76 : decode cX6_next 76 = .ok (.if_icmp .ge 86, 3) := by decide +kernel
theorem dX6_next_79 : decode cX6_next 79 = .ok (.iconst 0, 1) := by decide +kernel
theorem dX6_next_80 : decode cX6_next 80 = .ok (.istore 10, 2) := by decide +kernel
theorem dX6_next_82 : decode cX6_next 82 = .ok (.iconst 0, 1) := by decide +kernel
theorem dX6_next_83 : decode cX6_next 83 = .ok (.istore 11, 2) := by decide +kernel
theorem dX6_next_85 : decode cX6_next 85 = .ok (.iload 11, 2) := by decide +kernel
theorem dX6_next_87 : decode cX6_next 87 = .ok (.bipush 6, 2) := by decide +kernel
theorem dX6_next_89 : decode cX6_next 89 = .ok (.if_icmp .ge 58, 3) := by decide +kernel
theorem dX6_next_92 : decode cX6_next 92 = .ok (.iload 10, 2) := by decide +kernel
theorem dX6_next_94 : decode cX6_next 94 = .ok (.iload 4, 2) := by decide +kernel
theorem dX6_next_96 : decode cX6_next 96 = .ok (.iload 11, 2) := by decide +kernel
theorem dX6_next_98 : decode cX6_next 98 = .ok (.invokestatic 122, 3) := by decide +kernel
theorem dX6_next_101 : decode cX6_next 101 = .ok (.ifCond .eq 36, 3) := by decide +kernel
theorem dX6_next_104 : decode cX6_next 104 = .ok (.aload_n 0, 1) := by decide +kernel
theorem dX6_next_105 : decode cX6_next 105 = .ok (.getfield 25, 3) := by decide +kernel
theorem dX6_next_108 : decode cX6_next 108 = .ok (.bipush 6, 2) := by decide +kernel
theorem dX6_next_110 : decode cX6_next 110 = .ok (.iconst 3, 1) := by decide +kernel
theorem dX6_next_111 : decode cX6_next 111 = .ok (.iload_n 1, 1) := by decide +kernel
theorem dX6_next_112 : decode cX6_next 112 = .ok (.imul, 1) := by decide +kernel
theorem dX6_next_113 : decode cX6_next 113 = .ok (.iadd, 1) := by decide +kernel
theorem dX6_next_114 : decode cX6_next 114 = .ok (.iload 11, 2) := by decide +kernel
theorem dX6_next_116 : decode cX6_next 116 = .ok (.iload 7, 2) := by decide +kernel
theorem dX6_next_118 : decode cX6_next 118 = .ok (.aload_n 0, 1) := by decide +kernel
theorem dX6_next_119 : decode cX6_next 119 = .ok (.getfield 25, 3) := by decide +kernel
theorem dX6_next_122 : decode cX6_next 122 = .ok (.bipush 24, 2) := by decide +kernel
theorem dX6_next_124 : decode cX6_next 124 = .ok (.iaload, 1) := by decide +kernel
theorem dX6_next_125 : decode cX6_next 125 = .ok (.invokestatic 118, 3) := by decide +kernel
theorem dX6_next_128 : decode cX6_next 128 = .ok (.iload 9, 2) := by decide +kernel
theorem dX6_next_130 : decode cX6_next 130 = .ok (.if_icmp .ne 7, 3) := by decide +kernel
theorem dX6_next_133 : decode cX6_next 133 = .ok (.iconst 1, 1) := by decide +kernel
theorem dX6_next_134 : decode cX6_next 134 = .ok (.goto 4, 3) := by decide +kernel
theorem dX6_next_137 : decode cX6_next 137 = .ok (.iconst 0, 1) := by decide +kernel
theorem dX6_next_138 : decode cX6_next 138 = .ok (.iadd, 1) := by decide +kernel
theorem dX6_next_139 : decode cX6_next 139 = .ok (.istore 10, 2) := by decide +kernel
theorem dX6_next_141 : decode cX6_next 141 = .ok (.iinc 11 1, 3) := by decide +kernel
theorem dX6_next_144 : decode cX6_next 144 = .ok (.goto (-59), 3) := by decide +kernel
theorem dX6_next_147 : decode cX6_next 147 = .ok (.iload 8, 2) := by decide +kernel
theorem dX6_next_149 : decode cX6_next 149 = .ok (.iload 10, 2) := by decide +kernel
theorem dX6_next_151 : decode cX6_next 151 = .ok (.invokestatic 114, 3) := by decide +kernel
theorem dX6_next_154 : decode cX6_next 154 = .ok (.istore 8, 2) := by decide +kernel
theorem dX6_next_156 : decode cX6_next 156 = .ok (.iinc 9 1, 3) := by decide +kernel
theorem dX6_next_159 : decode cX6_next 159 = .ok (.goto (-87), 3) := by decide +kernel
theorem dX6_next_162 : decode cX6_next 162 = .ok (.iload 8, 2) := by decide +kernel
theorem dX6_next_164 : decode cX6_next 164 = .ok (.iload 6, 2) := by decide +kernel
theorem dX6_next_166 : decode cX6_next 166 = .ok (.if_icmp .ge 8, 3) := by decide +kernel
theorem dX6_next_169 : decode cX6_next 169 = .ok (.iload 7, 2) := by decide +kernel
theorem dX6_next_171 : decode cX6_next 171 = .ok (.goto 5, 3) := by decide +kernel
theorem dX6_next_174 : decode cX6_next 174 = .ok (.iload 5, 2) := by decide +kernel
theorem dX6_next_176 : decode cX6_next 176 = .ok (.istore 5, 2) := by decide +kernel
theorem dX6_next_178 : decode cX6_next 178 = .ok (.iload 8, 2) := by decide +kernel
theorem dX6_next_180 : decode cX6_next 180 = .ok (.iload 6, 2) := by decide +kernel
theorem dX6_next_182 : decode cX6_next 182 = .ok (.if_icmp .ge 8, 3) := by decide +kernel
theorem dX6_next_185 : decode cX6_next 185 = .ok (.iload 8, 2) := by decide +kernel
theorem dX6_next_187 : decode cX6_next 187 = .ok (.goto 5, 3) := by decide +kernel
theorem dX6_next_190 : decode cX6_next 190 = .ok (.iload 6, 2) := by decide +kernel
theorem dX6_next_192 : decode cX6_next 192 = .ok (.istore 6, 2) := by decide +kernel
theorem dX6_next_194 : decode cX6_next 194 = .ok (.iinc 7 1, 3) := by decide +kernel
theorem dX6_next_197 : decode cX6_next 197 = .ok (.goto (-137), 3) := by decide +kernel
theorem dX6_next_200 : decode cX6_next 200 = .ok (.aload_n 0, 1) := by decide +kernel
theorem dX6_next_201 : decode cX6_next 201 = .ok (.iload 5, 2) := by decide +kernel
theorem dX6_next_203 : decode cX6_next 203 = .ok (.iload 6, 2) := by decide +kernel
theorem dX6_next_205 : decode cX6_next 205 = .ok (.invokevirtual 194, 3) := by decide +kernel
theorem dX6_next_208 : decode cX6_next 208 = .ok (.ireturn, 1) := by decide +kernel
theorem dX6_comesTo_0 : decode cX6_comesTo 0 = .ok (.iconst 0, 1) := by decide +kernel
end
section
theorem dX6_comesTo_1 : decode cX6_comesTo 1 = .ok (.istore 4, 2) := by decide +kernel
theorem dX6_comesTo_3 : decode cX6_comesTo 3 = .ok (.iconst 0, 1) := by decide +kernel
theorem dX6_comesTo_4 : decode cX6_comesTo 4 = .ok (.istore 5, 2) := by decide +kernel
theorem dX6_comesTo_6 : decode cX6_comesTo 6 = .ok (.iload 5, 2) := by decide +kernel
theorem dX6_comesTo_8 : decode cX6_comesTo 8 = .ok (.aload_n 0, 1) := by decide +kernel
theorem dX6_comesTo_9 : decode cX6_comesTo 9 = .ok (.getfield 102, 3) := by decide +kernel
theorem dX6_comesTo_12 : decode cX6_comesTo 12 = .ok (.if_icmp .ge 41, 3) := by decide +kernel
theorem dX6_comesTo_15 : decode cX6_comesTo 15 = .ok (.iload 4, 2) := by decide +kernel
theorem dX6_comesTo_17 : decode cX6_comesTo 17 = .ok (.iload_n 1, 1) := by decide +kernel
theorem dX6_comesTo_18 : decode cX6_comesTo 18 = .ok (.iload 5, 2) := by decide +kernel
theorem dX6_comesTo_20 : decode cX6_comesTo 20 = .ok (.invokestatic 122, 3) := by decide +kernel
theorem dX6_comesTo_23 : decode cX6_comesTo 23 = .ok (.ifCond .eq 20, 3) := by decide +kernel
theorem dX6_comesTo_26 : decode cX6_comesTo 26 = .ok (.aload_n 0, 1) := by decide +kernel
theorem dX6_comesTo_27 : decode cX6_comesTo 27 = .ok (.getfield 25, 3) := by decide +kernel
theorem dX6_comesTo_30 : decode cX6_comesTo 30 = .ok (.bipush 6, 2) := by decide +kernel
theorem dX6_comesTo_32 : decode cX6_comesTo 32 = .ok (.iconst 3, 1) := by decide +kernel
theorem dX6_comesTo_33 : decode cX6_comesTo 33 = .ok (.iload 5, 2) := by decide +kernel
theorem dX6_comesTo_35 : decode cX6_comesTo 35 = .ok (.imul, 1) := by decide +kernel
theorem dX6_comesTo_36 : decode cX6_comesTo 36 = .ok (.iadd, 1) := by decide +kernel
theorem dX6_comesTo_37 : decode cX6_comesTo 37 = .ok (.iload_n 2, 1) := by decide +kernel
theorem dX6_comesTo_38 : decode cX6_comesTo 38 = .ok (.iadd, 1) := by decide +kernel
theorem dX6_comesTo_39 : decode cX6_comesTo 39 = .ok (.iaload, 1) := by decide +kernel
theorem dX6_comesTo_40 : decode cX6_comesTo 40 = .ok (.goto 4, 3) := by decide +kernel
theorem dX6_comesTo_43 : decode cX6_comesTo 43 = .ok (.iconst 0, 1) := by decide +kernel
theorem dX6_comesTo_44 : decode cX6_comesTo 44 = .ok (.iadd, 1) := by decide +kernel
theorem dX6_comesTo_45 : decode cX6_comesTo 45 = .ok (.istore 4, 2) := by decide +kernel
theorem dX6_comesTo_47 : decode cX6_comesTo 47 = .ok (.iinc 5 1, 3) := by decide +kernel
theorem dX6_comesTo_50 : decode cX6_comesTo 50 = .ok (.goto (-44), 3) := by decide +kernel
theorem dX6_comesTo_53 : decode cX6_comesTo 53 = .ok (.iload 4, 2) := by decide +kernel
theorem dX6_comesTo_55 : decode cX6_comesTo 55 = .ok (.iload_n 3, 1) := by decide +kernel
theorem dX6_comesTo_56 : decode cX6_comesTo 56 = .ok (.if_icmp .ne 7, 3) := by decide +kernel
theorem dX6_comesTo_59 : decode cX6_comesTo 59 = .ok (.iconst 1, 1) := by decide +kernel
theorem dX6_comesTo_60 : decode cX6_comesTo 60 = .ok (.goto 4, 3) := by decide +kernel
theorem dX6_comesTo_63 : decode cX6_comesTo 63 = .ok (.iconst 0, 1) := by decide +kernel
theorem dX6_comesTo_64 : decode cX6_comesTo 64 = .ok (.ireturn, 1) := by decide +kernel
theorem dX6_sets_0 : decode cX6_sets 0 = .ok (.iload_n 1, 1) := by decide +kernel
theorem dX6_sets_1 : decode cX6_sets 1 = .ok (.invokestatic 143, 3) := by decide +kernel
theorem dX6_sets_4 : decode cX6_sets 4 = .ok (.ifCond .eq 15, 3) := by decide +kernel
theorem dX6_sets_7 : decode cX6_sets 7 = .ok (.iload_n 2, 1) := by decide +kernel
theorem dX6_sets_8 : decode cX6_sets 8 = .ok (.i2l, 1) := by decide +kernel
theorem dX6_sets_9 : decode cX6_sets 9 = .ok (.lconst 0, 1) := by decide +kernel
theorem dX6_sets_10 : decode cX6_sets 10 = .ok (.ldc2_w 197, 3) := by decide +kernel
theorem dX6_sets_13 : decode cX6_sets 13 = .ok (.invokestatic 69, 3) := by decide +kernel
theorem dX6_sets_16 : decode cX6_sets 16 = .ok (.ifCond .ne 5, 3) := by decide +kernel
theorem dX6_sets_19 : decode cX6_sets 19 = .ok (.iconst (-1), 1) := by decide +kernel
theorem dX6_sets_20 : decode cX6_sets 20 = .ok (.ireturn, 1) := by decide +kernel
theorem dX6_sets_21 : decode cX6_sets 21 = .ok (.aload_n 0, 1) := by decide +kernel
theorem dX6_sets_22 : decode cX6_sets 22 = .ok (.getfield 102, 3) := by decide +kernel
theorem dX6_sets_25 : decode cX6_sets 25 = .ok (.ifCond .ne 6, 3) := by decide +kernel
theorem dX6_sets_28 : decode cX6_sets 28 = .ok (.bipush (-4), 2) := by decide +kernel
theorem dX6_sets_30 : decode cX6_sets 30 = .ok (.ireturn, 1) := by decide +kernel
theorem dX6_sets_31 : decode cX6_sets 31 = .ok (.iconst 0, 1) := by decide +kernel
theorem dX6_sets_32 : decode cX6_sets 32 = .ok (.istore_n 3, 1) := by decide +kernel
theorem dX6_sets_33 : decode cX6_sets 33 = .ok (.bipush (-9), 2) := by decide +kernel
theorem dX6_sets_35 : decode cX6_sets 35 = .ok (.istore 4, 2) := by decide +kernel
theorem dX6_sets_37 : decode cX6_sets 37 = .ok (.iconst 1, 1) := by decide +kernel
theorem dX6_sets_38 : decode cX6_sets 38 = .ok (.aload_n 0, 1) := by decide +kernel
theorem dX6_sets_39 : decode cX6_sets 39 = .ok (.getfield 102, 3) := by decide +kernel
theorem dX6_sets_42 : decode cX6_sets 42 = .ok (.ishl, 1) := by decide +kernel
theorem dX6_sets_43 : decode cX6_sets 43 = .ok (.iconst 1, 1) := by decide +kernel
theorem dX6_sets_44 : decode cX6_sets 44 = .ok (.isub, 1) := by decide +kernel
theorem dX6_sets_45 : decode cX6_sets 45 = .ok (.istore 5, 2) := by decide +kernel
theorem dX6_sets_47 : decode cX6_sets 47 = .ok (.iload 5, 2) := by decide +kernel
theorem dX6_sets_49 : decode cX6_sets 49 = .ok (.ifCond .lt 27, 3) := by decide +kernel
theorem dX6_sets_52 : decode cX6_sets 52 = .ok (.aload_n 0, 1) := by decide +kernel
theorem dX6_sets_53 : decode cX6_sets 53 = .ok (.iload 5, 2) := by decide +kernel
theorem dX6_sets_55 : decode cX6_sets 55 = .ok (.iload_n 1, 1) := by decide +kernel
theorem dX6_sets_56 : decode cX6_sets 56 = .ok (.iload_n 2, 1) := by decide +kernel
theorem dX6_sets_57 : decode cX6_sets 57 = .ok (.invokevirtual 199, 3) := by decide +kernel
theorem dX6_sets_60 : decode cX6_sets 60 = .ok (.ifCond .eq 10, 3) := by decide +kernel
theorem dX6_sets_63 : decode cX6_sets 63 = .ok (.iinc 3 1, 3) := by decide +kernel
theorem dX6_sets_66 : decode cX6_sets 66 = .ok (.iload 5, 2) := by decide +kernel
theorem dX6_sets_68 : decode cX6_sets 68 = .ok (.istore 4, 2) := by decide +kernel
theorem dX6_sets_70 : decode cX6_sets 70 = .ok (.iinc 5 (-1), 3) := by decide +kernel
theorem dX6_sets_73 : decode cX6_sets 73 = .ok (.goto (-26), 3) := by decide +kernel
theorem dX6_sets_76 : decode cX6_sets 76 = .ok (.aload_n 0, 1) := by decide +kernel
theorem dX6_sets_77 : decode cX6_sets 77 = .ok (.iload_n 3, 1) := by decide +kernel
theorem dX6_sets_78 : decode cX6_sets 78 = .ok (.i2l, 1) := by decide +kernel
theorem dX6_sets_79 : decode cX6_sets 79 = .ok (.putfield 202, 3) := by decide +kernel
theorem dX6_sets_82 : decode cX6_sets 82 = .ok (.aload_n 0, 1) := by decide +kernel
theorem dX6_sets_83 : decode cX6_sets 83 = .ok (.lconst 1, 1) := by decide +kernel
theorem dX6_sets_84 : decode cX6_sets 84 = .ok (.putfield 41, 3) := by decide +kernel
theorem dX6_sets_87 : decode cX6_sets 87 = .ok (.aload_n 0, 1) := by decide +kernel
theorem dX6_sets_88 : decode cX6_sets 88 = .ok (.iload 4, 2) := by decide +kernel
theorem dX6_sets_90 : decode cX6_sets 90 = .ok (.invokevirtual 83, 3) := by decide +kernel
theorem dX6_sets_93 : decode cX6_sets 93 = .ok (.ireturn, 1) := by decide +kernel
theorem dX6_sure_0 : decode cX6_sure 0 = .ok (.iload_n 1, 1) := by decide +kernel
theorem dX6_sure_1 : decode cX6_sure 1 = .ok (.invokestatic 143, 3) := by decide +kernel
theorem dX6_sure_4 : decode cX6_sure 4 = .ok (.ifCond .eq 15, 3) := by decide +kernel
theorem dX6_sure_7 : decode cX6_sure 7 = .ok (.iload_n 2, 1) := by decide +kernel
theorem dX6_sure_8 : decode cX6_sure 8 = .ok (.i2l, 1) := by decide +kernel
theorem dX6_sure_9 : decode cX6_sure 9 = .ok (.lconst 0, 1) := by decide +kernel
theorem dX6_sure_10 : decode cX6_sure 10 = .ok (.ldc2_w 197, 3) := by decide +kernel
theorem dX6_sure_13 : decode cX6_sure 13 = .ok (.invokestatic 69, 3) := by decide +kernel
theorem dX6_sure_16 : decode cX6_sure 16 = .ok (.ifCond .ne 5, 3) := by decide +kernel
theorem dX6_sure_19 : decode cX6_sure 19 = .ok (.iconst (-1), 1) := by decide +kernel
theorem dX6_sure_20 : decode cX6_sure 20 = .ok (.ireturn, 1) := by decide +kernel
theorem dX6_sure_21 : decode cX6_sure 21 = .ok (.aload_n 0, 1) := by decide +kernel
theorem dX6_sure_22 : decode cX6_sure 22 = .ok (.getfield 102, 3) := by decide +kernel
theorem dX6_sure_25 : decode cX6_sure 25 = .ok (.ifCond .ne 6, 3) := by decide +kernel
theorem dX6_sure_28 : decode cX6_sure 28 = .ok (.bipush (-4), 2) := by decide +kernel
theorem dX6_sure_30 : decode cX6_sure 30 = .ok (.ireturn, 1) := by decide +kernel
theorem dX6_sure_31 : decode cX6_sure 31 = .ok (.iconst 1, 1) := by decide +kernel
theorem dX6_sure_32 : decode cX6_sure 32 = .ok (.aload_n 0, 1) := by decide +kernel
theorem dX6_sure_33 : decode cX6_sure 33 = .ok (.getfield 102, 3) := by decide +kernel
theorem dX6_sure_36 : decode cX6_sure 36 = .ok (.ishl, 1) := by decide +kernel
theorem dX6_sure_37 : decode cX6_sure 37 = .ok (.iconst 1, 1) := by decide +kernel
theorem dX6_sure_38 : decode cX6_sure 38 = .ok (.isub, 1) := by decide +kernel
theorem dX6_sure_39 : decode cX6_sure 39 = .ok (.istore_n 3, 1) := by decide +kernel
theorem dX6_sure_40 : decode cX6_sure 40 = .ok (.iload_n 3, 1) := by decide +kernel
theorem dX6_sure_41 : decode cX6_sure 41 = .ok (.istore 4, 2) := by decide +kernel
theorem dX6_sure_43 : decode cX6_sure 43 = .ok (.iconst 0, 1) := by decide +kernel
theorem dX6_sure_44 : decode cX6_sure 44 = .ok (.istore 5, 2) := by decide +kernel
theorem dX6_sure_46 : decode cX6_sure 46 = .ok (.iconst 0, 1) := by decide +kernel
theorem dX6_sure_47 : decode cX6_sure 47 = .ok (.istore 6, 2) := by decide +kernel
theorem dX6_sure_49 : decode cX6_sure 49 = .ok (.iconst 0, 1) := by decide +kernel
theorem dX6_sure_50 : decode cX6_sure 50 = .ok (.istore 7, 2) := by decide +kernel
theorem dX6_sure_52 : decode cX6_sure 52 = .ok (.iload 7, 2) := by decide +kernel
theorem dX6_sure_54 : decode cX6_sure 54 = .ok (.iload_n 3, 1) := by decide +kernel
theorem dX6_sure_55 : decode cX6_sure 55 = .ok (.if_icmp .gt 37, 3) := by decide +kernel
theorem dX6_sure_58 : decode cX6_sure 58 = .ok (.aload_n 0, 1) := by decide +kernel
theorem dX6_sure_59 : decode cX6_sure 59 = .ok (.iload 7, 2) := by decide +kernel
theorem dX6_sure_61 : decode cX6_sure 61 = .ok (.iload_n 1, 1) := by decide +kernel
theorem dX6_sure_62 : decode cX6_sure 62 = .ok (.iload_n 2, 1) := by decide +kernel
theorem dX6_sure_63 : decode cX6_sure 63 = .ok (.invokevirtual 199, 3) := by decide +kernel
theorem dX6_sure_66 : decode cX6_sure 66 = .ok (.ifCond .eq 20, 3) := by decide +kernel
theorem dX6_sure_69 : decode cX6_sure 69 = .ok (.iinc 6 1, 3) := by decide +kernel
theorem dX6_sure_72 : decode cX6_sure 72 = .ok (.iload 4, 2) := by decide +kernel
theorem dX6_sure_74 : decode cX6_sure 74 = .ok (.iload 7, 2) := by decide +kernel
theorem dX6_sure_76 : decode cX6_sure 76 = .ok (.iand, 1) := by decide +kernel
theorem dX6_sure_77 : decode cX6_sure 77 = .ok (.istore 4, 2) := by decide +kernel
theorem dX6_sure_79 : decode cX6_sure 79 = .ok (.iload 5, 2) := by decide +kernel
theorem dX6_sure_81 : decode cX6_sure 81 = .ok (.iload 7, 2) := by decide +kernel
theorem dX6_sure_83 : decode cX6_sure 83 = .ok (.ior, 1) := by decide +kernel
theorem dX6_sure_84 : decode cX6_sure 84 = .ok (.istore 5, 2) := by decide +kernel
theorem dX6_sure_86 : decode cX6_sure 86 = .ok (.iinc 7 1, 3) := by decide +kernel
theorem dX6_sure_89 : decode cX6_sure 89 = .ok (.goto (-37), 3) := by decide +kernel
theorem dX6_sure_92 : decode cX6_sure 92 = .ok (.iload 6, 2) := by decide +kernel
theorem dX6_sure_94 : decode cX6_sure 94 = .ok (.ifCond .ne 11, 3) := by decide +kernel
theorem dX6_sure_97 : decode cX6_sure 97 = .ok (.aload_n 0, 1) := by decide +kernel
theorem dX6_sure_98 : decode cX6_sure 98 = .ok (.iconst 4, 1) := by decide +kernel
theorem dX6_sure_99 : decode cX6_sure 99 = .ok (.invokevirtual 79, 3) := by decide +kernel
theorem dX6_sure_102 : decode cX6_sure 102 = .ok (.goto 15, 3) := by decide +kernel
theorem dX6_sure_105 : decode cX6_sure 105 = .ok (.aload_n 0, 1) := by decide +kernel
theorem dX6_sure_106 : decode cX6_sure 106 = .ok (.iload 4, 2) := by decide +kernel
theorem dX6_sure_108 : decode cX6_sure 108 = .ok (.iload_n 3, 1) := by decide +kernel
theorem dX6_sure_109 : decode cX6_sure 109 = .ok (.iload 5, 2) := by decide +kernel
theorem dX6_sure_111 : decode cX6_sure 111 = .ok (.iconst (-1), 1) := by decide +kernel
theorem dX6_sure_112 : decode cX6_sure 112 = .ok (.ixor, 1) := by decide +kernel
theorem dX6_sure_113 : decode cX6_sure 113 = .ok (.iand, 1) := by decide +kernel
theorem dX6_sure_114 : decode cX6_sure 114 = .ok (.invokevirtual 194, 3) := by decide +kernel
theorem dX6_sure_117 : decode cX6_sure 117 = .ok (.ireturn, 1) := by decide +kernel
theorem dX6_leadBy_0 : decode cX6_leadBy 0 = .ok (.aload_n 0, 1) := by decide +kernel
theorem dX6_leadBy_1 : decode cX6_leadBy 1 = .ok (.invokevirtual 167, 3) := by decide +kernel
theorem dX6_leadBy_4 : decode cX6_leadBy 4 = .ok (.iload_n 3, 1) := by decide +kernel
theorem dX6_leadBy_5 : decode cX6_leadBy 5 = .ok (.istore 5, 2) := by decide +kernel
theorem dX6_leadBy_7 : decode cX6_leadBy 7 = .ok (.iconst 0, 1) := by decide +kernel
theorem dX6_leadBy_8 : decode cX6_leadBy 8 = .ok (.istore 6, 2) := by decide +kernel
theorem dX6_leadBy_10 : decode cX6_leadBy 10 = .ok (.iload 6, 2) := by decide +kernel
theorem dX6_leadBy_12 : decode cX6_leadBy 12 = .ok (.iload 4, 2) := by decide +kernel
theorem dX6_leadBy_14 : decode cX6_leadBy 14 = .ok (.if_icmp .ge 35, 3) := by decide +kernel
theorem dX6_leadBy_17 : decode cX6_leadBy 17 = .ok (.iload 5, 2) := by decide +kernel
theorem dX6_leadBy_19 : decode cX6_leadBy 19 = .ok (.iconst 4, 1) := by decide +kernel
theorem dX6_leadBy_20 : decode cX6_leadBy 20 = .ok (.irem, 1) := by decide +kernel
theorem dX6_leadBy_21 : decode cX6_leadBy 21 = .ok (.iconst 3, 1) := by decide +kernel
theorem dX6_leadBy_22 : decode cX6_leadBy 22 = .ok (.if_icmp .ge 15, 3) := by decide +kernel
theorem dX6_leadBy_25 : decode cX6_leadBy 25 = .ok (.aload_n 0, 1) := by decide +kernel
theorem dX6_leadBy_26 : decode cX6_leadBy 26 = .ok (.aload_n 0, 1) := by decide +kernel
theorem dX6_leadBy_27 : decode cX6_leadBy 27 = .ok (.getfield 28, 3) := by decide +kernel
theorem dX6_leadBy_30 : decode cX6_leadBy 30 = .ok (.iload 5, 2) := by decide +kernel
theorem dX6_leadBy_32 : decode cX6_leadBy 32 = .ok (.iconst 4, 1) := by decide +kernel
theorem dX6_leadBy_33 : decode cX6_leadBy 33 = .ok (.irem, 1) := by decide +kernel
theorem dX6_leadBy_34 : decode cX6_leadBy 34 = .ok (.invokevirtual 149, 3) := by decide +kernel
theorem dX6_leadBy_37 : decode cX6_leadBy 37 = .ok (.iload 5, 2) := by decide +kernel
theorem dX6_leadBy_39 : decode cX6_leadBy 39 = .ok (.iconst 4, 1) := by decide +kernel
theorem dX6_leadBy_40 : decode cX6_leadBy 40 = .ok (.idiv, 1) := by decide +kernel
theorem dX6_leadBy_41 : decode cX6_leadBy 41 = .ok (.istore 5, 2) := by decide +kernel
theorem dX6_leadBy_43 : decode cX6_leadBy 43 = .ok (.iinc 6 1, 3) := by decide +kernel
theorem dX6_leadBy_46 : decode cX6_leadBy 46 = .ok (.goto (-36), 3) := by decide +kernel
theorem dX6_leadBy_49 : decode cX6_leadBy 49 = .ok (.aload_n 0, 1) := by decide +kernel
theorem dX6_leadBy_50 : decode cX6_leadBy 50 = .ok (.getfield 28, 3) := by decide +kernel
theorem dX6_leadBy_53 : decode cX6_leadBy 53 = .ok (.iload_n 2, 1) := by decide +kernel
theorem dX6_leadBy_54 : decode cX6_leadBy 54 = .ok (.invokestatic 139, 3) := by decide +kernel
theorem dX6_leadBy_57 : decode cX6_leadBy 57 = .ok (.aload_n 0, 1) := by decide +kernel
theorem dX6_leadBy_58 : decode cX6_leadBy 58 = .ok (.getfield 28, 3) := by decide +kernel
theorem dX6_leadBy_61 : decode cX6_leadBy 61 = .ok (.iload_n 1, 1) := by decide +kernel
theorem dX6_leadBy_62 : decode cX6_leadBy 62 = .ok (.invokestatic 139, 3) := by decide +kernel
theorem dX6_leadBy_65 : decode cX6_leadBy 65 = .ok (.isub, 1) := by decide +kernel
theorem dX6_leadBy_66 : decode cX6_leadBy 66 = .ok (.ireturn, 1) := by decide +kernel
theorem dX6_duel_0 : decode cX6_duel 0 = .ok (.aload_n 0, 1) := by decide +kernel
theorem dX6_duel_1 : decode cX6_duel 1 = .ok (.iload_n 1, 1) := by decide +kernel
theorem dX6_duel_2 : decode cX6_duel 2 = .ok (.invokevirtual 134, 3) := by decide +kernel
theorem dX6_duel_5 : decode cX6_duel 5 = .ok (.ifCond .eq 28, 3) := by decide +kernel
theorem dX6_duel_8 : decode cX6_duel 8 = .ok (.aload_n 0, 1) := by decide +kernel
theorem dX6_duel_9 : decode cX6_duel 9 = .ok (.iload_n 2, 1) := by decide +kernel
theorem dX6_duel_10 : decode cX6_duel 10 = .ok (.invokevirtual 134, 3) := by decide +kernel
theorem dX6_duel_13 : decode cX6_duel 13 = .ok (.ifCond .eq 20, 3) := by decide +kernel
theorem dX6_duel_16 : decode cX6_duel 16 = .ok (.iload_n 1, 1) := by decide +kernel
theorem dX6_duel_17 : decode cX6_duel 17 = .ok (.iload_n 2, 1) := by decide +kernel
theorem dX6_duel_18 : decode cX6_duel 18 = .ok (.if_icmp .eq 15, 3) := by decide +kernel
theorem dX6_duel_21 : decode cX6_duel 21 = .ok (.iload_n 3, 1) := by decide +kernel
theorem dX6_duel_22 : decode cX6_duel 22 = .ok (.i2l, 1) := by decide +kernel
theorem dX6_duel_23 : decode cX6_duel 23 = .ok (.lconst 0, 1) := by decide +kernel
theorem dX6_duel_24 : decode cX6_duel 24 = .ok (.ldc2_w 73, 3) := by decide +kernel
theorem dX6_duel_27 : decode cX6_duel 27 = .ok (.invokestatic 69, 3) := by decide +kernel
theorem dX6_duel_30 : decode cX6_duel 30 = .ok (.ifCond .ne 5, 3) := by decide +kernel
theorem dX6_duel_33 : decode cX6_duel 33 = .ok (.iconst (-1), 1) := by decide +kernel
theorem dX6_duel_34 : decode cX6_duel 34 = .ok (.ireturn, 1) := by decide +kernel
theorem dX6_duel_35 : decode cX6_duel 35 = .ok (.iconst 1, 1) := by decide +kernel
theorem dX6_duel_36 : decode cX6_duel 36 = .ok (.istore 4, 2) := by decide +kernel
theorem dX6_duel_38 : decode cX6_duel 38 = .ok (.iconst 0, 1) := by decide +kernel
theorem dX6_duel_39 : decode cX6_duel 39 = .ok (.istore 5, 2) := by decide +kernel
theorem dX6_duel_41 : decode cX6_duel 41 = .ok (.iload 5, 2) := by decide +kernel
theorem dX6_duel_43 : decode cX6_duel 43 = .ok (.iconst 2, 1) := by decide +kernel
theorem dX6_duel_44 : decode cX6_duel 44 = .ok (.iload_n 3, 1) := by decide +kernel
theorem dX6_duel_45 : decode cX6_duel 45 = .ok (.imul, 1) := by decide +kernel
theorem dX6_duel_46 : decode cX6_duel 46 = .ok (.if_icmp .ge 15, 3) := by decide +kernel
theorem dX6_duel_49 : decode cX6_duel 49 = .ok (.iload 4, 2) := by decide +kernel
theorem dX6_duel_51 : decode cX6_duel 51 = .ok (.iconst 4, 1) := by decide +kernel
theorem dX6_duel_52 : decode cX6_duel 52 = .ok (.imul, 1) := by decide +kernel
theorem dX6_duel_53 : decode cX6_duel 53 = .ok (.istore 4, 2) := by decide +kernel
theorem dX6_duel_55 : decode cX6_duel 55 = .ok (.iinc 5 1, 3) := by decide +kernel
theorem dX6_duel_58 : decode cX6_duel 58 = .ok (.goto (-17), 3) := by decide +kernel
theorem dX6_duel_61 : decode cX6_duel 61 = .ok (.iconst 0, 1) := by decide +kernel
theorem dX6_duel_62 : decode cX6_duel 62 = .ok (.istore 5, 2) := by decide +kernel
theorem dX6_duel_64 : decode cX6_duel 64 = .ok (.iload 5, 2) := by decide +kernel
theorem dX6_duel_66 : decode cX6_duel 66 = .ok (.iload 4, 2) := by decide +kernel
theorem dX6_duel_68 : decode cX6_duel 68 = .ok (.if_icmp .ge 27, 3) := by decide +kernel
theorem dX6_duel_71 : decode cX6_duel 71 = .ok (.aload_n 0, 1) := by decide +kernel
theorem dX6_duel_72 : decode cX6_duel 72 = .ok (.getfield 57, 3) := by decide +kernel
theorem dX6_duel_75 : decode cX6_duel 75 = .ok (.iload 5, 2) := by decide +kernel
theorem dX6_duel_77 : decode cX6_duel 77 = .ok (.aload_n 0, 1) := by decide +kernel
theorem dX6_duel_78 : decode cX6_duel 78 = .ok (.iload_n 1, 1) := by decide +kernel
theorem dX6_duel_79 : decode cX6_duel 79 = .ok (.iload_n 2, 1) := by decide +kernel
theorem dX6_duel_80 : decode cX6_duel 80 = .ok (.iload 5, 2) := by decide +kernel
theorem dX6_duel_82 : decode cX6_duel 82 = .ok (.iconst 2, 1) := by decide +kernel
theorem dX6_duel_83 : decode cX6_duel 83 = .ok (.iload_n 3, 1) := by decide +kernel
theorem dX6_duel_84 : decode cX6_duel 84 = .ok (.imul, 1) := by decide +kernel
theorem dX6_duel_85 : decode cX6_duel 85 = .ok (.invokevirtual 205, 3) := by decide +kernel
theorem dX6_duel_88 : decode cX6_duel 88 = .ok (.iastore, 1) := by decide +kernel
theorem dX6_duel_89 : decode cX6_duel 89 = .ok (.iinc 5 1, 3) := by decide +kernel
theorem dX6_duel_92 : decode cX6_duel 92 = .ok (.goto (-28), 3) := by decide +kernel
theorem dX6_duel_95 : decode cX6_duel 95 = .ok (.iconst 1, 1) := by decide +kernel
theorem dX6_duel_96 : decode cX6_duel 96 = .ok (.istore 5, 2) := by decide +kernel
theorem dX6_duel_98 : decode cX6_duel 98 = .ok (.iload 4, 2) := by decide +kernel
theorem dX6_duel_100 : decode cX6_duel 100 = .ok (.iconst 1, 1) := by decide +kernel
theorem dX6_duel_101 : decode cX6_duel 101 = .ok (.if_icmp .le 114, 3) := by decide +kernel
theorem dX6_duel_104 : decode cX6_duel 104 = .ok (.iload 4, 2) := by decide +kernel
theorem dX6_duel_106 : decode cX6_duel 106 = .ok (.iconst 4, 1) := by decide +kernel
theorem dX6_duel_107 : decode cX6_duel 107 = .ok (.idiv, 1) := by decide +kernel
theorem dX6_duel_108 : decode cX6_duel 108 = .ok (.istore 4, 2) := by decide +kernel
theorem dX6_duel_110 : decode cX6_duel 110 = .ok (.iconst 0, 1) := by decide +kernel
theorem dX6_duel_111 : decode cX6_duel 111 = .ok (.istore 6, 2) := by decide +kernel
theorem dX6_duel_113 : decode cX6_duel 113 = .ok (.iload 6, 2) := by decide +kernel
theorem dX6_duel_115 : decode cX6_duel 115 = .ok (.iload 4, 2) := by decide +kernel
theorem dX6_duel_117 : decode cX6_duel 117 = .ok (.if_icmp .ge 83, 3) := by decide +kernel
theorem dX6_duel_120 : decode cX6_duel 120 = .ok (.aload_n 0, 1) := by decide +kernel
theorem dX6_duel_121 : decode cX6_duel 121 = .ok (.getfield 57, 3) := by decide +kernel
theorem dX6_duel_124 : decode cX6_duel 124 = .ok (.iload 6, 2) := by decide +kernel
theorem dX6_duel_126 : decode cX6_duel 126 = .ok (.iaload, 1) := by decide +kernel
theorem dX6_duel_127 : decode cX6_duel 127 = .ok (.istore 7, 2) := by decide +kernel
theorem dX6_duel_129 : decode cX6_duel 129 = .ok (.iconst 1, 1) := by decide +kernel
theorem dX6_duel_130 : decode cX6_duel 130 = .ok (.istore 8, 2) := by decide +kernel
theorem dX6_duel_132 : decode cX6_duel 132 = .ok (.iload 8, 2) := by decide +kernel
theorem dX6_duel_134 : decode cX6_duel 134 = .ok (.iconst 4, 1) := by decide +kernel
theorem dX6_duel_135 : decode cX6_duel 135 = .ok (.if_icmp .ge 50, 3) := by decide +kernel
theorem dX6_duel_138 : decode cX6_duel 138 = .ok (.aload_n 0, 1) := by decide +kernel
theorem dX6_duel_139 : decode cX6_duel 139 = .ok (.getfield 57, 3) := by decide +kernel
theorem dX6_duel_142 : decode cX6_duel 142 = .ok (.iload 6, 2) := by decide +kernel
theorem dX6_duel_144 : decode cX6_duel 144 = .ok (.iload 4, 2) := by decide +kernel
theorem dX6_duel_146 : decode cX6_duel 146 = .ok (.iload 8, 2) := by decide +kernel
theorem dX6_duel_148 : decode cX6_duel 148 = .ok (.imul, 1) := by decide +kernel
theorem dX6_duel_149 : decode cX6_duel 149 = .ok (.iadd, 1) := by decide +kernel
theorem dX6_duel_150 : decode cX6_duel 150 = .ok (.iaload, 1) := by decide +kernel
theorem dX6_duel_151 : decode cX6_duel 151 = .ok (.istore 9, 2) := by decide +kernel
theorem dX6_duel_153 : decode cX6_duel 153 = .ok (.iload 9, 2) := by decide +kernel
theorem dX6_duel_155 : decode cX6_duel 155 = .ok (.iload 7, 2) := by decide +kernel
theorem dX6_duel_157 : decode cX6_duel 157 = .ok (.if_icmp .le 7, 3) := by decide +kernel
theorem dX6_duel_160 : decode cX6_duel 160 = .ok (.iconst 1, 1) := by decide +kernel
theorem dX6_duel_161 : decode cX6_duel 161 = .ok (.goto 4, 3) := by decide +kernel
theorem dX6_duel_164 : decode cX6_duel 164 = .ok (.iconst 0, 1) := by decide +kernel
theorem dX6_duel_165 : decode cX6_duel 165 = .ok (.iload 5, 2) := by decide +kernel
theorem dX6_duel_167 : decode cX6_duel 167 = .ok (.if_icmp .eq 8, 3) := by decide +kernel
theorem dX6_duel_170 : decode cX6_duel 170 = .ok (.iload 9, 2) := by decide +kernel
theorem dX6_duel_172 : decode cX6_duel 172 = .ok (.goto 5, 3) := by decide +kernel
theorem dX6_duel_175 : decode cX6_duel 175 = .ok (.iload 7, 2) := by decide +kernel
theorem dX6_duel_177 : decode cX6_duel 177 = .ok (.istore 7, 2) := by decide +kernel
theorem dX6_duel_179 : decode cX6_duel 179 = .ok (.iinc 8 1, 3) := by decide +kernel
theorem dX6_duel_182 : decode cX6_duel 182 = .ok (.goto (-50), 3) := by decide +kernel
theorem dX6_duel_185 : decode cX6_duel 185 = .ok (.aload_n 0, 1) := by decide +kernel
theorem dX6_duel_186 : decode cX6_duel 186 = .ok (.getfield 57, 3) := by decide +kernel
theorem dX6_duel_189 : decode cX6_duel 189 = .ok (.iload 6, 2) := by decide +kernel
theorem dX6_duel_191 : decode cX6_duel 191 = .ok (.iload 7, 2) := by decide +kernel
theorem dX6_duel_193 : decode cX6_duel 193 = .ok (.iastore, 1) := by decide +kernel
theorem dX6_duel_194 : decode cX6_duel 194 = .ok (.iinc 6 1, 3) := by decide +kernel
theorem dX6_duel_197 : decode cX6_duel 197 = .ok (.goto (-84), 3) := by decide +kernel
theorem dX6_duel_200 : decode cX6_duel 200 = .ok (.iload 5, 2) := by decide +kernel
theorem dX6_duel_202 : decode cX6_duel 202 = .ok (.ifCond .ne 7, 3) := by decide +kernel
theorem dX6_duel_205 : decode cX6_duel 205 = .ok (.iconst 1, 1) := by decide +kernel
theorem dX6_duel_206 : decode cX6_duel 206 = .ok (.goto 4, 3) := by decide +kernel
theorem dX6_duel_209 : decode cX6_duel 209 = .ok (.iconst 0, 1) := by decide +kernel
theorem dX6_duel_210 : decode cX6_duel 210 = .ok (.istore 5, 2) := by decide +kernel
theorem dX6_duel_212 : decode cX6_duel 212 = .ok (.goto (-114), 3) := by decide +kernel
theorem dX6_duel_215 : decode cX6_duel 215 = .ok (.aload_n 0, 1) := by decide +kernel
theorem dX6_duel_216 : decode cX6_duel 216 = .ok (.aload_n 0, 1) := by decide +kernel
theorem dX6_duel_217 : decode cX6_duel 217 = .ok (.getfield 57, 3) := by decide +kernel
theorem dX6_duel_220 : decode cX6_duel 220 = .ok (.iconst 0, 1) := by decide +kernel
theorem dX6_duel_221 : decode cX6_duel 221 = .ok (.iaload, 1) := by decide +kernel
theorem dX6_duel_222 : decode cX6_duel 222 = .ok (.invokevirtual 83, 3) := by decide +kernel
theorem dX6_duel_225 : decode cX6_duel 225 = .ok (.ireturn, 1) := by decide +kernel
theorem dX6_tellsPart_0 : decode cX6_tellsPart 0 = .ok (.lload_n 1, 1) := by decide +kernel
theorem dX6_tellsPart_1 : decode cX6_tellsPart 1 = .ok (.lstore 5, 2) := by decide +kernel
theorem dX6_tellsPart_3 : decode cX6_tellsPart 3 = .ok (.lload_n 3, 1) := by decide +kernel
theorem dX6_tellsPart_4 : decode cX6_tellsPart 4 = .ok (.lstore 7, 2) := by decide +kernel
theorem dX6_tellsPart_6 : decode cX6_tellsPart 6 = .ok (.lload 7, 2) := by decide +kernel
theorem dX6_tellsPart_8 : decode cX6_tellsPart 8 = .ok (.lconst 0, 1) := by decide +kernel
theorem dX6_tellsPart_9 : decode cX6_tellsPart 9 = .ok (.lcmp, 1) := by decide +kernel
theorem dX6_tellsPart_10 : decode cX6_tellsPart 10 = .ok (.ifCond .eq 21, 3) := by decide +kernel
theorem dX6_tellsPart_13 : decode cX6_tellsPart 13 = .ok (.lload 5, 2) := by decide +kernel
theorem dX6_tellsPart_15 : decode cX6_tellsPart 15 = .ok (.lload 7, 2) := by decide +kernel
theorem dX6_tellsPart_17 : decode cX6_tellsPart 17 = .ok (.lrem, 1) := by decide +kernel
theorem dX6_tellsPart_18 : decode cX6_tellsPart 18 = .ok (.lstore 9, 2) := by decide +kernel
theorem dX6_tellsPart_20 : decode cX6_tellsPart 20 = .ok (.lload 7, 2) := by decide +kernel
theorem dX6_tellsPart_22 : decode cX6_tellsPart 22 = .ok (.lstore 5, 2) := by decide +kernel
theorem dX6_tellsPart_24 : decode cX6_tellsPart 24 = .ok (.lload 9, 2) := by decide +kernel
theorem dX6_tellsPart_26 : decode cX6_tellsPart 26 = .ok (.lstore 7, 2) := by decide +kernel
theorem dX6_tellsPart_28 : decode cX6_tellsPart 28 = .ok (.goto (-22), 3) := by decide +kernel
theorem dX6_tellsPart_31 : decode cX6_tellsPart 31 = .ok (.aload_n 0, 1) := by decide +kernel
theorem dX6_tellsPart_32 : decode cX6_tellsPart 32 = .ok (.lload_n 1, 1) := by decide +kernel
theorem dX6_tellsPart_33 : decode cX6_tellsPart 33 = .ok (.lload 5, 2) := by decide +kernel
theorem dX6_tellsPart_35 : decode cX6_tellsPart 35 = .ok (.ldiv, 1) := by decide +kernel
theorem dX6_tellsPart_36 : decode cX6_tellsPart 36 = .ok (.putfield 202, 3) := by decide +kernel
theorem dX6_tellsPart_39 : decode cX6_tellsPart 39 = .ok (.aload_n 0, 1) := by decide +kernel
theorem dX6_tellsPart_40 : decode cX6_tellsPart 40 = .ok (.lload_n 3, 1) := by decide +kernel
theorem dX6_tellsPart_41 : decode cX6_tellsPart 41 = .ok (.lload 5, 2) := by decide +kernel
theorem dX6_tellsPart_43 : decode cX6_tellsPart 43 = .ok (.ldiv, 1) := by decide +kernel
theorem dX6_tellsPart_44 : decode cX6_tellsPart 44 = .ok (.putfield 41, 3) := by decide +kernel
theorem dX6_tellsPart_47 : decode cX6_tellsPart 47 = .ok (.return_, 1) := by decide +kernel
theorem dX6_weigh_0 : decode cX6_weigh 0 = .ok (.lconst 1, 1) := by decide +kernel
theorem dX6_weigh_1 : decode cX6_weigh 1 = .ok (.lstore_n 3, 1) := by decide +kernel
theorem dX6_weigh_2 : decode cX6_weigh 2 = .ok (.iconst 0, 1) := by decide +kernel
theorem dX6_weigh_3 : decode cX6_weigh 3 = .ok (.istore 5, 2) := by decide +kernel
theorem dX6_weigh_5 : decode cX6_weigh 5 = .ok (.iload 5, 2) := by decide +kernel
theorem dX6_weigh_7 : decode cX6_weigh 7 = .ok (.aload_n 0, 1) := by decide +kernel
theorem dX6_weigh_8 : decode cX6_weigh 8 = .ok (.getfield 102, 3) := by decide +kernel
theorem dX6_weigh_11 : decode cX6_weigh 11 = .ok (.if_icmp .ge 31, 3) := by decide +kernel
theorem dX6_weigh_14 : decode cX6_weigh 14 = .ok (.lload_n 3, 1) := by decide +kernel
theorem dX6_weigh_15 : decode cX6_weigh 15 = .ok (.iload_n 1, 1) := by decide +kernel
theorem dX6_weigh_16 : decode cX6_weigh 16 = .ok (.iload 5, 2) := by decide +kernel
theorem dX6_weigh_18 : decode cX6_weigh 18 = .ok (.invokestatic 122, 3) := by decide +kernel
theorem dX6_weigh_21 : decode cX6_weigh 21 = .ok (.ifCond .eq 8, 3) := by decide +kernel
theorem dX6_weigh_24 : decode cX6_weigh 24 = .ok (.iload_n 2, 1) := by decide +kernel
theorem dX6_weigh_25 : decode cX6_weigh 25 = .ok (.i2l, 1) := by decide +kernel
theorem dX6_weigh_26 : decode cX6_weigh 26 = .ok (.goto 8, 3) := by decide +kernel
theorem dX6_weigh_29 : decode cX6_weigh 29 = .ok (.bipush 12, 2) := by decide +kernel
theorem dX6_weigh_31 : decode cX6_weigh 31 = .ok (.iload_n 2, 1) := by decide +kernel
theorem dX6_weigh_32 : decode cX6_weigh 32 = .ok (.isub, 1) := by decide +kernel
theorem dX6_weigh_33 : decode cX6_weigh 33 = .ok (.i2l, 1) := by decide +kernel
theorem dX6_weigh_34 : decode cX6_weigh 34 = .ok (.lmul, 1) := by decide +kernel
theorem dX6_weigh_35 : decode cX6_weigh 35 = .ok (.lstore_n 3, 1) := by decide +kernel
theorem dX6_weigh_36 : decode cX6_weigh 36 = .ok (.iinc 5 1, 3) := by decide +kernel
theorem dX6_weigh_39 : decode cX6_weigh 39 = .ok (.goto (-34), 3) := by decide +kernel
theorem dX6_weigh_42 : decode cX6_weigh 42 = .ok (.lload_n 3, 1) := by decide +kernel
theorem dX6_weigh_43 : decode cX6_weigh 43 = .ok (.lreturn, 1) := by decide +kernel
theorem dX6_chance_0 : decode cX6_chance 0 = .ok (.aload_n 0, 1) := by decide +kernel
theorem dX6_chance_1 : decode cX6_chance 1 = .ok (.iload_n 1, 1) := by decide +kernel
theorem dX6_chance_2 : decode cX6_chance 2 = .ok (.invokevirtual 134, 3) := by decide +kernel
theorem dX6_chance_5 : decode cX6_chance 5 = .ok (.ifCond .eq 22, 3) := by decide +kernel
theorem dX6_chance_8 : decode cX6_chance 8 = .ok (.iload_n 2, 1) := by decide +kernel
theorem dX6_chance_9 : decode cX6_chance 9 = .ok (.invokestatic 143, 3) := by decide +kernel
theorem dX6_chance_12 : decode cX6_chance 12 = .ok (.ifCond .eq 15, 3) := by decide +kernel
theorem dX6_chance_15 : decode cX6_chance 15 = .ok (.iload_n 3, 1) := by decide +kernel
theorem dX6_chance_16 : decode cX6_chance 16 = .ok (.i2l, 1) := by decide +kernel
theorem dX6_chance_17 : decode cX6_chance 17 = .ok (.lconst 0, 1) := by decide +kernel
theorem dX6_chance_18 : decode cX6_chance 18 = .ok (.ldc2_w 209, 3) := by decide +kernel
theorem dX6_chance_21 : decode cX6_chance 21 = .ok (.invokestatic 69, 3) := by decide +kernel
theorem dX6_chance_24 : decode cX6_chance 24 = .ok (.ifCond .ne 5, 3) := by decide +kernel
theorem dX6_chance_27 : decode cX6_chance 27 = .ok (.iconst (-1), 1) := by decide +kernel
theorem dX6_chance_28 : decode cX6_chance 28 = .ok (.ireturn, 1) := by decide +kernel
theorem dX6_chance_29 : decode cX6_chance 29 = .ok (.lconst 0, 1) := by decide +kernel
theorem dX6_chance_30 : decode cX6_chance 30 = .ok (.lstore 5, 2) := by decide +kernel
theorem dX6_chance_32 : decode cX6_chance 32 = .ok (.lconst 1, 1) := by decide +kernel
theorem dX6_chance_33 : decode cX6_chance 33 = .ok (.lstore 7, 2) := by decide +kernel
theorem dX6_chance_35 : decode cX6_chance 35 = .ok (.iconst 0, 1) := by decide +kernel
theorem dX6_chance_36 : decode cX6_chance 36 = .ok (.istore 9, 2) := by decide +kernel
theorem dX6_chance_38 : decode cX6_chance 38 = .ok (.iload 9, 2) := by decide +kernel
theorem dX6_chance_40 : decode cX6_chance 40 = .ok (.aload_n 0, 1) := by decide +kernel
theorem dX6_chance_41 : decode cX6_chance 41 = .ok (.getfield 102, 3) := by decide +kernel
theorem dX6_chance_44 : decode cX6_chance 44 = .ok (.if_icmp .ge 17, 3) := by decide +kernel
theorem dX6_chance_47 : decode cX6_chance 47 = .ok (.lload 7, 2) := by decide +kernel
theorem dX6_chance_49 : decode cX6_chance 49 = .ok (.ldc2_w 209, 3) := by decide +kernel
theorem dX6_chance_52 : decode cX6_chance 52 = .ok (.lmul, 1) := by decide +kernel
theorem dX6_chance_53 : decode cX6_chance 53 = .ok (.lstore 7, 2) := by decide +kernel
theorem dX6_chance_55 : decode cX6_chance 55 = .ok (.iinc 9 1, 3) := by decide +kernel
theorem dX6_chance_58 : decode cX6_chance 58 = .ok (.goto (-20), 3) := by decide +kernel
theorem dX6_chance_61 : decode cX6_chance 61 = .ok (.iconst 0, 1) := by decide +kernel
theorem dX6_chance_62 : decode cX6_chance 62 = .ok (.istore 9, 2) := by decide +kernel
theorem dX6_chance_64 : decode cX6_chance 64 = .ok (.iload 9, 2) := by decide +kernel
theorem dX6_chance_66 : decode cX6_chance 66 = .ok (.iconst 1, 1) := by decide +kernel
theorem dX6_chance_67 : decode cX6_chance 67 = .ok (.aload_n 0, 1) := by decide +kernel
theorem dX6_chance_68 : decode cX6_chance 68 = .ok (.getfield 102, 3) := by decide +kernel
theorem dX6_chance_71 : decode cX6_chance 71 = .ok (.ishl, 1) := by decide +kernel
theorem dX6_chance_72 : decode cX6_chance 72 = .ok (.if_icmp .ge 68, 3) := by decide +kernel
theorem dX6_chance_75 : decode cX6_chance 75 = .ok (.aload_n 0, 1) := by decide +kernel
theorem dX6_chance_76 : decode cX6_chance 76 = .ok (.invokevirtual 167, 3) := by decide +kernel
theorem dX6_chance_79 : decode cX6_chance 79 = .ok (.aload_n 0, 1) := by decide +kernel
theorem dX6_chance_80 : decode cX6_chance 80 = .ok (.aload_n 0, 1) := by decide +kernel
theorem dX6_chance_81 : decode cX6_chance 81 = .ok (.getfield 28, 3) := by decide +kernel
theorem dX6_chance_84 : decode cX6_chance 84 = .ok (.iload_n 2, 1) := by decide +kernel
theorem dX6_chance_85 : decode cX6_chance 85 = .ok (.iload 9, 2) := by decide +kernel
theorem dX6_chance_87 : decode cX6_chance 87 = .ok (.invokevirtual 130, 3) := by decide +kernel
theorem dX6_chance_90 : decode cX6_chance 90 = .ok (.aload_n 0, 1) := by decide +kernel
theorem dX6_chance_91 : decode cX6_chance 91 = .ok (.getfield 28, 3) := by decide +kernel
theorem dX6_chance_94 : decode cX6_chance 94 = .ok (.iload_n 1, 1) := by decide +kernel
theorem dX6_chance_95 : decode cX6_chance 95 = .ok (.invokestatic 139, 3) := by decide +kernel
theorem dX6_chance_98 : decode cX6_chance 98 = .ok (.istore 10, 2) := by decide +kernel
theorem dX6_chance_100 : decode cX6_chance 100 = .ok (.lload 5, 2) := by decide +kernel
theorem dX6_chance_102 : decode cX6_chance 102 = .ok (.aload_n 0, 1) := by decide +kernel
theorem dX6_chance_103 : decode cX6_chance 103 = .ok (.iload 9, 2) := by decide +kernel
theorem dX6_chance_105 : decode cX6_chance 105 = .ok (.iload_n 3, 1) := by decide +kernel
theorem dX6_chance_106 : decode cX6_chance 106 = .ok (.invokevirtual 211, 3) := by decide +kernel
theorem dX6_chance_109 : decode cX6_chance 109 = .ok (.iload 4, 2) := by decide +kernel
theorem dX6_chance_111 : decode cX6_chance 111 = .ok (.ifCond .eq 8, 3) := by decide +kernel
theorem dX6_chance_114 : decode cX6_chance 114 = .ok (.iload 10, 2) := by decide +kernel
theorem dX6_chance_116 : decode cX6_chance 116 = .ok (.goto 13, 3) := by decide +kernel
theorem dX6_chance_119 : decode cX6_chance 119 = .ok (.iload 10, 2) := by decide +kernel
theorem dX6_chance_121 : decode cX6_chance 121 = .ok (.ifCond .ne 7, 3) := by decide +kernel
theorem dX6_chance_124 : decode cX6_chance 124 = .ok (.iconst 1, 1) := by decide +kernel
theorem dX6_chance_125 : decode cX6_chance 125 = .ok (.goto 4, 3) := by decide +kernel
theorem dX6_chance_128 : decode cX6_chance 128 = .ok (.iconst 0, 1) := by decide +kernel
theorem dX6_chance_129 : decode cX6_chance 129 = .ok (.i2l, 1) := by decide +kernel
theorem dX6_chance_130 : decode cX6_chance 130 = .ok (.lmul, 1) := by decide +kernel
theorem dX6_chance_131 : decode cX6_chance 131 = .ok (.ladd, 1) := by decide +kernel
theorem dX6_chance_132 : decode cX6_chance 132 = .ok (.lstore 5, 2) := by decide +kernel
theorem dX6_chance_134 : decode cX6_chance 134 = .ok (.iinc 9 1, 3) := by decide +kernel
theorem dX6_chance_137 : decode cX6_chance 137 = .ok (.goto (-73), 3) := by decide +kernel
theorem dX6_chance_140 : decode cX6_chance 140 = .ok (.aload_n 0, 1) := by decide +kernel
theorem dX6_chance_141 : decode cX6_chance 141 = .ok (.lload 5, 2) := by decide +kernel
theorem dX6_chance_143 : decode cX6_chance 143 = .ok (.lload 7, 2) := by decide +kernel
theorem dX6_chance_145 : decode cX6_chance 145 = .ok (.invokevirtual 215, 3) := by decide +kernel
theorem dX6_chance_148 : decode cX6_chance 148 = .ok (.iconst 1, 1) := by decide +kernel
theorem dX6_chance_149 : decode cX6_chance 149 = .ok (.ireturn, 1) := by decide +kernel
theorem dX6_odds_0 : decode cX6_odds 0 = .ok (.aload_n 0, 1) := by decide +kernel
theorem dX6_odds_1 : decode cX6_odds 1 = .ok (.iload_n 1, 1) := by decide +kernel
theorem dX6_odds_2 : decode cX6_odds 2 = .ok (.iload_n 2, 1) := by decide +kernel
theorem dX6_odds_3 : decode cX6_odds 3 = .ok (.iload_n 3, 1) := by decide +kernel
theorem dX6_odds_4 : decode cX6_odds 4 = .ok (.iconst 0, 1) := by decide +kernel
theorem dX6_odds_5 : decode cX6_odds 5 = .ok (.invokevirtual 219, 3) := by decide +kernel
theorem dX6_odds_8 : decode cX6_odds 8 = .ok (.ireturn, 1) := by decide +kernel
theorem dX6_mid_0 : decode cX6_mid 0 = .ok (.aload_n 0, 1) := by decide +kernel
theorem dX6_mid_1 : decode cX6_mid 1 = .ok (.iload_n 1, 1) := by decide +kernel
theorem dX6_mid_2 : decode cX6_mid 2 = .ok (.iload_n 2, 1) := by decide +kernel
theorem dX6_mid_3 : decode cX6_mid 3 = .ok (.iload_n 3, 1) := by decide +kernel
theorem dX6_mid_4 : decode cX6_mid 4 = .ok (.iconst 1, 1) := by decide +kernel
theorem dX6_mid_5 : decode cX6_mid 5 = .ok (.invokevirtual 219, 3) := by decide +kernel
theorem dX6_mid_8 : decode cX6_mid 8 = .ok (.ireturn, 1) := by decide +kernel
theorem dX6_lots_0 : decode cX6_lots 0 = .ok (.iload_n 1, 1) := by decide +kernel
theorem dX6_lots_1 : decode cX6_lots 1 = .ok (.i2l, 1) := by decide +kernel
theorem dX6_lots_2 : decode cX6_lots 2 = .ok (.lconst 1, 1) := by decide +kernel
theorem dX6_lots_3 : decode cX6_lots 3 = .ok (.ldc2_w 223, 3) := by decide +kernel
theorem dX6_lots_6 : decode cX6_lots 6 = .ok (.invokestatic 69, 3) := by decide +kernel
theorem dX6_lots_9 : decode cX6_lots 9 = .ok (.ifCond .eq 15, 3) := by decide +kernel
theorem dX6_lots_12 : decode cX6_lots 12 = .ok (.iload_n 2, 1) := by decide +kernel
theorem dX6_lots_13 : decode cX6_lots 13 = .ok (.i2l, 1) := by decide +kernel
theorem dX6_lots_14 : decode cX6_lots 14 = .ok (.lconst 1, 1) := by decide +kernel
theorem dX6_lots_15 : decode cX6_lots 15 = .ok (.ldc2_w 225, 3) := by decide +kernel
theorem dX6_lots_18 : decode cX6_lots 18 = .ok (.invokestatic 69, 3) := by decide +kernel
theorem dX6_lots_21 : decode cX6_lots 21 = .ok (.ifCond .ne 5, 3) := by decide +kernel
theorem dX6_lots_24 : decode cX6_lots 24 = .ok (.iconst (-1), 1) := by decide +kernel
theorem dX6_lots_25 : decode cX6_lots 25 = .ok (.ireturn, 1) := by decide +kernel
theorem dX6_lots_26 : decode cX6_lots 26 = .ok (.aload_n 0, 1) := by decide +kernel
theorem dX6_lots_27 : decode cX6_lots 27 = .ok (.getfield 102, 3) := by decide +kernel
theorem dX6_lots_30 : decode cX6_lots 30 = .ok (.ifCond .ne 6, 3) := by decide +kernel
theorem dX6_lots_33 : decode cX6_lots 33 = .ok (.bipush (-4), 2) := by decide +kernel
theorem dX6_lots_35 : decode cX6_lots 35 = .ok (.ireturn, 1) := by decide +kernel
theorem dX6_lots_36 : decode cX6_lots 36 = .ok (.aload_n 0, 1) := by decide +kernel
theorem dX6_lots_37 : decode cX6_lots 37 = .ok (.getfield 109, 3) := by decide +kernel
theorem dX6_lots_40 : decode cX6_lots 40 = .ok (.iload_n 1, 1) := by decide +kernel
theorem dX6_lots_41 : decode cX6_lots 41 = .ok (.iadd, 1) := by decide +kernel
theorem dX6_lots_42 : decode cX6_lots 42 = .ok (.bipush 40, 2) := by decide +kernel
theorem dX6_lots_44 : decode cX6_lots 44 = .ok (.if_icmp .le 6, 3) := by decide +kernel
theorem dX6_lots_47 : decode cX6_lots 47 = .ok (.bipush (-2), 2) := by decide +kernel
theorem dX6_lots_49 : decode cX6_lots 49 = .ok (.ireturn, 1) := by decide +kernel
theorem dX6_lots_50 : decode cX6_lots 50 = .ok (.iload_n 2, 1) := by decide +kernel
theorem dX6_lots_51 : decode cX6_lots 51 = .ok (.i2l, 1) := by decide +kernel
theorem dX6_lots_52 : decode cX6_lots 52 = .ok (.lstore_n 3, 1) := by decide +kernel
theorem dX6_lots_53 : decode cX6_lots 53 = .ok (.iconst 0, 1) := by decide +kernel
theorem dX6_lots_54 : decode cX6_lots 54 = .ok (.istore 5, 2) := by decide +kernel
theorem dX6_lots_56 : decode cX6_lots 56 = .ok (.iload 5, 2) := by decide +kernel
theorem dX6_lots_58 : decode cX6_lots 58 = .ok (.iload_n 1, 1) := by decide +kernel
theorem dX6_lots_59 : decode cX6_lots 59 = .ok (.if_icmp .ge 140, 3) := by decide +kernel
theorem dX6_lots_62 : decode cX6_lots 62 = .ok (.lload_n 3, 1) := by decide +kernel
theorem dX6_lots_63 : decode cX6_lots 63 = .ok (.ldc2_w 227, 3) := by decide +kernel
theorem dX6_lots_66 : decode cX6_lots 66 = .ok (.lmul, 1) := by decide +kernel
theorem dX6_lots_67 : decode cX6_lots 67 = .ok (.ldc2_w 229, 3) := by decide +kernel
theorem dX6_lots_70 : decode cX6_lots 70 = .ok (.lrem, 1) := by decide +kernel
theorem dX6_lots_71 : decode cX6_lots 71 = .ok (.lstore_n 3, 1) := by decide +kernel
theorem dX6_lots_72 : decode cX6_lots 72 = .ok (.lload_n 3, 1) := by decide +kernel
theorem dX6_lots_73 : decode cX6_lots 73 = .ok (.ldc2_w 231, 3) := by decide +kernel
theorem dX6_lots_76 : decode cX6_lots 76 = .ok (.ldiv, 1) := by decide +kernel
theorem dX6_lots_77 : decode cX6_lots 77 = .ok (.ldc2_w 231, 3) := by decide +kernel
theorem dX6_lots_80 : decode cX6_lots 80 = .ok (.lrem, 1) := by decide +kernel
theorem dX6_lots_81 : decode cX6_lots 81 = .ok (.l2i, 1) := by decide +kernel
theorem dX6_lots_82 : decode cX6_lots 82 = .ok (.istore 6, 2) := by decide +kernel
theorem dX6_lots_84 : decode cX6_lots 84 = .ok (.lload_n 3, 1) := by decide +kernel
theorem dX6_lots_85 : decode cX6_lots 85 = .ok (.ldc2_w 73, 3) := by decide +kernel
theorem dX6_lots_88 : decode cX6_lots 88 = .ok (.lrem, 1) := by decide +kernel
theorem dX6_lots_89 : decode cX6_lots 89 = .ok (.l2i, 1) := by decide +kernel
theorem dX6_lots_90 : decode cX6_lots 90 = .ok (.istore 7, 2) := by decide +kernel
theorem dX6_lots_92 : decode cX6_lots 92 = .ok (.aload_n 0, 1) := by decide +kernel
theorem dX6_lots_93 : decode cX6_lots 93 = .ok (.invokevirtual 146, 3) := by decide +kernel
theorem dX6_lots_96 : decode cX6_lots 96 = .ok (.iload 6, 2) := by decide +kernel
theorem dX6_lots_98 : decode cX6_lots 98 = .ok (.iconst 5, 1) := by decide +kernel
theorem dX6_lots_99 : decode cX6_lots 99 = .ok (.if_icmp .ge 16, 3) := by decide +kernel
theorem dX6_lots_102 : decode cX6_lots 102 = .ok (.aload_n 0, 1) := by decide +kernel
theorem dX6_lots_103 : decode cX6_lots 103 = .ok (.aload_n 0, 1) := by decide +kernel
theorem dX6_lots_104 : decode cX6_lots 104 = .ok (.getfield 25, 3) := by decide +kernel
theorem dX6_lots_107 : decode cX6_lots 107 = .ok (.iload 7, 2) := by decide +kernel
theorem dX6_lots_109 : decode cX6_lots 109 = .ok (.invokevirtual 149, 3) := by decide +kernel
theorem dX6_lots_112 : decode cX6_lots 112 = .ok (.goto 81, 3) := by decide +kernel
theorem dX6_lots_115 : decode cX6_lots 115 = .ok (.iload 6, 2) := by decide +kernel
theorem dX6_lots_117 : decode cX6_lots 117 = .ok (.iconst 5, 1) := by decide +kernel
theorem dX6_lots_118 : decode cX6_lots 118 = .ok (.if_icmp .ne 10, 3) := by decide +kernel
theorem dX6_lots_121 : decode cX6_lots 121 = .ok (.aload_n 0, 1) := by decide +kernel
theorem dX6_lots_122 : decode cX6_lots 122 = .ok (.invokevirtual 153, 3) := by decide +kernel
theorem dX6_lots_125 : decode cX6_lots 125 = .ok (.goto 68, 3) := by decide +kernel
theorem dX6_lots_128 : decode cX6_lots 128 = .ok (.iload 6, 2) := by decide +kernel
theorem dX6_lots_130 : decode cX6_lots 130 = .ok (.bipush 6, 2) := by decide +kernel
theorem dX6_lots_132 : decode cX6_lots 132 = .ok (.if_icmp .ne 26, 3) := by decide +kernel
theorem dX6_lots_135 : decode cX6_lots 135 = .ok (.aload_n 0, 1) := by decide +kernel
theorem dX6_lots_136 : decode cX6_lots 136 = .ok (.iconst 1, 1) := by decide +kernel
theorem dX6_lots_137 : decode cX6_lots 137 = .ok (.lload_n 3, 1) := by decide +kernel
theorem dX6_lots_138 : decode cX6_lots 138 = .ok (.ldc2_w 233, 3) := by decide +kernel
theorem dX6_lots_141 : decode cX6_lots 141 = .ok (.ldiv, 1) := by decide +kernel
theorem dX6_lots_142 : decode cX6_lots 142 = .ok (.aload_n 0, 1) := by decide +kernel
theorem dX6_lots_143 : decode cX6_lots 143 = .ok (.getfield 102, 3) := by decide +kernel
theorem dX6_lots_146 : decode cX6_lots 146 = .ok (.iconst 1, 1) := by decide +kernel
theorem dX6_lots_147 : decode cX6_lots 147 = .ok (.isub, 1) := by decide +kernel
theorem dX6_lots_148 : decode cX6_lots 148 = .ok (.i2l, 1) := by decide +kernel
theorem dX6_lots_149 : decode cX6_lots 149 = .ok (.lrem, 1) := by decide +kernel
theorem dX6_lots_150 : decode cX6_lots 150 = .ok (.l2i, 1) := by decide +kernel
theorem dX6_lots_151 : decode cX6_lots 151 = .ok (.iadd, 1) := by decide +kernel
theorem dX6_lots_152 : decode cX6_lots 152 = .ok (.invokevirtual 156, 3) := by decide +kernel
theorem dX6_lots_155 : decode cX6_lots 155 = .ok (.goto 38, 3) := by decide +kernel
theorem dX6_lots_158 : decode cX6_lots 158 = .ok (.aload_n 0, 1) := by decide +kernel
theorem dX6_lots_159 : decode cX6_lots 159 = .ok (.getfield 25, 3) := by decide +kernel
theorem dX6_lots_162 : decode cX6_lots 162 = .ok (.bipush 6, 2) := by decide +kernel
theorem dX6_lots_164 : decode cX6_lots 164 = .ok (.iconst 3, 1) := by decide +kernel
theorem dX6_lots_165 : decode cX6_lots 165 = .ok (.lload_n 3, 1) := by decide +kernel
theorem dX6_lots_166 : decode cX6_lots 166 = .ok (.ldc2_w 233, 3) := by decide +kernel
theorem dX6_lots_169 : decode cX6_lots 169 = .ok (.ldiv, 1) := by decide +kernel
theorem dX6_lots_170 : decode cX6_lots 170 = .ok (.aload_n 0, 1) := by decide +kernel
theorem dX6_lots_171 : decode cX6_lots 171 = .ok (.getfield 102, 3) := by decide +kernel
theorem dX6_lots_174 : decode cX6_lots 174 = .ok (.i2l, 1) := by decide +kernel
theorem dX6_lots_175 : decode cX6_lots 175 = .ok (.lrem, 1) := by decide +kernel
theorem dX6_lots_176 : decode cX6_lots 176 = .ok (.l2i, 1) := by decide +kernel
theorem dX6_lots_177 : decode cX6_lots 177 = .ok (.imul, 1) := by decide +kernel
theorem dX6_lots_178 : decode cX6_lots 178 = .ok (.iadd, 1) := by decide +kernel
theorem dX6_lots_179 : decode cX6_lots 179 = .ok (.iload 7, 2) := by decide +kernel
theorem dX6_lots_181 : decode cX6_lots 181 = .ok (.iadd, 1) := by decide +kernel
theorem dX6_lots_182 : decode cX6_lots 182 = .ok (.lload_n 3, 1) := by decide +kernel
theorem dX6_lots_183 : decode cX6_lots 183 = .ok (.ldc2_w 235, 3) := by decide +kernel
theorem dX6_lots_186 : decode cX6_lots 186 = .ok (.ldiv, 1) := by decide +kernel
theorem dX6_lots_187 : decode cX6_lots 187 = .ok (.ldc2_w 182, 3) := by decide +kernel
theorem dX6_lots_190 : decode cX6_lots 190 = .ok (.lrem, 1) := by decide +kernel
theorem dX6_lots_191 : decode cX6_lots 191 = .ok (.l2i, 1) := by decide +kernel
theorem dX6_lots_192 : decode cX6_lots 192 = .ok (.iastore, 1) := by decide +kernel
theorem dX6_lots_193 : decode cX6_lots 193 = .ok (.iinc 5 1, 3) := by decide +kernel
theorem dX6_lots_196 : decode cX6_lots 196 = .ok (.goto (-140), 3) := by decide +kernel
theorem dX6_lots_199 : decode cX6_lots 199 = .ok (.aload_n 0, 1) := by decide +kernel
theorem dX6_lots_200 : decode cX6_lots 200 = .ok (.getfield 25, 3) := by decide +kernel
theorem dX6_lots_203 : decode cX6_lots 203 = .ok (.iconst 0, 1) := by decide +kernel
theorem dX6_lots_204 : decode cX6_lots 204 = .ok (.iaload, 1) := by decide +kernel
theorem dX6_lots_205 : decode cX6_lots 205 = .ok (.ireturn, 1) := by decide +kernel
theorem dX6_asked_0 : decode cX6_asked 0 = .ok (.aload_n 0, 1) := by decide +kernel
theorem dX6_asked_1 : decode cX6_asked 1 = .ok (.getfield 64, 3) := by decide +kernel
theorem dX6_asked_4 : decode cX6_asked 4 = .ok (.ireturn, 1) := by decide +kernel
theorem dX6_upper_0 : decode cX6_upper 0 = .ok (.aload_n 0, 1) := by decide +kernel
theorem dX6_upper_1 : decode cX6_upper 1 = .ok (.getfield 202, 3) := by decide +kernel
theorem dX6_upper_4 : decode cX6_upper 4 = .ok (.lreturn, 1) := by decide +kernel
theorem dX6_lower_0 : decode cX6_lower 0 = .ok (.aload_n 0, 1) := by decide +kernel
theorem dX6_lower_1 : decode cX6_lower 1 = .ok (.getfield 41, 3) := by decide +kernel
theorem dX6_lower_4 : decode cX6_lower 4 = .ok (.lreturn, 1) := by decide +kernel
theorem dX6_figuresAll_0 : decode cX6_figuresAll 0 = .ok (.iconst 0, 1) := by decide +kernel
theorem dX6_figuresAll_1 : decode cX6_figuresAll 1 = .ok (.istore_n 1, 1) := by decide +kernel
theorem dX6_figuresAll_2 : decode cX6_figuresAll 2 = .ok (.iconst 0, 1) := by decide +kernel
theorem dX6_figuresAll_3 : decode cX6_figuresAll 3 = .ok (.istore_n 2, 1) := by decide +kernel
theorem dX6_figuresAll_4 : decode cX6_figuresAll 4 = .ok (.iload_n 2, 1) := by decide +kernel
theorem dX6_figuresAll_5 : decode cX6_figuresAll 5 = .ok (.iconst 3, 1) := by decide +kernel
theorem dX6_figuresAll_6 : decode cX6_figuresAll 6 = .ok (.aload_n 0, 1) := by decide +kernel
theorem dX6_figuresAll_7 : decode cX6_figuresAll 7 = .ok (.getfield 102, 3) := by decide +kernel
theorem dX6_figuresAll_10 : decode cX6_figuresAll 10 = .ok (.imul, 1) := by decide +kernel
theorem dX6_figuresAll_11 : decode cX6_figuresAll 11 = .ok (.if_icmp .ge 21, 3) := by decide +kernel
theorem dX6_figuresAll_14 : decode cX6_figuresAll 14 = .ok (.iload_n 1, 1) := by decide +kernel
theorem dX6_figuresAll_15 : decode cX6_figuresAll 15 = .ok (.aload_n 0, 1) := by decide +kernel
theorem dX6_figuresAll_16 : decode cX6_figuresAll 16 = .ok (.getfield 25, 3) := by decide +kernel
theorem dX6_figuresAll_19 : decode cX6_figuresAll 19 = .ok (.bipush 6, 2) := by decide +kernel
theorem dX6_figuresAll_21 : decode cX6_figuresAll 21 = .ok (.iload_n 2, 1) := by decide +kernel
theorem dX6_figuresAll_22 : decode cX6_figuresAll 22 = .ok (.iadd, 1) := by decide +kernel
theorem dX6_figuresAll_23 : decode cX6_figuresAll 23 = .ok (.iaload, 1) := by decide +kernel
theorem dX6_figuresAll_24 : decode cX6_figuresAll 24 = .ok (.iadd, 1) := by decide +kernel
theorem dX6_figuresAll_25 : decode cX6_figuresAll 25 = .ok (.istore_n 1, 1) := by decide +kernel
theorem dX6_figuresAll_26 : decode cX6_figuresAll 26 = .ok (.iinc 2 1, 3) := by decide +kernel
theorem dX6_figuresAll_29 : decode cX6_figuresAll 29 = .ok (.goto (-25), 3) := by decide +kernel
theorem dX6_figuresAll_32 : decode cX6_figuresAll 32 = .ok (.iload_n 1, 1) := by decide +kernel
theorem dX6_figuresAll_33 : decode cX6_figuresAll 33 = .ok (.ireturn, 1) := by decide +kernel
theorem dX6_of_0 : decode cX6_of 0 = .ok (.iconst 0, 1) := by decide +kernel
theorem dX6_of_1 : decode cX6_of 1 = .ok (.istore_n 3, 1) := by decide +kernel
theorem dX6_of_2 : decode cX6_of 2 = .ok (.iconst 0, 1) := by decide +kernel
theorem dX6_of_3 : decode cX6_of 3 = .ok (.istore 4, 2) := by decide +kernel
theorem dX6_of_5 : decode cX6_of 5 = .ok (.iload 4, 2) := by decide +kernel
theorem dX6_of_7 : decode cX6_of 7 = .ok (.aload_n 0, 1) := by decide +kernel
theorem dX6_of_8 : decode cX6_of 8 = .ok (.getfield 102, 3) := by decide +kernel
theorem dX6_of_11 : decode cX6_of 11 = .ok (.if_icmp .ge 39, 3) := by decide +kernel
theorem dX6_of_14 : decode cX6_of 14 = .ok (.iload_n 3, 1) := by decide +kernel
theorem dX6_of_15 : decode cX6_of 15 = .ok (.aload_n 0, 1) := by decide +kernel
theorem dX6_of_16 : decode cX6_of 16 = .ok (.getfield 22, 3) := by decide +kernel
theorem dX6_of_19 : decode cX6_of 19 = .ok (.iload 4, 2) := by decide +kernel
theorem dX6_of_21 : decode cX6_of 21 = .ok (.iaload, 1) := by decide +kernel
theorem dX6_of_22 : decode cX6_of 22 = .ok (.iload_n 1, 1) := by decide +kernel
theorem dX6_of_23 : decode cX6_of 23 = .ok (.if_icmp .eq 14, 3) := by decide +kernel
theorem dX6_of_26 : decode cX6_of 26 = .ok (.aload_n 0, 1) := by decide +kernel
theorem dX6_of_27 : decode cX6_of 27 = .ok (.getfield 22, 3) := by decide +kernel
theorem dX6_of_30 : decode cX6_of 30 = .ok (.iload 4, 2) := by decide +kernel
theorem dX6_of_32 : decode cX6_of 32 = .ok (.iaload, 1) := by decide +kernel
theorem dX6_of_33 : decode cX6_of 33 = .ok (.iload_n 2, 1) := by decide +kernel
theorem dX6_of_34 : decode cX6_of 34 = .ok (.if_icmp .ne 7, 3) := by decide +kernel
theorem dX6_of_37 : decode cX6_of 37 = .ok (.iconst 1, 1) := by decide +kernel
theorem dX6_of_38 : decode cX6_of 38 = .ok (.goto 4, 3) := by decide +kernel
theorem dX6_of_41 : decode cX6_of 41 = .ok (.iconst 0, 1) := by decide +kernel
theorem dX6_of_42 : decode cX6_of 42 = .ok (.iadd, 1) := by decide +kernel
theorem dX6_of_43 : decode cX6_of 43 = .ok (.istore_n 3, 1) := by decide +kernel
theorem dX6_of_44 : decode cX6_of 44 = .ok (.iinc 4 1, 3) := by decide +kernel
theorem dX6_of_47 : decode cX6_of 47 = .ok (.goto (-42), 3) := by decide +kernel
theorem dX6_of_50 : decode cX6_of 50 = .ok (.iload_n 3, 1) := by decide +kernel
theorem dX6_of_51 : decode cX6_of 51 = .ok (.ireturn, 1) := by decide +kernel
theorem dX6_there_0 : decode cX6_there 0 = .ok (.iconst 0, 1) := by decide +kernel
theorem dX6_there_1 : decode cX6_there 1 = .ok (.istore_n 2, 1) := by decide +kernel
theorem dX6_there_2 : decode cX6_there 2 = .ok (.iconst 0, 1) := by decide +kernel
theorem dX6_there_3 : decode cX6_there 3 = .ok (.istore_n 3, 1) := by decide +kernel
theorem dX6_there_4 : decode cX6_there 4 = .ok (.iload_n 3, 1) := by decide +kernel
theorem dX6_there_5 : decode cX6_there 5 = .ok (.iload_n 1, 1) := by decide +kernel
theorem dX6_there_6 : decode cX6_there 6 = .ok (.if_icmp .ge 23, 3) := by decide +kernel
theorem dX6_there_9 : decode cX6_there 9 = .ok (.iload_n 2, 1) := by decide +kernel
theorem dX6_there_10 : decode cX6_there 10 = .ok (.aload_n 0, 1) := by decide +kernel
theorem dX6_there_11 : decode cX6_there 11 = .ok (.iload_n 3, 1) := by decide +kernel
theorem dX6_there_12 : decode cX6_there 12 = .ok (.iaload, 1) := by decide +kernel
theorem dX6_there_13 : decode cX6_there 13 = .ok (.ifCond .ge 7, 3) := by decide +kernel
theorem dX6_there_16 : decode cX6_there 16 = .ok (.iconst 0, 1) := by decide +kernel
theorem dX6_there_17 : decode cX6_there 17 = .ok (.goto 4, 3) := by decide +kernel
theorem dX6_there_20 : decode cX6_there 20 = .ok (.iconst 1, 1) := by decide +kernel
theorem dX6_there_21 : decode cX6_there 21 = .ok (.iadd, 1) := by decide +kernel
theorem dX6_there_22 : decode cX6_there 22 = .ok (.istore_n 2, 1) := by decide +kernel
theorem dX6_there_23 : decode cX6_there 23 = .ok (.iinc 3 1, 3) := by decide +kernel
theorem dX6_there_26 : decode cX6_there 26 = .ok (.goto (-22), 3) := by decide +kernel
theorem dX6_there_29 : decode cX6_there 29 = .ok (.iload_n 2, 1) := by decide +kernel
theorem dX6_there_30 : decode cX6_there 30 = .ok (.ireturn, 1) := by decide +kernel
theorem dX6_count_0 : decode cX6_count 0 = .ok (.iload_n 1, 1) := by decide +kernel
theorem dX6_count_1 : decode cX6_count 1 = .ok (.tableswitch 175 0 9 #[55, 60, 68, 73, 92, 97, 104, 111, 121, 130], 55) := by decide +kernel
theorem dX6_count_56 : decode cX6_count 56 = .ok (.aload_n 0, 1) := by decide +kernel
theorem dX6_count_57 : decode cX6_count 57 = .ok (.getfield 102, 3) := by decide +kernel
theorem dX6_count_60 : decode cX6_count 60 = .ok (.ireturn, 1) := by decide +kernel
theorem dX6_count_61 : decode cX6_count 61 = .ok (.aload_n 0, 1) := by decide +kernel
theorem dX6_count_62 : decode cX6_count 62 = .ok (.getfield 25, 3) := by decide +kernel
theorem dX6_count_65 : decode cX6_count 65 = .ok (.bipush 24, 2) := by decide +kernel
theorem dX6_count_67 : decode cX6_count 67 = .ok (.iaload, 1) := by decide +kernel
theorem dX6_count_68 : decode cX6_count 68 = .ok (.ireturn, 1) := by decide +kernel
theorem dX6_count_69 : decode cX6_count 69 = .ok (.aload_n 0, 1) := by decide +kernel
theorem dX6_count_70 : decode cX6_count 70 = .ok (.getfield 109, 3) := by decide +kernel
theorem dX6_count_73 : decode cX6_count 73 = .ok (.ireturn, 1) := by decide +kernel
theorem dX6_count_74 : decode cX6_count 74 = .ok (.aload_n 0, 1) := by decide +kernel
theorem dX6_count_75 : decode cX6_count 75 = .ok (.getfield 102, 3) := by decide +kernel
theorem dX6_count_78 : decode cX6_count 78 = .ok (.ifCond .ne 8, 3) := by decide +kernel
theorem dX6_count_81 : decode cX6_count 81 = .ok (.bipush (-9), 2) := by decide +kernel
theorem dX6_count_83 : decode cX6_count 83 = .ok (.goto 9, 3) := by decide +kernel
theorem dX6_count_86 : decode cX6_count 86 = .ok (.aload_n 0, 1) := by decide +kernel
theorem dX6_count_87 : decode cX6_count 87 = .ok (.getfield 25, 3) := by decide +kernel
theorem dX6_count_90 : decode cX6_count 90 = .ok (.iconst 0, 1) := by decide +kernel
theorem dX6_count_91 : decode cX6_count 91 = .ok (.iaload, 1) := by decide +kernel
theorem dX6_count_92 : decode cX6_count 92 = .ok (.ireturn, 1) := by decide +kernel
theorem dX6_count_93 : decode cX6_count 93 = .ok (.aload_n 0, 1) := by decide +kernel
theorem dX6_count_94 : decode cX6_count 94 = .ok (.invokevirtual 237, 3) := by decide +kernel
theorem dX6_count_97 : decode cX6_count 97 = .ok (.ireturn, 1) := by decide +kernel
theorem dX6_count_98 : decode cX6_count 98 = .ok (.aload_n 0, 1) := by decide +kernel
theorem dX6_count_99 : decode cX6_count 99 = .ok (.iconst 2, 1) := by decide +kernel
theorem dX6_count_100 : decode cX6_count 100 = .ok (.iconst 4, 1) := by decide +kernel
theorem dX6_count_101 : decode cX6_count 101 = .ok (.invokevirtual 241, 3) := by decide +kernel
theorem dX6_count_104 : decode cX6_count 104 = .ok (.ireturn, 1) := by decide +kernel
theorem dX6_count_105 : decode cX6_count 105 = .ok (.aload_n 0, 1) := by decide +kernel
theorem dX6_count_106 : decode cX6_count 106 = .ok (.iconst 3, 1) := by decide +kernel
theorem dX6_count_107 : decode cX6_count 107 = .ok (.iconst 5, 1) := by decide +kernel
theorem dX6_count_108 : decode cX6_count 108 = .ok (.invokevirtual 241, 3) := by decide +kernel
theorem dX6_count_111 : decode cX6_count 111 = .ok (.ireturn, 1) := by decide +kernel
theorem dX6_count_112 : decode cX6_count 112 = .ok (.aload_n 0, 1) := by decide +kernel
theorem dX6_count_113 : decode cX6_count 113 = .ok (.getfield 7, 3) := by decide +kernel
theorem dX6_count_116 : decode cX6_count 116 = .ok (.bipush 6, 2) := by decide +kernel
theorem dX6_count_118 : decode cX6_count 118 = .ok (.invokestatic 244, 3) := by decide +kernel
theorem dX6_count_121 : decode cX6_count 121 = .ok (.ireturn, 1) := by decide +kernel
theorem dX6_count_122 : decode cX6_count 122 = .ok (.aload_n 0, 1) := by decide +kernel
theorem dX6_count_123 : decode cX6_count 123 = .ok (.getfield 16, 3) := by decide +kernel
theorem dX6_count_126 : decode cX6_count 126 = .ok (.iconst 4, 1) := by decide +kernel
theorem dX6_count_127 : decode cX6_count 127 = .ok (.invokestatic 244, 3) := by decide +kernel
theorem dX6_count_130 : decode cX6_count 130 = .ok (.ireturn, 1) := by decide +kernel
theorem dX6_count_131 : decode cX6_count 131 = .ok (.aload_n 0, 1) := by decide +kernel
theorem dX6_count_132 : decode cX6_count 132 = .ok (.getfield 37, 3) := by decide +kernel
theorem dX6_count_135 : decode cX6_count 135 = .ok (.iconst 0, 1) := by decide +kernel
theorem dX6_count_136 : decode cX6_count 136 = .ok (.baload, 1) := by decide +kernel
theorem dX6_count_137 : decode cX6_count 137 = .ok (.ifCond .eq 7, 3) := by decide +kernel
theorem dX6_count_140 : decode cX6_count 140 = .ok (.iconst 1, 1) := by decide +kernel
theorem dX6_count_141 : decode cX6_count 141 = .ok (.goto 4, 3) := by decide +kernel
theorem dX6_count_144 : decode cX6_count 144 = .ok (.iconst 0, 1) := by decide +kernel
theorem dX6_count_145 : decode cX6_count 145 = .ok (.aload_n 0, 1) := by decide +kernel
theorem dX6_count_146 : decode cX6_count 146 = .ok (.getfield 37, 3) := by decide +kernel
theorem dX6_count_149 : decode cX6_count 149 = .ok (.iconst 1, 1) := by decide +kernel
theorem dX6_count_150 : decode cX6_count 150 = .ok (.baload, 1) := by decide +kernel
theorem dX6_count_151 : decode cX6_count 151 = .ok (.ifCond .eq 7, 3) := by decide +kernel
theorem dX6_count_154 : decode cX6_count 154 = .ok (.iconst 1, 1) := by decide +kernel
theorem dX6_count_155 : decode cX6_count 155 = .ok (.goto 4, 3) := by decide +kernel
theorem dX6_count_158 : decode cX6_count 158 = .ok (.iconst 0, 1) := by decide +kernel
theorem dX6_count_159 : decode cX6_count 159 = .ok (.iadd, 1) := by decide +kernel
theorem dX6_count_160 : decode cX6_count 160 = .ok (.aload_n 0, 1) := by decide +kernel
theorem dX6_count_161 : decode cX6_count 161 = .ok (.getfield 37, 3) := by decide +kernel
theorem dX6_count_164 : decode cX6_count 164 = .ok (.iconst 2, 1) := by decide +kernel
theorem dX6_count_165 : decode cX6_count 165 = .ok (.baload, 1) := by decide +kernel
theorem dX6_count_166 : decode cX6_count 166 = .ok (.ifCond .eq 7, 3) := by decide +kernel
theorem dX6_count_169 : decode cX6_count 169 = .ok (.iconst 1, 1) := by decide +kernel
theorem dX6_count_170 : decode cX6_count 170 = .ok (.goto 4, 3) := by decide +kernel
theorem dX6_count_173 : decode cX6_count 173 = .ok (.iconst 0, 1) := by decide +kernel
theorem dX6_count_174 : decode cX6_count 174 = .ok (.iadd, 1) := by decide +kernel
theorem dX6_count_175 : decode cX6_count 175 = .ok (.ireturn, 1) := by decide +kernel
theorem dX6_count_176 : decode cX6_count 176 = .ok (.iconst (-1), 1) := by decide +kernel
theorem dX6_count_177 : decode cX6_count 177 = .ok (.ireturn, 1) := by decide +kernel
theorem dX6_finding_0 : decode cX6_finding 0 = .ok (.aload_n 0, 1) := by decide +kernel
theorem dX6_finding_1 : decode cX6_finding 1 = .ok (.getfield 60, 3) := by decide +kernel
theorem dX6_finding_4 : decode cX6_finding 4 = .ok (.ireturn, 1) := by decide +kernel
theorem dX6_findings_0 : decode cX6_findings 0 = .ok (.iload_n 1, 1) := by decide +kernel
theorem dX6_findings_1 : decode cX6_findings 1 = .ok (.i2l, 1) := by decide +kernel
theorem dX6_findings_2 : decode cX6_findings 2 = .ok (.lconst 1, 1) := by decide +kernel
theorem dX6_findings_3 : decode cX6_findings 3 = .ok (.ldc2_w 67, 3) := by decide +kernel
theorem dX6_findings_6 : decode cX6_findings 6 = .ok (.invokestatic 69, 3) := by decide +kernel
theorem dX6_findings_9 : decode cX6_findings 9 = .ok (.ifCond .eq 12, 3) := by decide +kernel
theorem dX6_findings_12 : decode cX6_findings 12 = .ok (.aload_n 0, 1) := by decide +kernel
theorem dX6_findings_13 : decode cX6_findings 13 = .ok (.getfield 45, 3) := by decide +kernel
theorem dX6_findings_16 : decode cX6_findings 16 = .ok (.iload_n 1, 1) := by decide +kernel
theorem dX6_findings_17 : decode cX6_findings 17 = .ok (.iaload, 1) := by decide +kernel
theorem dX6_findings_18 : decode cX6_findings 18 = .ok (.goto 4, 3) := by decide +kernel
theorem dX6_findings_21 : decode cX6_findings 21 = .ok (.iconst (-1), 1) := by decide +kernel
theorem dX6_findings_22 : decode cX6_findings 22 = .ok (.ireturn, 1) := by decide +kernel
theorem dX6_digest_0 : decode cX6_digest 0 = .ok (.ldc2_w 247, 3) := by decide +kernel
theorem dX6_digest_3 : decode cX6_digest 3 = .ok (.lstore_n 1, 1) := by decide +kernel
theorem dX6_digest_4 : decode cX6_digest 4 = .ok (.iconst 0, 1) := by decide +kernel
theorem dX6_digest_5 : decode cX6_digest 5 = .ok (.istore_n 3, 1) := by decide +kernel
theorem dX6_digest_6 : decode cX6_digest 6 = .ok (.iload_n 3, 1) := by decide +kernel
theorem dX6_digest_7 : decode cX6_digest 7 = .ok (.bipush 10, 2) := by decide +kernel
theorem dX6_digest_9 : decode cX6_digest 9 = .ok (.if_icmp .ge 22, 3) := by decide +kernel
theorem dX6_digest_12 : decode cX6_digest 12 = .ok (.ldc2_w 249, 3) := by decide +kernel
theorem dX6_digest_15 : decode cX6_digest 15 = .ok (.lload_n 1, 1) := by decide +kernel
theorem dX6_digest_16 : decode cX6_digest 16 = .ok (.lmul, 1) := by decide +kernel
theorem dX6_digest_17 : decode cX6_digest 17 = .ok (.aload_n 0, 1) := by decide +kernel
theorem dX6_digest_18 : decode cX6_digest 18 = .ok (.iload_n 3, 1) := by decide +kernel
theorem dX6_digest_19 : decode cX6_digest 19 = .ok (.invokevirtual 251, 3) := by decide +kernel
theorem dX6_digest_22 : decode cX6_digest 22 = .ok (.i2l, 1) := by decide +kernel
theorem dX6_digest_23 : decode cX6_digest 23 = .ok (.ladd, 1) := by decide +kernel
theorem dX6_digest_24 : decode cX6_digest 24 = .ok (.lstore_n 1, 1) := by decide +kernel
theorem dX6_digest_25 : decode cX6_digest 25 = .ok (.iinc 3 1, 3) := by decide +kernel
theorem dX6_digest_28 : decode cX6_digest 28 = .ok (.goto (-22), 3) := by decide +kernel
theorem dX6_digest_31 : decode cX6_digest 31 = .ok (.iconst 0, 1) := by decide +kernel
theorem dX6_digest_32 : decode cX6_digest 32 = .ok (.istore_n 3, 1) := by decide +kernel
theorem dX6_digest_33 : decode cX6_digest 33 = .ok (.iload_n 3, 1) := by decide +kernel
theorem dX6_digest_34 : decode cX6_digest 34 = .ok (.aload_n 0, 1) := by decide +kernel
theorem dX6_digest_35 : decode cX6_digest 35 = .ok (.getfield 102, 3) := by decide +kernel
theorem dX6_digest_38 : decode cX6_digest 38 = .ok (.if_icmp .ge 110, 3) := by decide +kernel
theorem dX6_digest_41 : decode cX6_digest 41 = .ok (.ldc2_w 249, 3) := by decide +kernel
theorem dX6_digest_44 : decode cX6_digest 44 = .ok (.lload_n 1, 1) := by decide +kernel
theorem dX6_digest_45 : decode cX6_digest 45 = .ok (.lmul, 1) := by decide +kernel
theorem dX6_digest_46 : decode cX6_digest 46 = .ok (.aload_n 0, 1) := by decide +kernel
theorem dX6_digest_47 : decode cX6_digest 47 = .ok (.getfield 22, 3) := by decide +kernel
theorem dX6_digest_50 : decode cX6_digest 50 = .ok (.iload_n 3, 1) := by decide +kernel
theorem dX6_digest_51 : decode cX6_digest 51 = .ok (.iaload, 1) := by decide +kernel
theorem dX6_digest_52 : decode cX6_digest 52 = .ok (.i2l, 1) := by decide +kernel
theorem dX6_digest_53 : decode cX6_digest 53 = .ok (.ladd, 1) := by decide +kernel
theorem dX6_digest_54 : decode cX6_digest 54 = .ok (.lstore_n 1, 1) := by decide +kernel
theorem dX6_digest_55 : decode cX6_digest 55 = .ok (.iconst 0, 1) := by decide +kernel
theorem dX6_digest_56 : decode cX6_digest 56 = .ok (.istore 4, 2) := by decide +kernel
theorem dX6_digest_58 : decode cX6_digest 58 = .ok (.iload 4, 2) := by decide +kernel
theorem dX6_digest_60 : decode cX6_digest 60 = .ok (.iconst 3, 1) := by decide +kernel
theorem dX6_digest_61 : decode cX6_digest 61 = .ok (.if_icmp .ge 31, 3) := by decide +kernel
theorem dX6_digest_64 : decode cX6_digest 64 = .ok (.ldc2_w 249, 3) := by decide +kernel
theorem dX6_digest_67 : decode cX6_digest 67 = .ok (.lload_n 1, 1) := by decide +kernel
theorem dX6_digest_68 : decode cX6_digest 68 = .ok (.lmul, 1) := by decide +kernel
theorem dX6_digest_69 : decode cX6_digest 69 = .ok (.aload_n 0, 1) := by decide +kernel
theorem dX6_digest_70 : decode cX6_digest 70 = .ok (.getfield 25, 3) := by decide +kernel
theorem dX6_digest_73 : decode cX6_digest 73 = .ok (.bipush 6, 2) := by decide +kernel
theorem dX6_digest_75 : decode cX6_digest 75 = .ok (.iconst 3, 1) := by decide +kernel
theorem dX6_digest_76 : decode cX6_digest 76 = .ok (.iload_n 3, 1) := by decide +kernel
theorem dX6_digest_77 : decode cX6_digest 77 = .ok (.imul, 1) := by decide +kernel
theorem dX6_digest_78 : decode cX6_digest 78 = .ok (.iadd, 1) := by decide +kernel
theorem dX6_digest_79 : decode cX6_digest 79 = .ok (.iload 4, 2) := by decide +kernel
theorem dX6_digest_81 : decode cX6_digest 81 = .ok (.iadd, 1) := by decide +kernel
theorem dX6_digest_82 : decode cX6_digest 82 = .ok (.iaload, 1) := by decide +kernel
theorem dX6_digest_83 : decode cX6_digest 83 = .ok (.i2l, 1) := by decide +kernel
theorem dX6_digest_84 : decode cX6_digest 84 = .ok (.ladd, 1) := by decide +kernel
theorem dX6_digest_85 : decode cX6_digest 85 = .ok (.lstore_n 1, 1) := by decide +kernel
theorem dX6_digest_86 : decode cX6_digest 86 = .ok (.iinc 4 1, 3) := by decide +kernel
theorem dX6_digest_89 : decode cX6_digest 89 = .ok (.goto (-31), 3) := by decide +kernel
theorem dX6_digest_92 : decode cX6_digest 92 = .ok (.ldc2_w 249, 3) := by decide +kernel
theorem dX6_digest_95 : decode cX6_digest 95 = .ok (.lload_n 1, 1) := by decide +kernel
theorem dX6_digest_96 : decode cX6_digest 96 = .ok (.lmul, 1) := by decide +kernel
theorem dX6_digest_97 : decode cX6_digest 97 = .ok (.aload_n 0, 1) := by decide +kernel
theorem dX6_digest_98 : decode cX6_digest 98 = .ok (.getfield 25, 3) := by decide +kernel
theorem dX6_digest_101 : decode cX6_digest 101 = .ok (.iload_n 3, 1) := by decide +kernel
theorem dX6_digest_102 : decode cX6_digest 102 = .ok (.invokestatic 139, 3) := by decide +kernel
theorem dX6_digest_105 : decode cX6_digest 105 = .ok (.i2l, 1) := by decide +kernel
theorem dX6_digest_106 : decode cX6_digest 106 = .ok (.ladd, 1) := by decide +kernel
theorem dX6_digest_107 : decode cX6_digest 107 = .ok (.lstore_n 1, 1) := by decide +kernel
theorem dX6_digest_108 : decode cX6_digest 108 = .ok (.iconst 0, 1) := by decide +kernel
theorem dX6_digest_109 : decode cX6_digest 109 = .ok (.istore 4, 2) := by decide +kernel
theorem dX6_digest_111 : decode cX6_digest 111 = .ok (.iload 4, 2) := by decide +kernel
theorem dX6_digest_113 : decode cX6_digest 113 = .ok (.iconst 3, 1) := by decide +kernel
theorem dX6_digest_114 : decode cX6_digest 114 = .ok (.if_icmp .ge 28, 3) := by decide +kernel
theorem dX6_digest_117 : decode cX6_digest 117 = .ok (.ldc2_w 249, 3) := by decide +kernel
theorem dX6_digest_120 : decode cX6_digest 120 = .ok (.lload_n 1, 1) := by decide +kernel
theorem dX6_digest_121 : decode cX6_digest 121 = .ok (.lmul, 1) := by decide +kernel
theorem dX6_digest_122 : decode cX6_digest 122 = .ok (.aload_n 0, 1) := by decide +kernel
theorem dX6_digest_123 : decode cX6_digest 123 = .ok (.aload_n 0, 1) := by decide +kernel
theorem dX6_digest_124 : decode cX6_digest 124 = .ok (.getfield 25, 3) := by decide +kernel
theorem dX6_digest_127 : decode cX6_digest 127 = .ok (.iload_n 3, 1) := by decide +kernel
theorem dX6_digest_128 : decode cX6_digest 128 = .ok (.iload 4, 2) := by decide +kernel
theorem dX6_digest_130 : decode cX6_digest 130 = .ok (.invokevirtual 126, 3) := by decide +kernel
theorem dX6_digest_133 : decode cX6_digest 133 = .ok (.i2l, 1) := by decide +kernel
theorem dX6_digest_134 : decode cX6_digest 134 = .ok (.ladd, 1) := by decide +kernel
theorem dX6_digest_135 : decode cX6_digest 135 = .ok (.lstore_n 1, 1) := by decide +kernel
theorem dX6_digest_136 : decode cX6_digest 136 = .ok (.iinc 4 1, 3) := by decide +kernel
theorem dX6_digest_139 : decode cX6_digest 139 = .ok (.goto (-28), 3) := by decide +kernel
theorem dX6_digest_142 : decode cX6_digest 142 = .ok (.iinc 3 1, 3) := by decide +kernel
theorem dX6_digest_145 : decode cX6_digest 145 = .ok (.goto (-112), 3) := by decide +kernel
theorem dX6_digest_148 : decode cX6_digest 148 = .ok (.iconst 0, 1) := by decide +kernel
theorem dX6_digest_149 : decode cX6_digest 149 = .ok (.istore_n 3, 1) := by decide +kernel
theorem dX6_digest_150 : decode cX6_digest 150 = .ok (.iload_n 3, 1) := by decide +kernel
theorem dX6_digest_151 : decode cX6_digest 151 = .ok (.iconst 3, 1) := by decide +kernel
theorem dX6_digest_152 : decode cX6_digest 152 = .ok (.if_icmp .ge 43, 3) := by decide +kernel
theorem dX6_digest_155 : decode cX6_digest 155 = .ok (.ldc2_w 249, 3) := by decide +kernel
theorem dX6_digest_158 : decode cX6_digest 158 = .ok (.lload_n 1, 1) := by decide +kernel
theorem dX6_digest_159 : decode cX6_digest 159 = .ok (.lmul, 1) := by decide +kernel
theorem dX6_digest_160 : decode cX6_digest 160 = .ok (.aload_n 0, 1) := by decide +kernel
theorem dX6_digest_161 : decode cX6_digest 161 = .ok (.getfield 37, 3) := by decide +kernel
theorem dX6_digest_164 : decode cX6_digest 164 = .ok (.iload_n 3, 1) := by decide +kernel
theorem dX6_digest_165 : decode cX6_digest 165 = .ok (.baload, 1) := by decide +kernel
theorem dX6_digest_166 : decode cX6_digest 166 = .ok (.ifCond .eq 19, 3) := by decide +kernel
theorem dX6_digest_169 : decode cX6_digest 169 = .ok (.aload_n 0, 1) := by decide +kernel
theorem dX6_digest_170 : decode cX6_digest 170 = .ok (.getfield 34, 3) := by decide +kernel
theorem dX6_digest_173 : decode cX6_digest 173 = .ok (.sipush 1026, 3) := by decide +kernel
theorem dX6_digest_176 : decode cX6_digest 176 = .ok (.iload_n 3, 1) := by decide +kernel
theorem dX6_digest_177 : decode cX6_digest 177 = .ok (.imul, 1) := by decide +kernel
theorem dX6_digest_178 : decode cX6_digest 178 = .ok (.bipush 25, 2) := by decide +kernel
theorem dX6_digest_180 : decode cX6_digest 180 = .ok (.iadd, 1) := by decide +kernel
theorem dX6_digest_181 : decode cX6_digest 181 = .ok (.iaload, 1) := by decide +kernel
theorem dX6_digest_182 : decode cX6_digest 182 = .ok (.goto 4, 3) := by decide +kernel
theorem dX6_digest_185 : decode cX6_digest 185 = .ok (.iconst (-1), 1) := by decide +kernel
theorem dX6_digest_186 : decode cX6_digest 186 = .ok (.i2l, 1) := by decide +kernel
theorem dX6_digest_187 : decode cX6_digest 187 = .ok (.ladd, 1) := by decide +kernel
theorem dX6_digest_188 : decode cX6_digest 188 = .ok (.lstore_n 1, 1) := by decide +kernel
theorem dX6_digest_189 : decode cX6_digest 189 = .ok (.iinc 3 1, 3) := by decide +kernel
theorem dX6_digest_192 : decode cX6_digest 192 = .ok (.goto (-42), 3) := by decide +kernel
theorem dX6_digest_195 : decode cX6_digest 195 = .ok (.iconst 0, 1) := by decide +kernel
theorem dX6_digest_196 : decode cX6_digest 196 = .ok (.istore_n 3, 1) := by decide +kernel
theorem dX6_digest_197 : decode cX6_digest 197 = .ok (.iload_n 3, 1) := by decide +kernel
theorem dX6_digest_198 : decode cX6_digest 198 = .ok (.bipush 6, 2) := by decide +kernel
theorem dX6_digest_200 : decode cX6_digest 200 = .ok (.if_icmp .ge 63, 3) := by decide +kernel
theorem dX6_digest_203 : decode cX6_digest 203 = .ok (.ldc2_w 249, 3) := by decide +kernel
theorem dX6_digest_206 : decode cX6_digest 206 = .ok (.lload_n 1, 1) := by decide +kernel
theorem dX6_digest_207 : decode cX6_digest 207 = .ok (.lmul, 1) := by decide +kernel
theorem dX6_digest_208 : decode cX6_digest 208 = .ok (.aload_n 0, 1) := by decide +kernel
theorem dX6_digest_209 : decode cX6_digest 209 = .ok (.getfield 7, 3) := by decide +kernel
theorem dX6_digest_212 : decode cX6_digest 212 = .ok (.iload_n 3, 1) := by decide +kernel
theorem dX6_digest_213 : decode cX6_digest 213 = .ok (.iaload, 1) := by decide +kernel
theorem dX6_digest_214 : decode cX6_digest 214 = .ok (.i2l, 1) := by decide +kernel
theorem dX6_digest_215 : decode cX6_digest 215 = .ok (.ladd, 1) := by decide +kernel
theorem dX6_digest_216 : decode cX6_digest 216 = .ok (.lstore_n 1, 1) := by decide +kernel
theorem dX6_digest_217 : decode cX6_digest 217 = .ok (.iconst 0, 1) := by decide +kernel
theorem dX6_digest_218 : decode cX6_digest 218 = .ok (.istore 4, 2) := by decide +kernel
theorem dX6_digest_220 : decode cX6_digest 220 = .ok (.iload 4, 2) := by decide +kernel
theorem dX6_digest_222 : decode cX6_digest 222 = .ok (.aload_n 0, 1) := by decide +kernel
theorem dX6_digest_223 : decode cX6_digest 223 = .ok (.getfield 7, 3) := by decide +kernel
theorem dX6_digest_226 : decode cX6_digest 226 = .ok (.iload_n 3, 1) := by decide +kernel
theorem dX6_digest_227 : decode cX6_digest 227 = .ok (.iaload, 1) := by decide +kernel
theorem dX6_digest_228 : decode cX6_digest 228 = .ok (.if_icmp .ge 29, 3) := by decide +kernel
theorem dX6_digest_231 : decode cX6_digest 231 = .ok (.ldc2_w 249, 3) := by decide +kernel
theorem dX6_digest_234 : decode cX6_digest 234 = .ok (.lload_n 1, 1) := by decide +kernel
theorem dX6_digest_235 : decode cX6_digest 235 = .ok (.lmul, 1) := by decide +kernel
theorem dX6_digest_236 : decode cX6_digest 236 = .ok (.aload_n 0, 1) := by decide +kernel
theorem dX6_digest_237 : decode cX6_digest 237 = .ok (.getfield 13, 3) := by decide +kernel
theorem dX6_digest_240 : decode cX6_digest 240 = .ok (.bipush 40, 2) := by decide +kernel
theorem dX6_digest_242 : decode cX6_digest 242 = .ok (.iload_n 3, 1) := by decide +kernel
theorem dX6_digest_243 : decode cX6_digest 243 = .ok (.imul, 1) := by decide +kernel
theorem dX6_digest_244 : decode cX6_digest 244 = .ok (.iload 4, 2) := by decide +kernel
theorem dX6_digest_246 : decode cX6_digest 246 = .ok (.iadd, 1) := by decide +kernel
theorem dX6_digest_247 : decode cX6_digest 247 = .ok (.iaload, 1) := by decide +kernel
theorem dX6_digest_248 : decode cX6_digest 248 = .ok (.i2l, 1) := by decide +kernel
theorem dX6_digest_249 : decode cX6_digest 249 = .ok (.ladd, 1) := by decide +kernel
theorem dX6_digest_250 : decode cX6_digest 250 = .ok (.lstore_n 1, 1) := by decide +kernel
theorem dX6_digest_251 : decode cX6_digest 251 = .ok (.iinc 4 1, 3) := by decide +kernel
theorem dX6_digest_254 : decode cX6_digest 254 = .ok (.goto (-34), 3) := by decide +kernel
theorem dX6_digest_257 : decode cX6_digest 257 = .ok (.iinc 3 1, 3) := by decide +kernel
theorem dX6_digest_260 : decode cX6_digest 260 = .ok (.goto (-63), 3) := by decide +kernel
theorem dX6_digest_263 : decode cX6_digest 263 = .ok (.iconst 0, 1) := by decide +kernel
theorem dX6_digest_264 : decode cX6_digest 264 = .ok (.istore_n 3, 1) := by decide +kernel
theorem dX6_digest_265 : decode cX6_digest 265 = .ok (.iload_n 3, 1) := by decide +kernel
theorem dX6_digest_266 : decode cX6_digest 266 = .ok (.iconst 4, 1) := by decide +kernel
theorem dX6_digest_267 : decode cX6_digest 267 = .ok (.if_icmp .ge 63, 3) := by decide +kernel
theorem dX6_digest_270 : decode cX6_digest 270 = .ok (.ldc2_w 249, 3) := by decide +kernel
theorem dX6_digest_273 : decode cX6_digest 273 = .ok (.lload_n 1, 1) := by decide +kernel
theorem dX6_digest_274 : decode cX6_digest 274 = .ok (.lmul, 1) := by decide +kernel
theorem dX6_digest_275 : decode cX6_digest 275 = .ok (.aload_n 0, 1) := by decide +kernel
theorem dX6_digest_276 : decode cX6_digest 276 = .ok (.getfield 16, 3) := by decide +kernel
theorem dX6_digest_279 : decode cX6_digest 279 = .ok (.iload_n 3, 1) := by decide +kernel
theorem dX6_digest_280 : decode cX6_digest 280 = .ok (.iaload, 1) := by decide +kernel
theorem dX6_digest_281 : decode cX6_digest 281 = .ok (.i2l, 1) := by decide +kernel
theorem dX6_digest_282 : decode cX6_digest 282 = .ok (.ladd, 1) := by decide +kernel
theorem dX6_digest_283 : decode cX6_digest 283 = .ok (.lstore_n 1, 1) := by decide +kernel
theorem dX6_digest_284 : decode cX6_digest 284 = .ok (.iconst 0, 1) := by decide +kernel
theorem dX6_digest_285 : decode cX6_digest 285 = .ok (.istore 4, 2) := by decide +kernel
theorem dX6_digest_287 : decode cX6_digest 287 = .ok (.iload 4, 2) := by decide +kernel
theorem dX6_digest_289 : decode cX6_digest 289 = .ok (.aload_n 0, 1) := by decide +kernel
theorem dX6_digest_290 : decode cX6_digest 290 = .ok (.getfield 16, 3) := by decide +kernel
theorem dX6_digest_293 : decode cX6_digest 293 = .ok (.iload_n 3, 1) := by decide +kernel
theorem dX6_digest_294 : decode cX6_digest 294 = .ok (.iaload, 1) := by decide +kernel
theorem dX6_digest_295 : decode cX6_digest 295 = .ok (.if_icmp .ge 29, 3) := by decide +kernel
theorem dX6_digest_298 : decode cX6_digest 298 = .ok (.ldc2_w 249, 3) := by decide +kernel
theorem dX6_digest_301 : decode cX6_digest 301 = .ok (.lload_n 1, 1) := by decide +kernel
theorem dX6_digest_302 : decode cX6_digest 302 = .ok (.lmul, 1) := by decide +kernel
theorem dX6_digest_303 : decode cX6_digest 303 = .ok (.aload_n 0, 1) := by decide +kernel
theorem dX6_digest_304 : decode cX6_digest 304 = .ok (.getfield 19, 3) := by decide +kernel
theorem dX6_digest_307 : decode cX6_digest 307 = .ok (.bipush 60, 2) := by decide +kernel
theorem dX6_digest_309 : decode cX6_digest 309 = .ok (.iload_n 3, 1) := by decide +kernel
theorem dX6_digest_310 : decode cX6_digest 310 = .ok (.imul, 1) := by decide +kernel
theorem dX6_digest_311 : decode cX6_digest 311 = .ok (.iload 4, 2) := by decide +kernel
theorem dX6_digest_313 : decode cX6_digest 313 = .ok (.iadd, 1) := by decide +kernel
theorem dX6_digest_314 : decode cX6_digest 314 = .ok (.iaload, 1) := by decide +kernel
theorem dX6_digest_315 : decode cX6_digest 315 = .ok (.i2l, 1) := by decide +kernel
theorem dX6_digest_316 : decode cX6_digest 316 = .ok (.ladd, 1) := by decide +kernel
theorem dX6_digest_317 : decode cX6_digest 317 = .ok (.lstore_n 1, 1) := by decide +kernel
theorem dX6_digest_318 : decode cX6_digest 318 = .ok (.iinc 4 1, 3) := by decide +kernel
theorem dX6_digest_321 : decode cX6_digest 321 = .ok (.goto (-34), 3) := by decide +kernel
theorem dX6_digest_324 : decode cX6_digest 324 = .ok (.iinc 3 1, 3) := by decide +kernel
theorem dX6_digest_327 : decode cX6_digest 327 = .ok (.goto (-62), 3) := by decide +kernel
theorem dX6_digest_330 : decode cX6_digest 330 = .ok (.lload_n 1, 1) := by decide +kernel
theorem dX6_digest_331 : decode cX6_digest 331 = .ok (.lreturn, 1) := by decide +kernel
theorem dL_law_0 : decode cL_law 0 = .ok (.new 7, 3) := by decide +kernel
theorem dL_law_3 : decode cL_law 3 = .ok (.dup, 1) := by decide +kernel
theorem dL_law_4 : decode cL_law 4 = .ok (.invokespecial 9, 3) := by decide +kernel
theorem dL_law_7 : decode cL_law 7 = .ok (.astore_n 1, 1) := by decide +kernel
theorem dL_law_8 : decode cL_law 8 = .ok (.new 10, 3) := by decide +kernel
theorem dL_law_11 : decode cL_law 11 = .ok (.dup, 1) := by decide +kernel
theorem dL_law_12 : decode cL_law 12 = .ok (.invokespecial 12, 3) := by decide +kernel
theorem dL_law_15 : decode cL_law 15 = .ok (.astore_n 2, 1) := by decide +kernel
theorem dL_law_16 : decode cL_law 16 = .ok (.iconst 0, 1) := by decide +kernel
theorem dL_law_17 : decode cL_law 17 = .ok (.istore_n 3, 1) := by decide +kernel
theorem dL_law_18 : decode cL_law 18 = .ok (.iload_n 3, 1) := by decide +kernel
theorem dL_law_19 : decode cL_law 19 = .ok (.aload_n 0, 1) := by decide +kernel
theorem dL_law_20 : decode cL_law 20 = .ok (.arraylength, 1) := by decide +kernel
theorem dL_law_21 : decode cL_law 21 = .ok (.bipush 6, 2) := by decide +kernel
theorem dL_law_23 : decode cL_law 23 = .ok (.isub, 1) := by decide +kernel
theorem dL_law_24 : decode cL_law 24 = .ok (.if_icmp .gt 1393, 3) := by decide +kernel
theorem dL_law_27 : decode cL_law 27 = .ok (.aload_n 0, 1) := by decide +kernel
theorem dL_law_28 : decode cL_law 28 = .ok (.iload_n 3, 1) := by decide +kernel
theorem dL_law_29 : decode cL_law 29 = .ok (.iaload, 1) := by decide +kernel
theorem dL_law_30 : decode cL_law 30 = .ok (.bipush 63, 2) := by decide +kernel
theorem dL_law_32 : decode cL_law 32 = .ok (.iand, 1) := by decide +kernel
theorem dL_law_33 : decode cL_law 33 = .ok (.tableswitch 1378 0 39 #[175, 208, 251, 284, 307, 370, 393, 426, 469, 492, 515, 548, 581, 604, 617, 640, 683, 706, 729, 752, 795, 828, 871, 904, 927, 960, 1003, 1036, 1069, 1102, 1145, 1188, 1231, 1264, 1277, 1291, 1305, 1328, 1341, 1364], 175) := by decide +kernel
theorem dL_law_208 : decode cL_law 208 = .ok (.aload_n 1, 1) := by decide +kernel
theorem dL_law_209 : decode cL_law 209 = .ok (.aload_n 0, 1) := by decide +kernel
theorem dL_law_210 : decode cL_law 210 = .ok (.iload_n 3, 1) := by decide +kernel
theorem dL_law_211 : decode cL_law 211 = .ok (.iconst 1, 1) := by decide +kernel
theorem dL_law_212 : decode cL_law 212 = .ok (.iadd, 1) := by decide +kernel
theorem dL_law_213 : decode cL_law 213 = .ok (.iaload, 1) := by decide +kernel
theorem dL_law_214 : decode cL_law 214 = .ok (.aload_n 0, 1) := by decide +kernel
theorem dL_law_215 : decode cL_law 215 = .ok (.iload_n 3, 1) := by decide +kernel
theorem dL_law_216 : decode cL_law 216 = .ok (.iconst 2, 1) := by decide +kernel
theorem dL_law_217 : decode cL_law 217 = .ok (.iadd, 1) := by decide +kernel
theorem dL_law_218 : decode cL_law 218 = .ok (.iaload, 1) := by decide +kernel
theorem dL_law_219 : decode cL_law 219 = .ok (.invokevirtual 13, 3) := by decide +kernel
theorem dL_law_222 : decode cL_law 222 = .ok (.aload_n 2, 1) := by decide +kernel
theorem dL_law_223 : decode cL_law 223 = .ok (.aload_n 0, 1) := by decide +kernel
theorem dL_law_224 : decode cL_law 224 = .ok (.iload_n 3, 1) := by decide +kernel
theorem dL_law_225 : decode cL_law 225 = .ok (.iconst 1, 1) := by decide +kernel
theorem dL_law_226 : decode cL_law 226 = .ok (.iadd, 1) := by decide +kernel
theorem dL_law_227 : decode cL_law 227 = .ok (.iaload, 1) := by decide +kernel
theorem dL_law_228 : decode cL_law 228 = .ok (.aload_n 0, 1) := by decide +kernel
theorem dL_law_229 : decode cL_law 229 = .ok (.iload_n 3, 1) := by decide +kernel
theorem dL_law_230 : decode cL_law 230 = .ok (.iconst 2, 1) := by decide +kernel
theorem dL_law_231 : decode cL_law 231 = .ok (.iadd, 1) := by decide +kernel
theorem dL_law_232 : decode cL_law 232 = .ok (.iaload, 1) := by decide +kernel
theorem dL_law_233 : decode cL_law 233 = .ok (.invokevirtual 17, 3) := by decide +kernel
theorem dL_law_236 : decode cL_law 236 = .ok (.if_icmp .eq 1175, 3) := by decide +kernel
theorem dL_law_239 : decode cL_law 239 = .ok (.iconst 0, 1) := by decide +kernel
theorem dL_law_240 : decode cL_law 240 = .ok (.ireturn, 1) := by decide +kernel
theorem dL_law_241 : decode cL_law 241 = .ok (.aload_n 1, 1) := by decide +kernel
theorem dL_law_242 : decode cL_law 242 = .ok (.aload_n 0, 1) := by decide +kernel
theorem dL_law_243 : decode cL_law 243 = .ok (.iload_n 3, 1) := by decide +kernel
theorem dL_law_244 : decode cL_law 244 = .ok (.iconst 1, 1) := by decide +kernel
theorem dL_law_245 : decode cL_law 245 = .ok (.iadd, 1) := by decide +kernel
theorem dL_law_246 : decode cL_law 246 = .ok (.iaload, 1) := by decide +kernel
theorem dL_law_247 : decode cL_law 247 = .ok (.aload_n 0, 1) := by decide +kernel
theorem dL_law_248 : decode cL_law 248 = .ok (.iload_n 3, 1) := by decide +kernel
theorem dL_law_249 : decode cL_law 249 = .ok (.iconst 2, 1) := by decide +kernel
theorem dL_law_250 : decode cL_law 250 = .ok (.iadd, 1) := by decide +kernel
theorem dL_law_251 : decode cL_law 251 = .ok (.iaload, 1) := by decide +kernel
theorem dL_law_252 : decode cL_law 252 = .ok (.aload_n 0, 1) := by decide +kernel
theorem dL_law_253 : decode cL_law 253 = .ok (.iload_n 3, 1) := by decide +kernel
theorem dL_law_254 : decode cL_law 254 = .ok (.iconst 3, 1) := by decide +kernel
theorem dL_law_255 : decode cL_law 255 = .ok (.iadd, 1) := by decide +kernel
theorem dL_law_256 : decode cL_law 256 = .ok (.iaload, 1) := by decide +kernel
theorem dL_law_257 : decode cL_law 257 = .ok (.invokevirtual 18, 3) := by decide +kernel
theorem dL_law_260 : decode cL_law 260 = .ok (.aload_n 2, 1) := by decide +kernel
theorem dL_law_261 : decode cL_law 261 = .ok (.aload_n 0, 1) := by decide +kernel
theorem dL_law_262 : decode cL_law 262 = .ok (.iload_n 3, 1) := by decide +kernel
theorem dL_law_263 : decode cL_law 263 = .ok (.iconst 1, 1) := by decide +kernel
theorem dL_law_264 : decode cL_law 264 = .ok (.iadd, 1) := by decide +kernel
theorem dL_law_265 : decode cL_law 265 = .ok (.iaload, 1) := by decide +kernel
theorem dL_law_266 : decode cL_law 266 = .ok (.aload_n 0, 1) := by decide +kernel
theorem dL_law_267 : decode cL_law 267 = .ok (.iload_n 3, 1) := by decide +kernel
theorem dL_law_268 : decode cL_law 268 = .ok (.iconst 2, 1) := by decide +kernel
theorem dL_law_269 : decode cL_law 269 = .ok (.iadd, 1) := by decide +kernel
theorem dL_law_270 : decode cL_law 270 = .ok (.iaload, 1) := by decide +kernel
theorem dL_law_271 : decode cL_law 271 = .ok (.aload_n 0, 1) := by decide +kernel
theorem dL_law_272 : decode cL_law 272 = .ok (.iload_n 3, 1) := by decide +kernel
theorem dL_law_273 : decode cL_law 273 = .ok (.iconst 3, 1) := by decide +kernel
theorem dL_law_274 : decode cL_law 274 = .ok (.iadd, 1) := by decide +kernel
theorem dL_law_275 : decode cL_law 275 = .ok (.iaload, 1) := by decide +kernel
theorem dL_law_276 : decode cL_law 276 = .ok (.invokevirtual 22, 3) := by decide +kernel
theorem dL_law_279 : decode cL_law 279 = .ok (.if_icmp .eq 1132, 3) := by decide +kernel
theorem dL_law_282 : decode cL_law 282 = .ok (.iconst 0, 1) := by decide +kernel
theorem dL_law_283 : decode cL_law 283 = .ok (.ireturn, 1) := by decide +kernel
theorem dL_law_284 : decode cL_law 284 = .ok (.aload_n 1, 1) := by decide +kernel
theorem dL_law_285 : decode cL_law 285 = .ok (.aload_n 0, 1) := by decide +kernel
theorem dL_law_286 : decode cL_law 286 = .ok (.iload_n 3, 1) := by decide +kernel
theorem dL_law_287 : decode cL_law 287 = .ok (.iconst 1, 1) := by decide +kernel
theorem dL_law_288 : decode cL_law 288 = .ok (.iadd, 1) := by decide +kernel
theorem dL_law_289 : decode cL_law 289 = .ok (.iaload, 1) := by decide +kernel
theorem dL_law_290 : decode cL_law 290 = .ok (.aload_n 0, 1) := by decide +kernel
theorem dL_law_291 : decode cL_law 291 = .ok (.iload_n 3, 1) := by decide +kernel
theorem dL_law_292 : decode cL_law 292 = .ok (.iconst 2, 1) := by decide +kernel
theorem dL_law_293 : decode cL_law 293 = .ok (.iadd, 1) := by decide +kernel
theorem dL_law_294 : decode cL_law 294 = .ok (.iaload, 1) := by decide +kernel
theorem dL_law_295 : decode cL_law 295 = .ok (.invokevirtual 23, 3) := by decide +kernel
theorem dL_law_298 : decode cL_law 298 = .ok (.aload_n 2, 1) := by decide +kernel
theorem dL_law_299 : decode cL_law 299 = .ok (.aload_n 0, 1) := by decide +kernel
theorem dL_law_300 : decode cL_law 300 = .ok (.iload_n 3, 1) := by decide +kernel
theorem dL_law_301 : decode cL_law 301 = .ok (.iconst 1, 1) := by decide +kernel
theorem dL_law_302 : decode cL_law 302 = .ok (.iadd, 1) := by decide +kernel
theorem dL_law_303 : decode cL_law 303 = .ok (.iaload, 1) := by decide +kernel
theorem dL_law_304 : decode cL_law 304 = .ok (.aload_n 0, 1) := by decide +kernel
theorem dL_law_305 : decode cL_law 305 = .ok (.iload_n 3, 1) := by decide +kernel
theorem dL_law_306 : decode cL_law 306 = .ok (.iconst 2, 1) := by decide +kernel
theorem dL_law_307 : decode cL_law 307 = .ok (.iadd, 1) := by decide +kernel
theorem dL_law_308 : decode cL_law 308 = .ok (.iaload, 1) := by decide +kernel
theorem dL_law_309 : decode cL_law 309 = .ok (.invokevirtual 26, 3) := by decide +kernel
theorem dL_law_312 : decode cL_law 312 = .ok (.if_icmp .eq 1099, 3) := by decide +kernel
theorem dL_law_315 : decode cL_law 315 = .ok (.iconst 0, 1) := by decide +kernel
theorem dL_law_316 : decode cL_law 316 = .ok (.ireturn, 1) := by decide +kernel
theorem dL_law_317 : decode cL_law 317 = .ok (.aload_n 1, 1) := by decide +kernel
theorem dL_law_318 : decode cL_law 318 = .ok (.aload_n 0, 1) := by decide +kernel
theorem dL_law_319 : decode cL_law 319 = .ok (.iload_n 3, 1) := by decide +kernel
theorem dL_law_320 : decode cL_law 320 = .ok (.iconst 1, 1) := by decide +kernel
theorem dL_law_321 : decode cL_law 321 = .ok (.iadd, 1) := by decide +kernel
theorem dL_law_322 : decode cL_law 322 = .ok (.iaload, 1) := by decide +kernel
theorem dL_law_323 : decode cL_law 323 = .ok (.invokevirtual 27, 3) := by decide +kernel
theorem dL_law_326 : decode cL_law 326 = .ok (.aload_n 2, 1) := by decide +kernel
theorem dL_law_327 : decode cL_law 327 = .ok (.aload_n 0, 1) := by decide +kernel
theorem dL_law_328 : decode cL_law 328 = .ok (.iload_n 3, 1) := by decide +kernel
theorem dL_law_329 : decode cL_law 329 = .ok (.iconst 1, 1) := by decide +kernel
theorem dL_law_330 : decode cL_law 330 = .ok (.iadd, 1) := by decide +kernel
theorem dL_law_331 : decode cL_law 331 = .ok (.iaload, 1) := by decide +kernel
theorem dL_law_332 : decode cL_law 332 = .ok (.invokevirtual 31, 3) := by decide +kernel
theorem dL_law_335 : decode cL_law 335 = .ok (.if_icmp .eq 1076, 3) := by decide +kernel
theorem dL_law_338 : decode cL_law 338 = .ok (.iconst 0, 1) := by decide +kernel
theorem dL_law_339 : decode cL_law 339 = .ok (.ireturn, 1) := by decide +kernel
theorem dL_law_340 : decode cL_law 340 = .ok (.aload_n 1, 1) := by decide +kernel
theorem dL_law_341 : decode cL_law 341 = .ok (.aload_n 0, 1) := by decide +kernel
theorem dL_law_342 : decode cL_law 342 = .ok (.iload_n 3, 1) := by decide +kernel
theorem dL_law_343 : decode cL_law 343 = .ok (.iconst 1, 1) := by decide +kernel
theorem dL_law_344 : decode cL_law 344 = .ok (.iadd, 1) := by decide +kernel
theorem dL_law_345 : decode cL_law 345 = .ok (.iaload, 1) := by decide +kernel
theorem dL_law_346 : decode cL_law 346 = .ok (.aload_n 0, 1) := by decide +kernel
theorem dL_law_347 : decode cL_law 347 = .ok (.iload_n 3, 1) := by decide +kernel
theorem dL_law_348 : decode cL_law 348 = .ok (.iconst 2, 1) := by decide +kernel
theorem dL_law_349 : decode cL_law 349 = .ok (.iadd, 1) := by decide +kernel
theorem dL_law_350 : decode cL_law 350 = .ok (.iaload, 1) := by decide +kernel
theorem dL_law_351 : decode cL_law 351 = .ok (.aload_n 0, 1) := by decide +kernel
theorem dL_law_352 : decode cL_law 352 = .ok (.iload_n 3, 1) := by decide +kernel
theorem dL_law_353 : decode cL_law 353 = .ok (.iconst 3, 1) := by decide +kernel
theorem dL_law_354 : decode cL_law 354 = .ok (.iadd, 1) := by decide +kernel
theorem dL_law_355 : decode cL_law 355 = .ok (.iaload, 1) := by decide +kernel
theorem dL_law_356 : decode cL_law 356 = .ok (.aload_n 0, 1) := by decide +kernel
theorem dL_law_357 : decode cL_law 357 = .ok (.iload_n 3, 1) := by decide +kernel
theorem dL_law_358 : decode cL_law 358 = .ok (.iconst 4, 1) := by decide +kernel
theorem dL_law_359 : decode cL_law 359 = .ok (.iadd, 1) := by decide +kernel
theorem dL_law_360 : decode cL_law 360 = .ok (.iaload, 1) := by decide +kernel
theorem dL_law_361 : decode cL_law 361 = .ok (.aload_n 0, 1) := by decide +kernel
theorem dL_law_362 : decode cL_law 362 = .ok (.iload_n 3, 1) := by decide +kernel
theorem dL_law_363 : decode cL_law 363 = .ok (.iconst 5, 1) := by decide +kernel
theorem dL_law_364 : decode cL_law 364 = .ok (.iadd, 1) := by decide +kernel
theorem dL_law_365 : decode cL_law 365 = .ok (.iaload, 1) := by decide +kernel
theorem dL_law_366 : decode cL_law 366 = .ok (.invokevirtual 32, 3) := by decide +kernel
theorem dL_law_369 : decode cL_law 369 = .ok (.aload_n 2, 1) := by decide +kernel
theorem dL_law_370 : decode cL_law 370 = .ok (.aload_n 0, 1) := by decide +kernel
theorem dL_law_371 : decode cL_law 371 = .ok (.iload_n 3, 1) := by decide +kernel
theorem dL_law_372 : decode cL_law 372 = .ok (.iconst 1, 1) := by decide +kernel
theorem dL_law_373 : decode cL_law 373 = .ok (.iadd, 1) := by decide +kernel
theorem dL_law_374 : decode cL_law 374 = .ok (.iaload, 1) := by decide +kernel
theorem dL_law_375 : decode cL_law 375 = .ok (.aload_n 0, 1) := by decide +kernel
theorem dL_law_376 : decode cL_law 376 = .ok (.iload_n 3, 1) := by decide +kernel
theorem dL_law_377 : decode cL_law 377 = .ok (.iconst 2, 1) := by decide +kernel
theorem dL_law_378 : decode cL_law 378 = .ok (.iadd, 1) := by decide +kernel
theorem dL_law_379 : decode cL_law 379 = .ok (.iaload, 1) := by decide +kernel
theorem dL_law_380 : decode cL_law 380 = .ok (.aload_n 0, 1) := by decide +kernel
theorem dL_law_381 : decode cL_law 381 = .ok (.iload_n 3, 1) := by decide +kernel
theorem dL_law_382 : decode cL_law 382 = .ok (.iconst 3, 1) := by decide +kernel
theorem dL_law_383 : decode cL_law 383 = .ok (.iadd, 1) := by decide +kernel
theorem dL_law_384 : decode cL_law 384 = .ok (.iaload, 1) := by decide +kernel
theorem dL_law_385 : decode cL_law 385 = .ok (.aload_n 0, 1) := by decide +kernel
theorem dL_law_386 : decode cL_law 386 = .ok (.iload_n 3, 1) := by decide +kernel
theorem dL_law_387 : decode cL_law 387 = .ok (.iconst 4, 1) := by decide +kernel
theorem dL_law_388 : decode cL_law 388 = .ok (.iadd, 1) := by decide +kernel
theorem dL_law_389 : decode cL_law 389 = .ok (.iaload, 1) := by decide +kernel
theorem dL_law_390 : decode cL_law 390 = .ok (.aload_n 0, 1) := by decide +kernel
theorem dL_law_391 : decode cL_law 391 = .ok (.iload_n 3, 1) := by decide +kernel
theorem dL_law_392 : decode cL_law 392 = .ok (.iconst 5, 1) := by decide +kernel
theorem dL_law_393 : decode cL_law 393 = .ok (.iadd, 1) := by decide +kernel
theorem dL_law_394 : decode cL_law 394 = .ok (.iaload, 1) := by decide +kernel
theorem dL_law_395 : decode cL_law 395 = .ok (.invokevirtual 36, 3) := by decide +kernel
theorem dL_law_398 : decode cL_law 398 = .ok (.if_icmp .eq 1013, 3) := by decide +kernel
theorem dL_law_401 : decode cL_law 401 = .ok (.iconst 0, 1) := by decide +kernel
theorem dL_law_402 : decode cL_law 402 = .ok (.ireturn, 1) := by decide +kernel
theorem dL_law_403 : decode cL_law 403 = .ok (.aload_n 1, 1) := by decide +kernel
theorem dL_law_404 : decode cL_law 404 = .ok (.aload_n 0, 1) := by decide +kernel
theorem dL_law_405 : decode cL_law 405 = .ok (.iload_n 3, 1) := by decide +kernel
theorem dL_law_406 : decode cL_law 406 = .ok (.iconst 1, 1) := by decide +kernel
theorem dL_law_407 : decode cL_law 407 = .ok (.iadd, 1) := by decide +kernel
theorem dL_law_408 : decode cL_law 408 = .ok (.iaload, 1) := by decide +kernel
theorem dL_law_409 : decode cL_law 409 = .ok (.invokevirtual 37, 3) := by decide +kernel
theorem dL_law_412 : decode cL_law 412 = .ok (.aload_n 2, 1) := by decide +kernel
theorem dL_law_413 : decode cL_law 413 = .ok (.aload_n 0, 1) := by decide +kernel
theorem dL_law_414 : decode cL_law 414 = .ok (.iload_n 3, 1) := by decide +kernel
theorem dL_law_415 : decode cL_law 415 = .ok (.iconst 1, 1) := by decide +kernel
theorem dL_law_416 : decode cL_law 416 = .ok (.iadd, 1) := by decide +kernel
theorem dL_law_417 : decode cL_law 417 = .ok (.iaload, 1) := by decide +kernel
theorem dL_law_418 : decode cL_law 418 = .ok (.invokevirtual 40, 3) := by decide +kernel
theorem dL_law_421 : decode cL_law 421 = .ok (.if_icmp .eq 990, 3) := by decide +kernel
theorem dL_law_424 : decode cL_law 424 = .ok (.iconst 0, 1) := by decide +kernel
theorem dL_law_425 : decode cL_law 425 = .ok (.ireturn, 1) := by decide +kernel
theorem dL_law_426 : decode cL_law 426 = .ok (.aload_n 1, 1) := by decide +kernel
theorem dL_law_427 : decode cL_law 427 = .ok (.aload_n 0, 1) := by decide +kernel
theorem dL_law_428 : decode cL_law 428 = .ok (.iload_n 3, 1) := by decide +kernel
theorem dL_law_429 : decode cL_law 429 = .ok (.iconst 1, 1) := by decide +kernel
theorem dL_law_430 : decode cL_law 430 = .ok (.iadd, 1) := by decide +kernel
theorem dL_law_431 : decode cL_law 431 = .ok (.iaload, 1) := by decide +kernel
theorem dL_law_432 : decode cL_law 432 = .ok (.aload_n 0, 1) := by decide +kernel
theorem dL_law_433 : decode cL_law 433 = .ok (.iload_n 3, 1) := by decide +kernel
theorem dL_law_434 : decode cL_law 434 = .ok (.iconst 2, 1) := by decide +kernel
theorem dL_law_435 : decode cL_law 435 = .ok (.iadd, 1) := by decide +kernel
theorem dL_law_436 : decode cL_law 436 = .ok (.iaload, 1) := by decide +kernel
theorem dL_law_437 : decode cL_law 437 = .ok (.invokevirtual 41, 3) := by decide +kernel
theorem dL_law_440 : decode cL_law 440 = .ok (.aload_n 2, 1) := by decide +kernel
theorem dL_law_441 : decode cL_law 441 = .ok (.aload_n 0, 1) := by decide +kernel
theorem dL_law_442 : decode cL_law 442 = .ok (.iload_n 3, 1) := by decide +kernel
theorem dL_law_443 : decode cL_law 443 = .ok (.iconst 1, 1) := by decide +kernel
theorem dL_law_444 : decode cL_law 444 = .ok (.iadd, 1) := by decide +kernel
theorem dL_law_445 : decode cL_law 445 = .ok (.iaload, 1) := by decide +kernel
theorem dL_law_446 : decode cL_law 446 = .ok (.aload_n 0, 1) := by decide +kernel
theorem dL_law_447 : decode cL_law 447 = .ok (.iload_n 3, 1) := by decide +kernel
theorem dL_law_448 : decode cL_law 448 = .ok (.iconst 2, 1) := by decide +kernel
theorem dL_law_449 : decode cL_law 449 = .ok (.iadd, 1) := by decide +kernel
theorem dL_law_450 : decode cL_law 450 = .ok (.iaload, 1) := by decide +kernel
theorem dL_law_451 : decode cL_law 451 = .ok (.invokevirtual 44, 3) := by decide +kernel
theorem dL_law_454 : decode cL_law 454 = .ok (.if_icmp .eq 957, 3) := by decide +kernel
theorem dL_law_457 : decode cL_law 457 = .ok (.iconst 0, 1) := by decide +kernel
theorem dL_law_458 : decode cL_law 458 = .ok (.ireturn, 1) := by decide +kernel
theorem dL_law_459 : decode cL_law 459 = .ok (.aload_n 1, 1) := by decide +kernel
theorem dL_law_460 : decode cL_law 460 = .ok (.aload_n 0, 1) := by decide +kernel
theorem dL_law_461 : decode cL_law 461 = .ok (.iload_n 3, 1) := by decide +kernel
theorem dL_law_462 : decode cL_law 462 = .ok (.iconst 1, 1) := by decide +kernel
theorem dL_law_463 : decode cL_law 463 = .ok (.iadd, 1) := by decide +kernel
theorem dL_law_464 : decode cL_law 464 = .ok (.iaload, 1) := by decide +kernel
theorem dL_law_465 : decode cL_law 465 = .ok (.aload_n 0, 1) := by decide +kernel
theorem dL_law_466 : decode cL_law 466 = .ok (.iload_n 3, 1) := by decide +kernel
theorem dL_law_467 : decode cL_law 467 = .ok (.iconst 2, 1) := by decide +kernel
theorem dL_law_468 : decode cL_law 468 = .ok (.iadd, 1) := by decide +kernel
theorem dL_law_469 : decode cL_law 469 = .ok (.iaload, 1) := by decide +kernel
theorem dL_law_470 : decode cL_law 470 = .ok (.aload_n 0, 1) := by decide +kernel
theorem dL_law_471 : decode cL_law 471 = .ok (.iload_n 3, 1) := by decide +kernel
theorem dL_law_472 : decode cL_law 472 = .ok (.iconst 3, 1) := by decide +kernel
theorem dL_law_473 : decode cL_law 473 = .ok (.iadd, 1) := by decide +kernel
theorem dL_law_474 : decode cL_law 474 = .ok (.iaload, 1) := by decide +kernel
theorem dL_law_475 : decode cL_law 475 = .ok (.invokevirtual 45, 3) := by decide +kernel
theorem dL_law_478 : decode cL_law 478 = .ok (.aload_n 2, 1) := by decide +kernel
theorem dL_law_479 : decode cL_law 479 = .ok (.aload_n 0, 1) := by decide +kernel
theorem dL_law_480 : decode cL_law 480 = .ok (.iload_n 3, 1) := by decide +kernel
theorem dL_law_481 : decode cL_law 481 = .ok (.iconst 1, 1) := by decide +kernel
theorem dL_law_482 : decode cL_law 482 = .ok (.iadd, 1) := by decide +kernel
theorem dL_law_483 : decode cL_law 483 = .ok (.iaload, 1) := by decide +kernel
theorem dL_law_484 : decode cL_law 484 = .ok (.aload_n 0, 1) := by decide +kernel
theorem dL_law_485 : decode cL_law 485 = .ok (.iload_n 3, 1) := by decide +kernel
theorem dL_law_486 : decode cL_law 486 = .ok (.iconst 2, 1) := by decide +kernel
theorem dL_law_487 : decode cL_law 487 = .ok (.iadd, 1) := by decide +kernel
theorem dL_law_488 : decode cL_law 488 = .ok (.iaload, 1) := by decide +kernel
theorem dL_law_489 : decode cL_law 489 = .ok (.aload_n 0, 1) := by decide +kernel
theorem dL_law_490 : decode cL_law 490 = .ok (.iload_n 3, 1) := by decide +kernel
theorem dL_law_491 : decode cL_law 491 = .ok (.iconst 3, 1) := by decide +kernel
theorem dL_law_492 : decode cL_law 492 = .ok (.iadd, 1) := by decide +kernel
theorem dL_law_493 : decode cL_law 493 = .ok (.iaload, 1) := by decide +kernel
theorem dL_law_494 : decode cL_law 494 = .ok (.invokevirtual 48, 3) := by decide +kernel
theorem dL_law_497 : decode cL_law 497 = .ok (.if_icmp .eq 914, 3) := by decide +kernel
theorem dL_law_500 : decode cL_law 500 = .ok (.iconst 0, 1) := by decide +kernel
theorem dL_law_501 : decode cL_law 501 = .ok (.ireturn, 1) := by decide +kernel
theorem dL_law_502 : decode cL_law 502 = .ok (.aload_n 1, 1) := by decide +kernel
theorem dL_law_503 : decode cL_law 503 = .ok (.aload_n 0, 1) := by decide +kernel
theorem dL_law_504 : decode cL_law 504 = .ok (.iload_n 3, 1) := by decide +kernel
theorem dL_law_505 : decode cL_law 505 = .ok (.iconst 1, 1) := by decide +kernel
theorem dL_law_506 : decode cL_law 506 = .ok (.iadd, 1) := by decide +kernel
theorem dL_law_507 : decode cL_law 507 = .ok (.iaload, 1) := by decide +kernel
theorem dL_law_508 : decode cL_law 508 = .ok (.invokevirtual 49, 3) := by decide +kernel
theorem dL_law_511 : decode cL_law 511 = .ok (.aload_n 2, 1) := by decide +kernel
theorem dL_law_512 : decode cL_law 512 = .ok (.aload_n 0, 1) := by decide +kernel
theorem dL_law_513 : decode cL_law 513 = .ok (.iload_n 3, 1) := by decide +kernel
theorem dL_law_514 : decode cL_law 514 = .ok (.iconst 1, 1) := by decide +kernel
theorem dL_law_515 : decode cL_law 515 = .ok (.iadd, 1) := by decide +kernel
theorem dL_law_516 : decode cL_law 516 = .ok (.iaload, 1) := by decide +kernel
theorem dL_law_517 : decode cL_law 517 = .ok (.invokevirtual 52, 3) := by decide +kernel
theorem dL_law_520 : decode cL_law 520 = .ok (.if_icmp .eq 891, 3) := by decide +kernel
theorem dL_law_523 : decode cL_law 523 = .ok (.iconst 0, 1) := by decide +kernel
theorem dL_law_524 : decode cL_law 524 = .ok (.ireturn, 1) := by decide +kernel
theorem dL_law_525 : decode cL_law 525 = .ok (.aload_n 1, 1) := by decide +kernel
theorem dL_law_526 : decode cL_law 526 = .ok (.aload_n 0, 1) := by decide +kernel
theorem dL_law_527 : decode cL_law 527 = .ok (.iload_n 3, 1) := by decide +kernel
theorem dL_law_528 : decode cL_law 528 = .ok (.iconst 1, 1) := by decide +kernel
theorem dL_law_529 : decode cL_law 529 = .ok (.iadd, 1) := by decide +kernel
theorem dL_law_530 : decode cL_law 530 = .ok (.iaload, 1) := by decide +kernel
theorem dL_law_531 : decode cL_law 531 = .ok (.invokevirtual 53, 3) := by decide +kernel
theorem dL_law_534 : decode cL_law 534 = .ok (.aload_n 2, 1) := by decide +kernel
theorem dL_law_535 : decode cL_law 535 = .ok (.aload_n 0, 1) := by decide +kernel
theorem dL_law_536 : decode cL_law 536 = .ok (.iload_n 3, 1) := by decide +kernel
theorem dL_law_537 : decode cL_law 537 = .ok (.iconst 1, 1) := by decide +kernel
theorem dL_law_538 : decode cL_law 538 = .ok (.iadd, 1) := by decide +kernel
theorem dL_law_539 : decode cL_law 539 = .ok (.iaload, 1) := by decide +kernel
theorem dL_law_540 : decode cL_law 540 = .ok (.invokevirtual 56, 3) := by decide +kernel
theorem dL_law_543 : decode cL_law 543 = .ok (.if_icmp .eq 868, 3) := by decide +kernel
theorem dL_law_546 : decode cL_law 546 = .ok (.iconst 0, 1) := by decide +kernel
theorem dL_law_547 : decode cL_law 547 = .ok (.ireturn, 1) := by decide +kernel
theorem dL_law_548 : decode cL_law 548 = .ok (.aload_n 1, 1) := by decide +kernel
theorem dL_law_549 : decode cL_law 549 = .ok (.aload_n 0, 1) := by decide +kernel
theorem dL_law_550 : decode cL_law 550 = .ok (.iload_n 3, 1) := by decide +kernel
theorem dL_law_551 : decode cL_law 551 = .ok (.iconst 1, 1) := by decide +kernel
theorem dL_law_552 : decode cL_law 552 = .ok (.iadd, 1) := by decide +kernel
theorem dL_law_553 : decode cL_law 553 = .ok (.iaload, 1) := by decide +kernel
theorem dL_law_554 : decode cL_law 554 = .ok (.aload_n 0, 1) := by decide +kernel
theorem dL_law_555 : decode cL_law 555 = .ok (.iload_n 3, 1) := by decide +kernel
theorem dL_law_556 : decode cL_law 556 = .ok (.iconst 2, 1) := by decide +kernel
theorem dL_law_557 : decode cL_law 557 = .ok (.iadd, 1) := by decide +kernel
theorem dL_law_558 : decode cL_law 558 = .ok (.iaload, 1) := by decide +kernel
theorem dL_law_559 : decode cL_law 559 = .ok (.invokevirtual 57, 3) := by decide +kernel
theorem dL_law_562 : decode cL_law 562 = .ok (.aload_n 2, 1) := by decide +kernel
theorem dL_law_563 : decode cL_law 563 = .ok (.aload_n 0, 1) := by decide +kernel
theorem dL_law_564 : decode cL_law 564 = .ok (.iload_n 3, 1) := by decide +kernel
theorem dL_law_565 : decode cL_law 565 = .ok (.iconst 1, 1) := by decide +kernel
theorem dL_law_566 : decode cL_law 566 = .ok (.iadd, 1) := by decide +kernel
theorem dL_law_567 : decode cL_law 567 = .ok (.iaload, 1) := by decide +kernel
theorem dL_law_568 : decode cL_law 568 = .ok (.aload_n 0, 1) := by decide +kernel
theorem dL_law_569 : decode cL_law 569 = .ok (.iload_n 3, 1) := by decide +kernel
theorem dL_law_570 : decode cL_law 570 = .ok (.iconst 2, 1) := by decide +kernel
theorem dL_law_571 : decode cL_law 571 = .ok (.iadd, 1) := by decide +kernel
theorem dL_law_572 : decode cL_law 572 = .ok (.iaload, 1) := by decide +kernel
theorem dL_law_573 : decode cL_law 573 = .ok (.invokevirtual 60, 3) := by decide +kernel
theorem dL_law_576 : decode cL_law 576 = .ok (.if_icmp .eq 835, 3) := by decide +kernel
theorem dL_law_579 : decode cL_law 579 = .ok (.iconst 0, 1) := by decide +kernel
theorem dL_law_580 : decode cL_law 580 = .ok (.ireturn, 1) := by decide +kernel
theorem dL_law_581 : decode cL_law 581 = .ok (.aload_n 1, 1) := by decide +kernel
theorem dL_law_582 : decode cL_law 582 = .ok (.aload_n 0, 1) := by decide +kernel
theorem dL_law_583 : decode cL_law 583 = .ok (.iload_n 3, 1) := by decide +kernel
theorem dL_law_584 : decode cL_law 584 = .ok (.iconst 1, 1) := by decide +kernel
theorem dL_law_585 : decode cL_law 585 = .ok (.iadd, 1) := by decide +kernel
theorem dL_law_586 : decode cL_law 586 = .ok (.iaload, 1) := by decide +kernel
theorem dL_law_587 : decode cL_law 587 = .ok (.aload_n 0, 1) := by decide +kernel
theorem dL_law_588 : decode cL_law 588 = .ok (.iload_n 3, 1) := by decide +kernel
theorem dL_law_589 : decode cL_law 589 = .ok (.iconst 2, 1) := by decide +kernel
theorem dL_law_590 : decode cL_law 590 = .ok (.iadd, 1) := by decide +kernel
theorem dL_law_591 : decode cL_law 591 = .ok (.iaload, 1) := by decide +kernel
theorem dL_law_592 : decode cL_law 592 = .ok (.invokevirtual 61, 3) := by decide +kernel
theorem dL_law_595 : decode cL_law 595 = .ok (.aload_n 2, 1) := by decide +kernel
theorem dL_law_596 : decode cL_law 596 = .ok (.aload_n 0, 1) := by decide +kernel
theorem dL_law_597 : decode cL_law 597 = .ok (.iload_n 3, 1) := by decide +kernel
theorem dL_law_598 : decode cL_law 598 = .ok (.iconst 1, 1) := by decide +kernel
theorem dL_law_599 : decode cL_law 599 = .ok (.iadd, 1) := by decide +kernel
theorem dL_law_600 : decode cL_law 600 = .ok (.iaload, 1) := by decide +kernel
theorem dL_law_601 : decode cL_law 601 = .ok (.aload_n 0, 1) := by decide +kernel
theorem dL_law_602 : decode cL_law 602 = .ok (.iload_n 3, 1) := by decide +kernel
theorem dL_law_603 : decode cL_law 603 = .ok (.iconst 2, 1) := by decide +kernel
theorem dL_law_604 : decode cL_law 604 = .ok (.iadd, 1) := by decide +kernel
theorem dL_law_605 : decode cL_law 605 = .ok (.iaload, 1) := by decide +kernel
theorem dL_law_606 : decode cL_law 606 = .ok (.invokevirtual 64, 3) := by decide +kernel
theorem dL_law_609 : decode cL_law 609 = .ok (.if_icmp .eq 802, 3) := by decide +kernel
theorem dL_law_612 : decode cL_law 612 = .ok (.iconst 0, 1) := by decide +kernel
theorem dL_law_613 : decode cL_law 613 = .ok (.ireturn, 1) := by decide +kernel
theorem dL_law_614 : decode cL_law 614 = .ok (.aload_n 1, 1) := by decide +kernel
theorem dL_law_615 : decode cL_law 615 = .ok (.aload_n 0, 1) := by decide +kernel
theorem dL_law_616 : decode cL_law 616 = .ok (.iload_n 3, 1) := by decide +kernel
theorem dL_law_617 : decode cL_law 617 = .ok (.iconst 1, 1) := by decide +kernel
theorem dL_law_618 : decode cL_law 618 = .ok (.iadd, 1) := by decide +kernel
theorem dL_law_619 : decode cL_law 619 = .ok (.iaload, 1) := by decide +kernel
theorem dL_law_620 : decode cL_law 620 = .ok (.invokevirtual 65, 3) := by decide +kernel
theorem dL_law_623 : decode cL_law 623 = .ok (.aload_n 2, 1) := by decide +kernel
theorem dL_law_624 : decode cL_law 624 = .ok (.aload_n 0, 1) := by decide +kernel
theorem dL_law_625 : decode cL_law 625 = .ok (.iload_n 3, 1) := by decide +kernel
theorem dL_law_626 : decode cL_law 626 = .ok (.iconst 1, 1) := by decide +kernel
theorem dL_law_627 : decode cL_law 627 = .ok (.iadd, 1) := by decide +kernel
theorem dL_law_628 : decode cL_law 628 = .ok (.iaload, 1) := by decide +kernel
theorem dL_law_629 : decode cL_law 629 = .ok (.invokevirtual 68, 3) := by decide +kernel
theorem dL_law_632 : decode cL_law 632 = .ok (.if_icmp .eq 779, 3) := by decide +kernel
theorem dL_law_635 : decode cL_law 635 = .ok (.iconst 0, 1) := by decide +kernel
theorem dL_law_636 : decode cL_law 636 = .ok (.ireturn, 1) := by decide +kernel
theorem dL_law_637 : decode cL_law 637 = .ok (.aload_n 1, 1) := by decide +kernel
theorem dL_law_638 : decode cL_law 638 = .ok (.invokevirtual 69, 3) := by decide +kernel
theorem dL_law_641 : decode cL_law 641 = .ok (.aload_n 2, 1) := by decide +kernel
theorem dL_law_642 : decode cL_law 642 = .ok (.invokevirtual 73, 3) := by decide +kernel
theorem dL_law_645 : decode cL_law 645 = .ok (.if_icmp .eq 766, 3) := by decide +kernel
theorem dL_law_648 : decode cL_law 648 = .ok (.iconst 0, 1) := by decide +kernel
theorem dL_law_649 : decode cL_law 649 = .ok (.ireturn, 1) := by decide +kernel
theorem dL_law_650 : decode cL_law 650 = .ok (.aload_n 1, 1) := by decide +kernel
theorem dL_law_651 : decode cL_law 651 = .ok (.aload_n 0, 1) := by decide +kernel
theorem dL_law_652 : decode cL_law 652 = .ok (.iload_n 3, 1) := by decide +kernel
theorem dL_law_653 : decode cL_law 653 = .ok (.iconst 1, 1) := by decide +kernel
theorem dL_law_654 : decode cL_law 654 = .ok (.iadd, 1) := by decide +kernel
theorem dL_law_655 : decode cL_law 655 = .ok (.iaload, 1) := by decide +kernel
theorem dL_law_656 : decode cL_law 656 = .ok (.invokevirtual 74, 3) := by decide +kernel
theorem dL_law_659 : decode cL_law 659 = .ok (.aload_n 2, 1) := by decide +kernel
theorem dL_law_660 : decode cL_law 660 = .ok (.aload_n 0, 1) := by decide +kernel
theorem dL_law_661 : decode cL_law 661 = .ok (.iload_n 3, 1) := by decide +kernel
theorem dL_law_662 : decode cL_law 662 = .ok (.iconst 1, 1) := by decide +kernel
theorem dL_law_663 : decode cL_law 663 = .ok (.iadd, 1) := by decide +kernel
theorem dL_law_664 : decode cL_law 664 = .ok (.iaload, 1) := by decide +kernel
theorem dL_law_665 : decode cL_law 665 = .ok (.invokevirtual 77, 3) := by decide +kernel
theorem dL_law_668 : decode cL_law 668 = .ok (.if_icmp .eq 743, 3) := by decide +kernel
theorem dL_law_671 : decode cL_law 671 = .ok (.iconst 0, 1) := by decide +kernel
theorem dL_law_672 : decode cL_law 672 = .ok (.ireturn, 1) := by decide +kernel
theorem dL_law_673 : decode cL_law 673 = .ok (.aload_n 1, 1) := by decide +kernel
theorem dL_law_674 : decode cL_law 674 = .ok (.aload_n 0, 1) := by decide +kernel
theorem dL_law_675 : decode cL_law 675 = .ok (.iload_n 3, 1) := by decide +kernel
theorem dL_law_676 : decode cL_law 676 = .ok (.iconst 1, 1) := by decide +kernel
theorem dL_law_677 : decode cL_law 677 = .ok (.iadd, 1) := by decide +kernel
theorem dL_law_678 : decode cL_law 678 = .ok (.iaload, 1) := by decide +kernel
theorem dL_law_679 : decode cL_law 679 = .ok (.aload_n 0, 1) := by decide +kernel
theorem dL_law_680 : decode cL_law 680 = .ok (.iload_n 3, 1) := by decide +kernel
theorem dL_law_681 : decode cL_law 681 = .ok (.iconst 2, 1) := by decide +kernel
theorem dL_law_682 : decode cL_law 682 = .ok (.iadd, 1) := by decide +kernel
theorem dL_law_683 : decode cL_law 683 = .ok (.iaload, 1) := by decide +kernel
theorem dL_law_684 : decode cL_law 684 = .ok (.aload_n 0, 1) := by decide +kernel
theorem dL_law_685 : decode cL_law 685 = .ok (.iload_n 3, 1) := by decide +kernel
theorem dL_law_686 : decode cL_law 686 = .ok (.iconst 3, 1) := by decide +kernel
theorem dL_law_687 : decode cL_law 687 = .ok (.iadd, 1) := by decide +kernel
theorem dL_law_688 : decode cL_law 688 = .ok (.iaload, 1) := by decide +kernel
theorem dL_law_689 : decode cL_law 689 = .ok (.invokevirtual 78, 3) := by decide +kernel
theorem dL_law_692 : decode cL_law 692 = .ok (.aload_n 2, 1) := by decide +kernel
theorem dL_law_693 : decode cL_law 693 = .ok (.aload_n 0, 1) := by decide +kernel
theorem dL_law_694 : decode cL_law 694 = .ok (.iload_n 3, 1) := by decide +kernel
theorem dL_law_695 : decode cL_law 695 = .ok (.iconst 1, 1) := by decide +kernel
theorem dL_law_696 : decode cL_law 696 = .ok (.iadd, 1) := by decide +kernel
theorem dL_law_697 : decode cL_law 697 = .ok (.iaload, 1) := by decide +kernel
theorem dL_law_698 : decode cL_law 698 = .ok (.aload_n 0, 1) := by decide +kernel
theorem dL_law_699 : decode cL_law 699 = .ok (.iload_n 3, 1) := by decide +kernel
theorem dL_law_700 : decode cL_law 700 = .ok (.iconst 2, 1) := by decide +kernel
theorem dL_law_701 : decode cL_law 701 = .ok (.iadd, 1) := by decide +kernel
theorem dL_law_702 : decode cL_law 702 = .ok (.iaload, 1) := by decide +kernel
theorem dL_law_703 : decode cL_law 703 = .ok (.aload_n 0, 1) := by decide +kernel
theorem dL_law_704 : decode cL_law 704 = .ok (.iload_n 3, 1) := by decide +kernel
theorem dL_law_705 : decode cL_law 705 = .ok (.iconst 3, 1) := by decide +kernel
theorem dL_law_706 : decode cL_law 706 = .ok (.iadd, 1) := by decide +kernel
theorem dL_law_707 : decode cL_law 707 = .ok (.iaload, 1) := by decide +kernel
theorem dL_law_708 : decode cL_law 708 = .ok (.invokevirtual 81, 3) := by decide +kernel
theorem dL_law_711 : decode cL_law 711 = .ok (.if_icmp .eq 700, 3) := by decide +kernel
theorem dL_law_714 : decode cL_law 714 = .ok (.iconst 0, 1) := by decide +kernel
theorem dL_law_715 : decode cL_law 715 = .ok (.ireturn, 1) := by decide +kernel
theorem dL_law_716 : decode cL_law 716 = .ok (.aload_n 1, 1) := by decide +kernel
theorem dL_law_717 : decode cL_law 717 = .ok (.aload_n 0, 1) := by decide +kernel
theorem dL_law_718 : decode cL_law 718 = .ok (.iload_n 3, 1) := by decide +kernel
theorem dL_law_719 : decode cL_law 719 = .ok (.iconst 1, 1) := by decide +kernel
theorem dL_law_720 : decode cL_law 720 = .ok (.iadd, 1) := by decide +kernel
theorem dL_law_721 : decode cL_law 721 = .ok (.iaload, 1) := by decide +kernel
theorem dL_law_722 : decode cL_law 722 = .ok (.invokevirtual 82, 3) := by decide +kernel
theorem dL_law_725 : decode cL_law 725 = .ok (.aload_n 2, 1) := by decide +kernel
theorem dL_law_726 : decode cL_law 726 = .ok (.aload_n 0, 1) := by decide +kernel
theorem dL_law_727 : decode cL_law 727 = .ok (.iload_n 3, 1) := by decide +kernel
theorem dL_law_728 : decode cL_law 728 = .ok (.iconst 1, 1) := by decide +kernel
theorem dL_law_729 : decode cL_law 729 = .ok (.iadd, 1) := by decide +kernel
theorem dL_law_730 : decode cL_law 730 = .ok (.iaload, 1) := by decide +kernel
theorem dL_law_731 : decode cL_law 731 = .ok (.invokevirtual 85, 3) := by decide +kernel
theorem dL_law_734 : decode cL_law 734 = .ok (.if_icmp .eq 677, 3) := by decide +kernel
theorem dL_law_737 : decode cL_law 737 = .ok (.iconst 0, 1) := by decide +kernel
theorem dL_law_738 : decode cL_law 738 = .ok (.ireturn, 1) := by decide +kernel
theorem dL_law_739 : decode cL_law 739 = .ok (.aload_n 1, 1) := by decide +kernel
theorem dL_law_740 : decode cL_law 740 = .ok (.aload_n 0, 1) := by decide +kernel
theorem dL_law_741 : decode cL_law 741 = .ok (.iload_n 3, 1) := by decide +kernel
theorem dL_law_742 : decode cL_law 742 = .ok (.iconst 1, 1) := by decide +kernel
theorem dL_law_743 : decode cL_law 743 = .ok (.iadd, 1) := by decide +kernel
theorem dL_law_744 : decode cL_law 744 = .ok (.iaload, 1) := by decide +kernel
theorem dL_law_745 : decode cL_law 745 = .ok (.invokevirtual 86, 3) := by decide +kernel
theorem dL_law_748 : decode cL_law 748 = .ok (.aload_n 2, 1) := by decide +kernel
theorem dL_law_749 : decode cL_law 749 = .ok (.aload_n 0, 1) := by decide +kernel
theorem dL_law_750 : decode cL_law 750 = .ok (.iload_n 3, 1) := by decide +kernel
theorem dL_law_751 : decode cL_law 751 = .ok (.iconst 1, 1) := by decide +kernel
theorem dL_law_752 : decode cL_law 752 = .ok (.iadd, 1) := by decide +kernel
theorem dL_law_753 : decode cL_law 753 = .ok (.iaload, 1) := by decide +kernel
theorem dL_law_754 : decode cL_law 754 = .ok (.invokevirtual 89, 3) := by decide +kernel
theorem dL_law_757 : decode cL_law 757 = .ok (.if_icmp .eq 654, 3) := by decide +kernel
theorem dL_law_760 : decode cL_law 760 = .ok (.iconst 0, 1) := by decide +kernel
theorem dL_law_761 : decode cL_law 761 = .ok (.ireturn, 1) := by decide +kernel
theorem dL_law_762 : decode cL_law 762 = .ok (.aload_n 1, 1) := by decide +kernel
theorem dL_law_763 : decode cL_law 763 = .ok (.aload_n 0, 1) := by decide +kernel
theorem dL_law_764 : decode cL_law 764 = .ok (.iload_n 3, 1) := by decide +kernel
theorem dL_law_765 : decode cL_law 765 = .ok (.iconst 1, 1) := by decide +kernel
theorem dL_law_766 : decode cL_law 766 = .ok (.iadd, 1) := by decide +kernel
theorem dL_law_767 : decode cL_law 767 = .ok (.iaload, 1) := by decide +kernel
theorem dL_law_768 : decode cL_law 768 = .ok (.invokevirtual 90, 3) := by decide +kernel
theorem dL_law_771 : decode cL_law 771 = .ok (.aload_n 2, 1) := by decide +kernel
theorem dL_law_772 : decode cL_law 772 = .ok (.aload_n 0, 1) := by decide +kernel
theorem dL_law_773 : decode cL_law 773 = .ok (.iload_n 3, 1) := by decide +kernel
theorem dL_law_774 : decode cL_law 774 = .ok (.iconst 1, 1) := by decide +kernel
theorem dL_law_775 : decode cL_law 775 = .ok (.iadd, 1) := by decide +kernel
theorem dL_law_776 : decode cL_law 776 = .ok (.iaload, 1) := by decide +kernel
theorem dL_law_777 : decode cL_law 777 = .ok (.invokevirtual 93, 3) := by decide +kernel
theorem dL_law_780 : decode cL_law 780 = .ok (.if_icmp .eq 631, 3) := by decide +kernel
theorem dL_law_783 : decode cL_law 783 = .ok (.iconst 0, 1) := by decide +kernel
theorem dL_law_784 : decode cL_law 784 = .ok (.ireturn, 1) := by decide +kernel
theorem dL_law_785 : decode cL_law 785 = .ok (.aload_n 1, 1) := by decide +kernel
theorem dL_law_786 : decode cL_law 786 = .ok (.aload_n 0, 1) := by decide +kernel
theorem dL_law_787 : decode cL_law 787 = .ok (.iload_n 3, 1) := by decide +kernel
theorem dL_law_788 : decode cL_law 788 = .ok (.iconst 1, 1) := by decide +kernel
theorem dL_law_789 : decode cL_law 789 = .ok (.iadd, 1) := by decide +kernel
theorem dL_law_790 : decode cL_law 790 = .ok (.iaload, 1) := by decide +kernel
theorem dL_law_791 : decode cL_law 791 = .ok (.aload_n 0, 1) := by decide +kernel
theorem dL_law_792 : decode cL_law 792 = .ok (.iload_n 3, 1) := by decide +kernel
theorem dL_law_793 : decode cL_law 793 = .ok (.iconst 2, 1) := by decide +kernel
theorem dL_law_794 : decode cL_law 794 = .ok (.iadd, 1) := by decide +kernel
theorem dL_law_795 : decode cL_law 795 = .ok (.iaload, 1) := by decide +kernel
theorem dL_law_796 : decode cL_law 796 = .ok (.aload_n 0, 1) := by decide +kernel
theorem dL_law_797 : decode cL_law 797 = .ok (.iload_n 3, 1) := by decide +kernel
theorem dL_law_798 : decode cL_law 798 = .ok (.iconst 3, 1) := by decide +kernel
theorem dL_law_799 : decode cL_law 799 = .ok (.iadd, 1) := by decide +kernel
theorem dL_law_800 : decode cL_law 800 = .ok (.iaload, 1) := by decide +kernel
theorem dL_law_801 : decode cL_law 801 = .ok (.invokevirtual 94, 3) := by decide +kernel
theorem dL_law_804 : decode cL_law 804 = .ok (.aload_n 2, 1) := by decide +kernel
theorem dL_law_805 : decode cL_law 805 = .ok (.aload_n 0, 1) := by decide +kernel
theorem dL_law_806 : decode cL_law 806 = .ok (.iload_n 3, 1) := by decide +kernel
theorem dL_law_807 : decode cL_law 807 = .ok (.iconst 1, 1) := by decide +kernel
theorem dL_law_808 : decode cL_law 808 = .ok (.iadd, 1) := by decide +kernel
theorem dL_law_809 : decode cL_law 809 = .ok (.iaload, 1) := by decide +kernel
theorem dL_law_810 : decode cL_law 810 = .ok (.aload_n 0, 1) := by decide +kernel
theorem dL_law_811 : decode cL_law 811 = .ok (.iload_n 3, 1) := by decide +kernel
theorem dL_law_812 : decode cL_law 812 = .ok (.iconst 2, 1) := by decide +kernel
theorem dL_law_813 : decode cL_law 813 = .ok (.iadd, 1) := by decide +kernel
theorem dL_law_814 : decode cL_law 814 = .ok (.iaload, 1) := by decide +kernel
theorem dL_law_815 : decode cL_law 815 = .ok (.aload_n 0, 1) := by decide +kernel
theorem dL_law_816 : decode cL_law 816 = .ok (.iload_n 3, 1) := by decide +kernel
theorem dL_law_817 : decode cL_law 817 = .ok (.iconst 3, 1) := by decide +kernel
theorem dL_law_818 : decode cL_law 818 = .ok (.iadd, 1) := by decide +kernel
theorem dL_law_819 : decode cL_law 819 = .ok (.iaload, 1) := by decide +kernel
theorem dL_law_820 : decode cL_law 820 = .ok (.invokevirtual 97, 3) := by decide +kernel
theorem dL_law_823 : decode cL_law 823 = .ok (.if_icmp .eq 588, 3) := by decide +kernel
theorem dL_law_826 : decode cL_law 826 = .ok (.iconst 0, 1) := by decide +kernel
theorem dL_law_827 : decode cL_law 827 = .ok (.ireturn, 1) := by decide +kernel
theorem dL_law_828 : decode cL_law 828 = .ok (.aload_n 1, 1) := by decide +kernel
theorem dL_law_829 : decode cL_law 829 = .ok (.aload_n 0, 1) := by decide +kernel
theorem dL_law_830 : decode cL_law 830 = .ok (.iload_n 3, 1) := by decide +kernel
theorem dL_law_831 : decode cL_law 831 = .ok (.iconst 1, 1) := by decide +kernel
theorem dL_law_832 : decode cL_law 832 = .ok (.iadd, 1) := by decide +kernel
theorem dL_law_833 : decode cL_law 833 = .ok (.iaload, 1) := by decide +kernel
theorem dL_law_834 : decode cL_law 834 = .ok (.aload_n 0, 1) := by decide +kernel
theorem dL_law_835 : decode cL_law 835 = .ok (.iload_n 3, 1) := by decide +kernel
theorem dL_law_836 : decode cL_law 836 = .ok (.iconst 2, 1) := by decide +kernel
theorem dL_law_837 : decode cL_law 837 = .ok (.iadd, 1) := by decide +kernel
theorem dL_law_838 : decode cL_law 838 = .ok (.iaload, 1) := by decide +kernel
theorem dL_law_839 : decode cL_law 839 = .ok (.invokevirtual 98, 3) := by decide +kernel
theorem dL_law_842 : decode cL_law 842 = .ok (.aload_n 2, 1) := by decide +kernel
theorem dL_law_843 : decode cL_law 843 = .ok (.aload_n 0, 1) := by decide +kernel
theorem dL_law_844 : decode cL_law 844 = .ok (.iload_n 3, 1) := by decide +kernel
theorem dL_law_845 : decode cL_law 845 = .ok (.iconst 1, 1) := by decide +kernel
theorem dL_law_846 : decode cL_law 846 = .ok (.iadd, 1) := by decide +kernel
theorem dL_law_847 : decode cL_law 847 = .ok (.iaload, 1) := by decide +kernel
theorem dL_law_848 : decode cL_law 848 = .ok (.aload_n 0, 1) := by decide +kernel
theorem dL_law_849 : decode cL_law 849 = .ok (.iload_n 3, 1) := by decide +kernel
theorem dL_law_850 : decode cL_law 850 = .ok (.iconst 2, 1) := by decide +kernel
theorem dL_law_851 : decode cL_law 851 = .ok (.iadd, 1) := by decide +kernel
theorem dL_law_852 : decode cL_law 852 = .ok (.iaload, 1) := by decide +kernel
theorem dL_law_853 : decode cL_law 853 = .ok (.invokevirtual 101, 3) := by decide +kernel
theorem dL_law_856 : decode cL_law 856 = .ok (.if_icmp .eq 555, 3) := by decide +kernel
theorem dL_law_859 : decode cL_law 859 = .ok (.iconst 0, 1) := by decide +kernel
theorem dL_law_860 : decode cL_law 860 = .ok (.ireturn, 1) := by decide +kernel
theorem dL_law_861 : decode cL_law 861 = .ok (.aload_n 1, 1) := by decide +kernel
theorem dL_law_862 : decode cL_law 862 = .ok (.aload_n 0, 1) := by decide +kernel
theorem dL_law_863 : decode cL_law 863 = .ok (.iload_n 3, 1) := by decide +kernel
theorem dL_law_864 : decode cL_law 864 = .ok (.iconst 1, 1) := by decide +kernel
theorem dL_law_865 : decode cL_law 865 = .ok (.iadd, 1) := by decide +kernel
theorem dL_law_866 : decode cL_law 866 = .ok (.iaload, 1) := by decide +kernel
theorem dL_law_867 : decode cL_law 867 = .ok (.aload_n 0, 1) := by decide +kernel
theorem dL_law_868 : decode cL_law 868 = .ok (.iload_n 3, 1) := by decide +kernel
theorem dL_law_869 : decode cL_law 869 = .ok (.iconst 2, 1) := by decide +kernel
theorem dL_law_870 : decode cL_law 870 = .ok (.iadd, 1) := by decide +kernel
theorem dL_law_871 : decode cL_law 871 = .ok (.iaload, 1) := by decide +kernel
theorem dL_law_872 : decode cL_law 872 = .ok (.aload_n 0, 1) := by decide +kernel
theorem dL_law_873 : decode cL_law 873 = .ok (.iload_n 3, 1) := by decide +kernel
theorem dL_law_874 : decode cL_law 874 = .ok (.iconst 3, 1) := by decide +kernel
theorem dL_law_875 : decode cL_law 875 = .ok (.iadd, 1) := by decide +kernel
theorem dL_law_876 : decode cL_law 876 = .ok (.iaload, 1) := by decide +kernel
theorem dL_law_877 : decode cL_law 877 = .ok (.invokevirtual 102, 3) := by decide +kernel
theorem dL_law_880 : decode cL_law 880 = .ok (.aload_n 2, 1) := by decide +kernel
theorem dL_law_881 : decode cL_law 881 = .ok (.aload_n 0, 1) := by decide +kernel
theorem dL_law_882 : decode cL_law 882 = .ok (.iload_n 3, 1) := by decide +kernel
theorem dL_law_883 : decode cL_law 883 = .ok (.iconst 1, 1) := by decide +kernel
theorem dL_law_884 : decode cL_law 884 = .ok (.iadd, 1) := by decide +kernel
theorem dL_law_885 : decode cL_law 885 = .ok (.iaload, 1) := by decide +kernel
theorem dL_law_886 : decode cL_law 886 = .ok (.aload_n 0, 1) := by decide +kernel
theorem dL_law_887 : decode cL_law 887 = .ok (.iload_n 3, 1) := by decide +kernel
theorem dL_law_888 : decode cL_law 888 = .ok (.iconst 2, 1) := by decide +kernel
theorem dL_law_889 : decode cL_law 889 = .ok (.iadd, 1) := by decide +kernel
theorem dL_law_890 : decode cL_law 890 = .ok (.iaload, 1) := by decide +kernel
theorem dL_law_891 : decode cL_law 891 = .ok (.aload_n 0, 1) := by decide +kernel
theorem dL_law_892 : decode cL_law 892 = .ok (.iload_n 3, 1) := by decide +kernel
theorem dL_law_893 : decode cL_law 893 = .ok (.iconst 3, 1) := by decide +kernel
theorem dL_law_894 : decode cL_law 894 = .ok (.iadd, 1) := by decide +kernel
theorem dL_law_895 : decode cL_law 895 = .ok (.iaload, 1) := by decide +kernel
theorem dL_law_896 : decode cL_law 896 = .ok (.invokevirtual 105, 3) := by decide +kernel
theorem dL_law_899 : decode cL_law 899 = .ok (.if_icmp .eq 512, 3) := by decide +kernel
theorem dL_law_902 : decode cL_law 902 = .ok (.iconst 0, 1) := by decide +kernel
theorem dL_law_903 : decode cL_law 903 = .ok (.ireturn, 1) := by decide +kernel
theorem dL_law_904 : decode cL_law 904 = .ok (.aload_n 1, 1) := by decide +kernel
theorem dL_law_905 : decode cL_law 905 = .ok (.aload_n 0, 1) := by decide +kernel
theorem dL_law_906 : decode cL_law 906 = .ok (.iload_n 3, 1) := by decide +kernel
theorem dL_law_907 : decode cL_law 907 = .ok (.iconst 1, 1) := by decide +kernel
theorem dL_law_908 : decode cL_law 908 = .ok (.iadd, 1) := by decide +kernel
theorem dL_law_909 : decode cL_law 909 = .ok (.iaload, 1) := by decide +kernel
theorem dL_law_910 : decode cL_law 910 = .ok (.aload_n 0, 1) := by decide +kernel
theorem dL_law_911 : decode cL_law 911 = .ok (.iload_n 3, 1) := by decide +kernel
theorem dL_law_912 : decode cL_law 912 = .ok (.iconst 2, 1) := by decide +kernel
theorem dL_law_913 : decode cL_law 913 = .ok (.iadd, 1) := by decide +kernel
theorem dL_law_914 : decode cL_law 914 = .ok (.iaload, 1) := by decide +kernel
theorem dL_law_915 : decode cL_law 915 = .ok (.invokevirtual 106, 3) := by decide +kernel
theorem dL_law_918 : decode cL_law 918 = .ok (.aload_n 2, 1) := by decide +kernel
theorem dL_law_919 : decode cL_law 919 = .ok (.aload_n 0, 1) := by decide +kernel
theorem dL_law_920 : decode cL_law 920 = .ok (.iload_n 3, 1) := by decide +kernel
theorem dL_law_921 : decode cL_law 921 = .ok (.iconst 1, 1) := by decide +kernel
theorem dL_law_922 : decode cL_law 922 = .ok (.iadd, 1) := by decide +kernel
theorem dL_law_923 : decode cL_law 923 = .ok (.iaload, 1) := by decide +kernel
theorem dL_law_924 : decode cL_law 924 = .ok (.aload_n 0, 1) := by decide +kernel
theorem dL_law_925 : decode cL_law 925 = .ok (.iload_n 3, 1) := by decide +kernel
theorem dL_law_926 : decode cL_law 926 = .ok (.iconst 2, 1) := by decide +kernel
theorem dL_law_927 : decode cL_law 927 = .ok (.iadd, 1) := by decide +kernel
theorem dL_law_928 : decode cL_law 928 = .ok (.iaload, 1) := by decide +kernel
theorem dL_law_929 : decode cL_law 929 = .ok (.invokevirtual 109, 3) := by decide +kernel
theorem dL_law_932 : decode cL_law 932 = .ok (.if_icmp .eq 479, 3) := by decide +kernel
theorem dL_law_935 : decode cL_law 935 = .ok (.iconst 0, 1) := by decide +kernel
theorem dL_law_936 : decode cL_law 936 = .ok (.ireturn, 1) := by decide +kernel
theorem dL_law_937 : decode cL_law 937 = .ok (.aload_n 1, 1) := by decide +kernel
theorem dL_law_938 : decode cL_law 938 = .ok (.aload_n 0, 1) := by decide +kernel
theorem dL_law_939 : decode cL_law 939 = .ok (.iload_n 3, 1) := by decide +kernel
theorem dL_law_940 : decode cL_law 940 = .ok (.iconst 1, 1) := by decide +kernel
theorem dL_law_941 : decode cL_law 941 = .ok (.iadd, 1) := by decide +kernel
theorem dL_law_942 : decode cL_law 942 = .ok (.iaload, 1) := by decide +kernel
theorem dL_law_943 : decode cL_law 943 = .ok (.invokevirtual 110, 3) := by decide +kernel
theorem dL_law_946 : decode cL_law 946 = .ok (.aload_n 2, 1) := by decide +kernel
theorem dL_law_947 : decode cL_law 947 = .ok (.aload_n 0, 1) := by decide +kernel
theorem dL_law_948 : decode cL_law 948 = .ok (.iload_n 3, 1) := by decide +kernel
theorem dL_law_949 : decode cL_law 949 = .ok (.iconst 1, 1) := by decide +kernel
theorem dL_law_950 : decode cL_law 950 = .ok (.iadd, 1) := by decide +kernel
theorem dL_law_951 : decode cL_law 951 = .ok (.iaload, 1) := by decide +kernel
theorem dL_law_952 : decode cL_law 952 = .ok (.invokevirtual 113, 3) := by decide +kernel
theorem dL_law_955 : decode cL_law 955 = .ok (.if_icmp .eq 456, 3) := by decide +kernel
theorem dL_law_958 : decode cL_law 958 = .ok (.iconst 0, 1) := by decide +kernel
theorem dL_law_959 : decode cL_law 959 = .ok (.ireturn, 1) := by decide +kernel
theorem dL_law_960 : decode cL_law 960 = .ok (.aload_n 1, 1) := by decide +kernel
theorem dL_law_961 : decode cL_law 961 = .ok (.aload_n 0, 1) := by decide +kernel
theorem dL_law_962 : decode cL_law 962 = .ok (.iload_n 3, 1) := by decide +kernel
theorem dL_law_963 : decode cL_law 963 = .ok (.iconst 1, 1) := by decide +kernel
theorem dL_law_964 : decode cL_law 964 = .ok (.iadd, 1) := by decide +kernel
theorem dL_law_965 : decode cL_law 965 = .ok (.iaload, 1) := by decide +kernel
theorem dL_law_966 : decode cL_law 966 = .ok (.aload_n 0, 1) := by decide +kernel
theorem dL_law_967 : decode cL_law 967 = .ok (.iload_n 3, 1) := by decide +kernel
theorem dL_law_968 : decode cL_law 968 = .ok (.iconst 2, 1) := by decide +kernel
theorem dL_law_969 : decode cL_law 969 = .ok (.iadd, 1) := by decide +kernel
theorem dL_law_970 : decode cL_law 970 = .ok (.iaload, 1) := by decide +kernel
theorem dL_law_971 : decode cL_law 971 = .ok (.invokevirtual 114, 3) := by decide +kernel
theorem dL_law_974 : decode cL_law 974 = .ok (.aload_n 2, 1) := by decide +kernel
theorem dL_law_975 : decode cL_law 975 = .ok (.aload_n 0, 1) := by decide +kernel
theorem dL_law_976 : decode cL_law 976 = .ok (.iload_n 3, 1) := by decide +kernel
theorem dL_law_977 : decode cL_law 977 = .ok (.iconst 1, 1) := by decide +kernel
theorem dL_law_978 : decode cL_law 978 = .ok (.iadd, 1) := by decide +kernel
theorem dL_law_979 : decode cL_law 979 = .ok (.iaload, 1) := by decide +kernel
theorem dL_law_980 : decode cL_law 980 = .ok (.aload_n 0, 1) := by decide +kernel
theorem dL_law_981 : decode cL_law 981 = .ok (.iload_n 3, 1) := by decide +kernel
theorem dL_law_982 : decode cL_law 982 = .ok (.iconst 2, 1) := by decide +kernel
theorem dL_law_983 : decode cL_law 983 = .ok (.iadd, 1) := by decide +kernel
theorem dL_law_984 : decode cL_law 984 = .ok (.iaload, 1) := by decide +kernel
theorem dL_law_985 : decode cL_law 985 = .ok (.invokevirtual 117, 3) := by decide +kernel
theorem dL_law_988 : decode cL_law 988 = .ok (.if_icmp .eq 423, 3) := by decide +kernel
theorem dL_law_991 : decode cL_law 991 = .ok (.iconst 0, 1) := by decide +kernel
theorem dL_law_992 : decode cL_law 992 = .ok (.ireturn, 1) := by decide +kernel
theorem dL_law_993 : decode cL_law 993 = .ok (.aload_n 1, 1) := by decide +kernel
theorem dL_law_994 : decode cL_law 994 = .ok (.aload_n 0, 1) := by decide +kernel
theorem dL_law_995 : decode cL_law 995 = .ok (.iload_n 3, 1) := by decide +kernel
theorem dL_law_996 : decode cL_law 996 = .ok (.iconst 1, 1) := by decide +kernel
theorem dL_law_997 : decode cL_law 997 = .ok (.iadd, 1) := by decide +kernel
theorem dL_law_998 : decode cL_law 998 = .ok (.iaload, 1) := by decide +kernel
theorem dL_law_999 : decode cL_law 999 = .ok (.aload_n 0, 1) := by decide +kernel
theorem dL_law_1000 : decode cL_law 1000 = .ok (.iload_n 3, 1) := by decide +kernel
theorem dL_law_1001 : decode cL_law 1001 = .ok (.iconst 2, 1) := by decide +kernel
theorem dL_law_1002 : decode cL_law 1002 = .ok (.iadd, 1) := by decide +kernel
theorem dL_law_1003 : decode cL_law 1003 = .ok (.iaload, 1) := by decide +kernel
theorem dL_law_1004 : decode cL_law 1004 = .ok (.aload_n 0, 1) := by decide +kernel
theorem dL_law_1005 : decode cL_law 1005 = .ok (.iload_n 3, 1) := by decide +kernel
theorem dL_law_1006 : decode cL_law 1006 = .ok (.iconst 3, 1) := by decide +kernel
theorem dL_law_1007 : decode cL_law 1007 = .ok (.iadd, 1) := by decide +kernel
theorem dL_law_1008 : decode cL_law 1008 = .ok (.iaload, 1) := by decide +kernel
theorem dL_law_1009 : decode cL_law 1009 = .ok (.invokevirtual 118, 3) := by decide +kernel
theorem dL_law_1012 : decode cL_law 1012 = .ok (.aload_n 2, 1) := by decide +kernel
theorem dL_law_1013 : decode cL_law 1013 = .ok (.aload_n 0, 1) := by decide +kernel
theorem dL_law_1014 : decode cL_law 1014 = .ok (.iload_n 3, 1) := by decide +kernel
theorem dL_law_1015 : decode cL_law 1015 = .ok (.iconst 1, 1) := by decide +kernel
theorem dL_law_1016 : decode cL_law 1016 = .ok (.iadd, 1) := by decide +kernel
theorem dL_law_1017 : decode cL_law 1017 = .ok (.iaload, 1) := by decide +kernel
theorem dL_law_1018 : decode cL_law 1018 = .ok (.aload_n 0, 1) := by decide +kernel
theorem dL_law_1019 : decode cL_law 1019 = .ok (.iload_n 3, 1) := by decide +kernel
theorem dL_law_1020 : decode cL_law 1020 = .ok (.iconst 2, 1) := by decide +kernel
theorem dL_law_1021 : decode cL_law 1021 = .ok (.iadd, 1) := by decide +kernel
theorem dL_law_1022 : decode cL_law 1022 = .ok (.iaload, 1) := by decide +kernel
theorem dL_law_1023 : decode cL_law 1023 = .ok (.aload_n 0, 1) := by decide +kernel
theorem dL_law_1024 : decode cL_law 1024 = .ok (.iload_n 3, 1) := by decide +kernel
theorem dL_law_1025 : decode cL_law 1025 = .ok (.iconst 3, 1) := by decide +kernel
theorem dL_law_1026 : decode cL_law 1026 = .ok (.iadd, 1) := by decide +kernel
theorem dL_law_1027 : decode cL_law 1027 = .ok (.iaload, 1) := by decide +kernel
theorem dL_law_1028 : decode cL_law 1028 = .ok (.invokevirtual 121, 3) := by decide +kernel
theorem dL_law_1031 : decode cL_law 1031 = .ok (.if_icmp .eq 380, 3) := by decide +kernel
theorem dL_law_1034 : decode cL_law 1034 = .ok (.iconst 0, 1) := by decide +kernel
theorem dL_law_1035 : decode cL_law 1035 = .ok (.ireturn, 1) := by decide +kernel
theorem dL_law_1036 : decode cL_law 1036 = .ok (.aload_n 1, 1) := by decide +kernel
theorem dL_law_1037 : decode cL_law 1037 = .ok (.aload_n 0, 1) := by decide +kernel
theorem dL_law_1038 : decode cL_law 1038 = .ok (.iload_n 3, 1) := by decide +kernel
theorem dL_law_1039 : decode cL_law 1039 = .ok (.iconst 1, 1) := by decide +kernel
theorem dL_law_1040 : decode cL_law 1040 = .ok (.iadd, 1) := by decide +kernel
theorem dL_law_1041 : decode cL_law 1041 = .ok (.iaload, 1) := by decide +kernel
theorem dL_law_1042 : decode cL_law 1042 = .ok (.aload_n 0, 1) := by decide +kernel
theorem dL_law_1043 : decode cL_law 1043 = .ok (.iload_n 3, 1) := by decide +kernel
theorem dL_law_1044 : decode cL_law 1044 = .ok (.iconst 2, 1) := by decide +kernel
theorem dL_law_1045 : decode cL_law 1045 = .ok (.iadd, 1) := by decide +kernel
theorem dL_law_1046 : decode cL_law 1046 = .ok (.iaload, 1) := by decide +kernel
theorem dL_law_1047 : decode cL_law 1047 = .ok (.invokevirtual 122, 3) := by decide +kernel
theorem dL_law_1050 : decode cL_law 1050 = .ok (.aload_n 2, 1) := by decide +kernel
theorem dL_law_1051 : decode cL_law 1051 = .ok (.aload_n 0, 1) := by decide +kernel
theorem dL_law_1052 : decode cL_law 1052 = .ok (.iload_n 3, 1) := by decide +kernel
theorem dL_law_1053 : decode cL_law 1053 = .ok (.iconst 1, 1) := by decide +kernel
theorem dL_law_1054 : decode cL_law 1054 = .ok (.iadd, 1) := by decide +kernel
theorem dL_law_1055 : decode cL_law 1055 = .ok (.iaload, 1) := by decide +kernel
theorem dL_law_1056 : decode cL_law 1056 = .ok (.aload_n 0, 1) := by decide +kernel
theorem dL_law_1057 : decode cL_law 1057 = .ok (.iload_n 3, 1) := by decide +kernel
theorem dL_law_1058 : decode cL_law 1058 = .ok (.iconst 2, 1) := by decide +kernel
theorem dL_law_1059 : decode cL_law 1059 = .ok (.iadd, 1) := by decide +kernel
theorem dL_law_1060 : decode cL_law 1060 = .ok (.iaload, 1) := by decide +kernel
theorem dL_law_1061 : decode cL_law 1061 = .ok (.invokevirtual 125, 3) := by decide +kernel
theorem dL_law_1064 : decode cL_law 1064 = .ok (.if_icmp .eq 347, 3) := by decide +kernel
theorem dL_law_1067 : decode cL_law 1067 = .ok (.iconst 0, 1) := by decide +kernel
theorem dL_law_1068 : decode cL_law 1068 = .ok (.ireturn, 1) := by decide +kernel
theorem dL_law_1069 : decode cL_law 1069 = .ok (.aload_n 1, 1) := by decide +kernel
theorem dL_law_1070 : decode cL_law 1070 = .ok (.aload_n 0, 1) := by decide +kernel
theorem dL_law_1071 : decode cL_law 1071 = .ok (.iload_n 3, 1) := by decide +kernel
theorem dL_law_1072 : decode cL_law 1072 = .ok (.iconst 1, 1) := by decide +kernel
theorem dL_law_1073 : decode cL_law 1073 = .ok (.iadd, 1) := by decide +kernel
theorem dL_law_1074 : decode cL_law 1074 = .ok (.iaload, 1) := by decide +kernel
theorem dL_law_1075 : decode cL_law 1075 = .ok (.aload_n 0, 1) := by decide +kernel
theorem dL_law_1076 : decode cL_law 1076 = .ok (.iload_n 3, 1) := by decide +kernel
theorem dL_law_1077 : decode cL_law 1077 = .ok (.iconst 2, 1) := by decide +kernel
theorem dL_law_1078 : decode cL_law 1078 = .ok (.iadd, 1) := by decide +kernel
theorem dL_law_1079 : decode cL_law 1079 = .ok (.iaload, 1) := by decide +kernel
theorem dL_law_1080 : decode cL_law 1080 = .ok (.invokevirtual 126, 3) := by decide +kernel
theorem dL_law_1083 : decode cL_law 1083 = .ok (.aload_n 2, 1) := by decide +kernel
theorem dL_law_1084 : decode cL_law 1084 = .ok (.aload_n 0, 1) := by decide +kernel
theorem dL_law_1085 : decode cL_law 1085 = .ok (.iload_n 3, 1) := by decide +kernel
theorem dL_law_1086 : decode cL_law 1086 = .ok (.iconst 1, 1) := by decide +kernel
theorem dL_law_1087 : decode cL_law 1087 = .ok (.iadd, 1) := by decide +kernel
theorem dL_law_1088 : decode cL_law 1088 = .ok (.iaload, 1) := by decide +kernel
theorem dL_law_1089 : decode cL_law 1089 = .ok (.aload_n 0, 1) := by decide +kernel
theorem dL_law_1090 : decode cL_law 1090 = .ok (.iload_n 3, 1) := by decide +kernel
theorem dL_law_1091 : decode cL_law 1091 = .ok (.iconst 2, 1) := by decide +kernel
theorem dL_law_1092 : decode cL_law 1092 = .ok (.iadd, 1) := by decide +kernel
theorem dL_law_1093 : decode cL_law 1093 = .ok (.iaload, 1) := by decide +kernel
theorem dL_law_1094 : decode cL_law 1094 = .ok (.invokevirtual 129, 3) := by decide +kernel
theorem dL_law_1097 : decode cL_law 1097 = .ok (.if_icmp .eq 314, 3) := by decide +kernel
theorem dL_law_1100 : decode cL_law 1100 = .ok (.iconst 0, 1) := by decide +kernel
theorem dL_law_1101 : decode cL_law 1101 = .ok (.ireturn, 1) := by decide +kernel
theorem dL_law_1102 : decode cL_law 1102 = .ok (.aload_n 1, 1) := by decide +kernel
theorem dL_law_1103 : decode cL_law 1103 = .ok (.aload_n 0, 1) := by decide +kernel
theorem dL_law_1104 : decode cL_law 1104 = .ok (.iload_n 3, 1) := by decide +kernel
theorem dL_law_1105 : decode cL_law 1105 = .ok (.iconst 1, 1) := by decide +kernel
theorem dL_law_1106 : decode cL_law 1106 = .ok (.iadd, 1) := by decide +kernel
theorem dL_law_1107 : decode cL_law 1107 = .ok (.iaload, 1) := by decide +kernel
theorem dL_law_1108 : decode cL_law 1108 = .ok (.aload_n 0, 1) := by decide +kernel
theorem dL_law_1109 : decode cL_law 1109 = .ok (.iload_n 3, 1) := by decide +kernel
theorem dL_law_1110 : decode cL_law 1110 = .ok (.iconst 2, 1) := by decide +kernel
theorem dL_law_1111 : decode cL_law 1111 = .ok (.iadd, 1) := by decide +kernel
theorem dL_law_1112 : decode cL_law 1112 = .ok (.iaload, 1) := by decide +kernel
theorem dL_law_1113 : decode cL_law 1113 = .ok (.invokevirtual 130, 3) := by decide +kernel
theorem dL_law_1116 : decode cL_law 1116 = .ok (.aload_n 2, 1) := by decide +kernel
theorem dL_law_1117 : decode cL_law 1117 = .ok (.aload_n 0, 1) := by decide +kernel
theorem dL_law_1118 : decode cL_law 1118 = .ok (.iload_n 3, 1) := by decide +kernel
theorem dL_law_1119 : decode cL_law 1119 = .ok (.iconst 1, 1) := by decide +kernel
theorem dL_law_1120 : decode cL_law 1120 = .ok (.iadd, 1) := by decide +kernel
theorem dL_law_1121 : decode cL_law 1121 = .ok (.iaload, 1) := by decide +kernel
theorem dL_law_1122 : decode cL_law 1122 = .ok (.aload_n 0, 1) := by decide +kernel
theorem dL_law_1123 : decode cL_law 1123 = .ok (.iload_n 3, 1) := by decide +kernel
theorem dL_law_1124 : decode cL_law 1124 = .ok (.iconst 2, 1) := by decide +kernel
theorem dL_law_1125 : decode cL_law 1125 = .ok (.iadd, 1) := by decide +kernel
theorem dL_law_1126 : decode cL_law 1126 = .ok (.iaload, 1) := by decide +kernel
theorem dL_law_1127 : decode cL_law 1127 = .ok (.invokevirtual 133, 3) := by decide +kernel
theorem dL_law_1130 : decode cL_law 1130 = .ok (.if_icmp .eq 281, 3) := by decide +kernel
theorem dL_law_1133 : decode cL_law 1133 = .ok (.iconst 0, 1) := by decide +kernel
theorem dL_law_1134 : decode cL_law 1134 = .ok (.ireturn, 1) := by decide +kernel
theorem dL_law_1135 : decode cL_law 1135 = .ok (.aload_n 1, 1) := by decide +kernel
theorem dL_law_1136 : decode cL_law 1136 = .ok (.aload_n 0, 1) := by decide +kernel
theorem dL_law_1137 : decode cL_law 1137 = .ok (.iload_n 3, 1) := by decide +kernel
theorem dL_law_1138 : decode cL_law 1138 = .ok (.iconst 1, 1) := by decide +kernel
theorem dL_law_1139 : decode cL_law 1139 = .ok (.iadd, 1) := by decide +kernel
theorem dL_law_1140 : decode cL_law 1140 = .ok (.iaload, 1) := by decide +kernel
theorem dL_law_1141 : decode cL_law 1141 = .ok (.aload_n 0, 1) := by decide +kernel
theorem dL_law_1142 : decode cL_law 1142 = .ok (.iload_n 3, 1) := by decide +kernel
theorem dL_law_1143 : decode cL_law 1143 = .ok (.iconst 2, 1) := by decide +kernel
theorem dL_law_1144 : decode cL_law 1144 = .ok (.iadd, 1) := by decide +kernel
theorem dL_law_1145 : decode cL_law 1145 = .ok (.iaload, 1) := by decide +kernel
theorem dL_law_1146 : decode cL_law 1146 = .ok (.aload_n 0, 1) := by decide +kernel
theorem dL_law_1147 : decode cL_law 1147 = .ok (.iload_n 3, 1) := by decide +kernel
theorem dL_law_1148 : decode cL_law 1148 = .ok (.iconst 3, 1) := by decide +kernel
theorem dL_law_1149 : decode cL_law 1149 = .ok (.iadd, 1) := by decide +kernel
theorem dL_law_1150 : decode cL_law 1150 = .ok (.iaload, 1) := by decide +kernel
theorem dL_law_1151 : decode cL_law 1151 = .ok (.invokevirtual 134, 3) := by decide +kernel
theorem dL_law_1154 : decode cL_law 1154 = .ok (.aload_n 2, 1) := by decide +kernel
theorem dL_law_1155 : decode cL_law 1155 = .ok (.aload_n 0, 1) := by decide +kernel
theorem dL_law_1156 : decode cL_law 1156 = .ok (.iload_n 3, 1) := by decide +kernel
theorem dL_law_1157 : decode cL_law 1157 = .ok (.iconst 1, 1) := by decide +kernel
theorem dL_law_1158 : decode cL_law 1158 = .ok (.iadd, 1) := by decide +kernel
theorem dL_law_1159 : decode cL_law 1159 = .ok (.iaload, 1) := by decide +kernel
theorem dL_law_1160 : decode cL_law 1160 = .ok (.aload_n 0, 1) := by decide +kernel
theorem dL_law_1161 : decode cL_law 1161 = .ok (.iload_n 3, 1) := by decide +kernel
theorem dL_law_1162 : decode cL_law 1162 = .ok (.iconst 2, 1) := by decide +kernel
theorem dL_law_1163 : decode cL_law 1163 = .ok (.iadd, 1) := by decide +kernel
theorem dL_law_1164 : decode cL_law 1164 = .ok (.iaload, 1) := by decide +kernel
theorem dL_law_1165 : decode cL_law 1165 = .ok (.aload_n 0, 1) := by decide +kernel
theorem dL_law_1166 : decode cL_law 1166 = .ok (.iload_n 3, 1) := by decide +kernel
theorem dL_law_1167 : decode cL_law 1167 = .ok (.iconst 3, 1) := by decide +kernel
theorem dL_law_1168 : decode cL_law 1168 = .ok (.iadd, 1) := by decide +kernel
theorem dL_law_1169 : decode cL_law 1169 = .ok (.iaload, 1) := by decide +kernel
theorem dL_law_1170 : decode cL_law 1170 = .ok (.invokevirtual 137, 3) := by decide +kernel
theorem dL_law_1173 : decode cL_law 1173 = .ok (.if_icmp .eq 238, 3) := by decide +kernel
theorem dL_law_1176 : decode cL_law 1176 = .ok (.iconst 0, 1) := by decide +kernel
theorem dL_law_1177 : decode cL_law 1177 = .ok (.ireturn, 1) := by decide +kernel
theorem dL_law_1178 : decode cL_law 1178 = .ok (.aload_n 1, 1) := by decide +kernel
theorem dL_law_1179 : decode cL_law 1179 = .ok (.aload_n 0, 1) := by decide +kernel
theorem dL_law_1180 : decode cL_law 1180 = .ok (.iload_n 3, 1) := by decide +kernel
theorem dL_law_1181 : decode cL_law 1181 = .ok (.iconst 1, 1) := by decide +kernel
theorem dL_law_1182 : decode cL_law 1182 = .ok (.iadd, 1) := by decide +kernel
theorem dL_law_1183 : decode cL_law 1183 = .ok (.iaload, 1) := by decide +kernel
theorem dL_law_1184 : decode cL_law 1184 = .ok (.aload_n 0, 1) := by decide +kernel
theorem dL_law_1185 : decode cL_law 1185 = .ok (.iload_n 3, 1) := by decide +kernel
theorem dL_law_1186 : decode cL_law 1186 = .ok (.iconst 2, 1) := by decide +kernel
theorem dL_law_1187 : decode cL_law 1187 = .ok (.iadd, 1) := by decide +kernel
theorem dL_law_1188 : decode cL_law 1188 = .ok (.iaload, 1) := by decide +kernel
theorem dL_law_1189 : decode cL_law 1189 = .ok (.aload_n 0, 1) := by decide +kernel
theorem dL_law_1190 : decode cL_law 1190 = .ok (.iload_n 3, 1) := by decide +kernel
theorem dL_law_1191 : decode cL_law 1191 = .ok (.iconst 3, 1) := by decide +kernel
theorem dL_law_1192 : decode cL_law 1192 = .ok (.iadd, 1) := by decide +kernel
theorem dL_law_1193 : decode cL_law 1193 = .ok (.iaload, 1) := by decide +kernel
theorem dL_law_1194 : decode cL_law 1194 = .ok (.invokevirtual 138, 3) := by decide +kernel
theorem dL_law_1197 : decode cL_law 1197 = .ok (.aload_n 2, 1) := by decide +kernel
theorem dL_law_1198 : decode cL_law 1198 = .ok (.aload_n 0, 1) := by decide +kernel
theorem dL_law_1199 : decode cL_law 1199 = .ok (.iload_n 3, 1) := by decide +kernel
theorem dL_law_1200 : decode cL_law 1200 = .ok (.iconst 1, 1) := by decide +kernel
theorem dL_law_1201 : decode cL_law 1201 = .ok (.iadd, 1) := by decide +kernel
theorem dL_law_1202 : decode cL_law 1202 = .ok (.iaload, 1) := by decide +kernel
theorem dL_law_1203 : decode cL_law 1203 = .ok (.aload_n 0, 1) := by decide +kernel
theorem dL_law_1204 : decode cL_law 1204 = .ok (.iload_n 3, 1) := by decide +kernel
theorem dL_law_1205 : decode cL_law 1205 = .ok (.iconst 2, 1) := by decide +kernel
theorem dL_law_1206 : decode cL_law 1206 = .ok (.iadd, 1) := by decide +kernel
theorem dL_law_1207 : decode cL_law 1207 = .ok (.iaload, 1) := by decide +kernel
theorem dL_law_1208 : decode cL_law 1208 = .ok (.aload_n 0, 1) := by decide +kernel
theorem dL_law_1209 : decode cL_law 1209 = .ok (.iload_n 3, 1) := by decide +kernel
theorem dL_law_1210 : decode cL_law 1210 = .ok (.iconst 3, 1) := by decide +kernel
theorem dL_law_1211 : decode cL_law 1211 = .ok (.iadd, 1) := by decide +kernel
theorem dL_law_1212 : decode cL_law 1212 = .ok (.iaload, 1) := by decide +kernel
theorem dL_law_1213 : decode cL_law 1213 = .ok (.invokevirtual 141, 3) := by decide +kernel
theorem dL_law_1216 : decode cL_law 1216 = .ok (.if_icmp .eq 195, 3) := by decide +kernel
theorem dL_law_1219 : decode cL_law 1219 = .ok (.iconst 0, 1) := by decide +kernel
theorem dL_law_1220 : decode cL_law 1220 = .ok (.ireturn, 1) := by decide +kernel
theorem dL_law_1221 : decode cL_law 1221 = .ok (.aload_n 1, 1) := by decide +kernel
theorem dL_law_1222 : decode cL_law 1222 = .ok (.aload_n 0, 1) := by decide +kernel
theorem dL_law_1223 : decode cL_law 1223 = .ok (.iload_n 3, 1) := by decide +kernel
theorem dL_law_1224 : decode cL_law 1224 = .ok (.iconst 1, 1) := by decide +kernel
theorem dL_law_1225 : decode cL_law 1225 = .ok (.iadd, 1) := by decide +kernel
theorem dL_law_1226 : decode cL_law 1226 = .ok (.iaload, 1) := by decide +kernel
theorem dL_law_1227 : decode cL_law 1227 = .ok (.aload_n 0, 1) := by decide +kernel
theorem dL_law_1228 : decode cL_law 1228 = .ok (.iload_n 3, 1) := by decide +kernel
theorem dL_law_1229 : decode cL_law 1229 = .ok (.iconst 2, 1) := by decide +kernel
theorem dL_law_1230 : decode cL_law 1230 = .ok (.iadd, 1) := by decide +kernel
theorem dL_law_1231 : decode cL_law 1231 = .ok (.iaload, 1) := by decide +kernel
theorem dL_law_1232 : decode cL_law 1232 = .ok (.aload_n 0, 1) := by decide +kernel
theorem dL_law_1233 : decode cL_law 1233 = .ok (.iload_n 3, 1) := by decide +kernel
theorem dL_law_1234 : decode cL_law 1234 = .ok (.iconst 3, 1) := by decide +kernel
theorem dL_law_1235 : decode cL_law 1235 = .ok (.iadd, 1) := by decide +kernel
theorem dL_law_1236 : decode cL_law 1236 = .ok (.iaload, 1) := by decide +kernel
theorem dL_law_1237 : decode cL_law 1237 = .ok (.invokevirtual 142, 3) := by decide +kernel
theorem dL_law_1240 : decode cL_law 1240 = .ok (.aload_n 2, 1) := by decide +kernel
theorem dL_law_1241 : decode cL_law 1241 = .ok (.aload_n 0, 1) := by decide +kernel
theorem dL_law_1242 : decode cL_law 1242 = .ok (.iload_n 3, 1) := by decide +kernel
theorem dL_law_1243 : decode cL_law 1243 = .ok (.iconst 1, 1) := by decide +kernel
theorem dL_law_1244 : decode cL_law 1244 = .ok (.iadd, 1) := by decide +kernel
theorem dL_law_1245 : decode cL_law 1245 = .ok (.iaload, 1) := by decide +kernel
theorem dL_law_1246 : decode cL_law 1246 = .ok (.aload_n 0, 1) := by decide +kernel
theorem dL_law_1247 : decode cL_law 1247 = .ok (.iload_n 3, 1) := by decide +kernel
theorem dL_law_1248 : decode cL_law 1248 = .ok (.iconst 2, 1) := by decide +kernel
theorem dL_law_1249 : decode cL_law 1249 = .ok (.iadd, 1) := by decide +kernel
theorem dL_law_1250 : decode cL_law 1250 = .ok (.iaload, 1) := by decide +kernel
theorem dL_law_1251 : decode cL_law 1251 = .ok (.aload_n 0, 1) := by decide +kernel
theorem dL_law_1252 : decode cL_law 1252 = .ok (.iload_n 3, 1) := by decide +kernel
theorem dL_law_1253 : decode cL_law 1253 = .ok (.iconst 3, 1) := by decide +kernel
theorem dL_law_1254 : decode cL_law 1254 = .ok (.iadd, 1) := by decide +kernel
theorem dL_law_1255 : decode cL_law 1255 = .ok (.iaload, 1) := by decide +kernel
theorem dL_law_1256 : decode cL_law 1256 = .ok (.invokevirtual 145, 3) := by decide +kernel
theorem dL_law_1259 : decode cL_law 1259 = .ok (.if_icmp .eq 152, 3) := by decide +kernel
theorem dL_law_1262 : decode cL_law 1262 = .ok (.iconst 0, 1) := by decide +kernel
theorem dL_law_1263 : decode cL_law 1263 = .ok (.ireturn, 1) := by decide +kernel
theorem dL_law_1264 : decode cL_law 1264 = .ok (.aload_n 1, 1) := by decide +kernel
theorem dL_law_1265 : decode cL_law 1265 = .ok (.aload_n 0, 1) := by decide +kernel
theorem dL_law_1266 : decode cL_law 1266 = .ok (.iload_n 3, 1) := by decide +kernel
theorem dL_law_1267 : decode cL_law 1267 = .ok (.iconst 1, 1) := by decide +kernel
theorem dL_law_1268 : decode cL_law 1268 = .ok (.iadd, 1) := by decide +kernel
theorem dL_law_1269 : decode cL_law 1269 = .ok (.iaload, 1) := by decide +kernel
theorem dL_law_1270 : decode cL_law 1270 = .ok (.aload_n 0, 1) := by decide +kernel
theorem dL_law_1271 : decode cL_law 1271 = .ok (.iload_n 3, 1) := by decide +kernel
theorem dL_law_1272 : decode cL_law 1272 = .ok (.iconst 2, 1) := by decide +kernel
theorem dL_law_1273 : decode cL_law 1273 = .ok (.iadd, 1) := by decide +kernel
theorem dL_law_1274 : decode cL_law 1274 = .ok (.iaload, 1) := by decide +kernel
theorem dL_law_1275 : decode cL_law 1275 = .ok (.invokevirtual 146, 3) := by decide +kernel
theorem dL_law_1278 : decode cL_law 1278 = .ok (.aload_n 2, 1) := by decide +kernel
theorem dL_law_1279 : decode cL_law 1279 = .ok (.aload_n 0, 1) := by decide +kernel
theorem dL_law_1280 : decode cL_law 1280 = .ok (.iload_n 3, 1) := by decide +kernel
theorem dL_law_1281 : decode cL_law 1281 = .ok (.iconst 1, 1) := by decide +kernel
theorem dL_law_1282 : decode cL_law 1282 = .ok (.iadd, 1) := by decide +kernel
theorem dL_law_1283 : decode cL_law 1283 = .ok (.iaload, 1) := by decide +kernel
theorem dL_law_1284 : decode cL_law 1284 = .ok (.aload_n 0, 1) := by decide +kernel
theorem dL_law_1285 : decode cL_law 1285 = .ok (.iload_n 3, 1) := by decide +kernel
theorem dL_law_1286 : decode cL_law 1286 = .ok (.iconst 2, 1) := by decide +kernel
theorem dL_law_1287 : decode cL_law 1287 = .ok (.iadd, 1) := by decide +kernel
theorem dL_law_1288 : decode cL_law 1288 = .ok (.iaload, 1) := by decide +kernel
theorem dL_law_1289 : decode cL_law 1289 = .ok (.invokevirtual 149, 3) := by decide +kernel
theorem dL_law_1292 : decode cL_law 1292 = .ok (.if_icmp .eq 119, 3) := by decide +kernel
theorem dL_law_1295 : decode cL_law 1295 = .ok (.iconst 0, 1) := by decide +kernel
theorem dL_law_1296 : decode cL_law 1296 = .ok (.ireturn, 1) := by decide +kernel
theorem dL_law_1297 : decode cL_law 1297 = .ok (.aload_n 1, 1) := by decide +kernel
theorem dL_law_1298 : decode cL_law 1298 = .ok (.invokevirtual 150, 3) := by decide +kernel
theorem dL_law_1301 : decode cL_law 1301 = .ok (.aload_n 2, 1) := by decide +kernel
theorem dL_law_1302 : decode cL_law 1302 = .ok (.invokevirtual 153, 3) := by decide +kernel
theorem dL_law_1305 : decode cL_law 1305 = .ok (.if_icmp .eq 106, 3) := by decide +kernel
theorem dL_law_1308 : decode cL_law 1308 = .ok (.iconst 0, 1) := by decide +kernel
theorem dL_law_1309 : decode cL_law 1309 = .ok (.ireturn, 1) := by decide +kernel
theorem dL_law_1310 : decode cL_law 1310 = .ok (.aload_n 1, 1) := by decide +kernel
theorem dL_law_1311 : decode cL_law 1311 = .ok (.invokevirtual 154, 3) := by decide +kernel
theorem dL_law_1314 : decode cL_law 1314 = .ok (.aload_n 2, 1) := by decide +kernel
theorem dL_law_1315 : decode cL_law 1315 = .ok (.invokevirtual 158, 3) := by decide +kernel
theorem dL_law_1318 : decode cL_law 1318 = .ok (.lcmp, 1) := by decide +kernel
theorem dL_law_1319 : decode cL_law 1319 = .ok (.ifCond .eq 92, 3) := by decide +kernel
theorem dL_law_1322 : decode cL_law 1322 = .ok (.iconst 0, 1) := by decide +kernel
theorem dL_law_1323 : decode cL_law 1323 = .ok (.ireturn, 1) := by decide +kernel
theorem dL_law_1324 : decode cL_law 1324 = .ok (.aload_n 1, 1) := by decide +kernel
theorem dL_law_1325 : decode cL_law 1325 = .ok (.invokevirtual 159, 3) := by decide +kernel
theorem dL_law_1328 : decode cL_law 1328 = .ok (.aload_n 2, 1) := by decide +kernel
theorem dL_law_1329 : decode cL_law 1329 = .ok (.invokevirtual 162, 3) := by decide +kernel
theorem dL_law_1332 : decode cL_law 1332 = .ok (.lcmp, 1) := by decide +kernel
theorem dL_law_1333 : decode cL_law 1333 = .ok (.ifCond .eq 78, 3) := by decide +kernel
theorem dL_law_1336 : decode cL_law 1336 = .ok (.iconst 0, 1) := by decide +kernel
theorem dL_law_1337 : decode cL_law 1337 = .ok (.ireturn, 1) := by decide +kernel
theorem dL_law_1338 : decode cL_law 1338 = .ok (.aload_n 1, 1) := by decide +kernel
theorem dL_law_1339 : decode cL_law 1339 = .ok (.aload_n 0, 1) := by decide +kernel
theorem dL_law_1340 : decode cL_law 1340 = .ok (.iload_n 3, 1) := by decide +kernel
theorem dL_law_1341 : decode cL_law 1341 = .ok (.iconst 1, 1) := by decide +kernel
theorem dL_law_1342 : decode cL_law 1342 = .ok (.iadd, 1) := by decide +kernel
theorem dL_law_1343 : decode cL_law 1343 = .ok (.iaload, 1) := by decide +kernel
theorem dL_law_1344 : decode cL_law 1344 = .ok (.invokevirtual 163, 3) := by decide +kernel
theorem dL_law_1347 : decode cL_law 1347 = .ok (.aload_n 2, 1) := by decide +kernel
theorem dL_law_1348 : decode cL_law 1348 = .ok (.aload_n 0, 1) := by decide +kernel
theorem dL_law_1349 : decode cL_law 1349 = .ok (.iload_n 3, 1) := by decide +kernel
theorem dL_law_1350 : decode cL_law 1350 = .ok (.iconst 1, 1) := by decide +kernel
theorem dL_law_1351 : decode cL_law 1351 = .ok (.iadd, 1) := by decide +kernel
theorem dL_law_1352 : decode cL_law 1352 = .ok (.iaload, 1) := by decide +kernel
theorem dL_law_1353 : decode cL_law 1353 = .ok (.invokevirtual 166, 3) := by decide +kernel
theorem dL_law_1356 : decode cL_law 1356 = .ok (.if_icmp .eq 55, 3) := by decide +kernel
theorem dL_law_1359 : decode cL_law 1359 = .ok (.iconst 0, 1) := by decide +kernel
theorem dL_law_1360 : decode cL_law 1360 = .ok (.ireturn, 1) := by decide +kernel
theorem dL_law_1361 : decode cL_law 1361 = .ok (.aload_n 1, 1) := by decide +kernel
theorem dL_law_1362 : decode cL_law 1362 = .ok (.invokevirtual 167, 3) := by decide +kernel
theorem dL_law_1365 : decode cL_law 1365 = .ok (.aload_n 2, 1) := by decide +kernel
theorem dL_law_1366 : decode cL_law 1366 = .ok (.invokevirtual 170, 3) := by decide +kernel
theorem dL_law_1369 : decode cL_law 1369 = .ok (.if_icmp .eq 42, 3) := by decide +kernel
theorem dL_law_1372 : decode cL_law 1372 = .ok (.iconst 0, 1) := by decide +kernel
theorem dL_law_1373 : decode cL_law 1373 = .ok (.ireturn, 1) := by decide +kernel
theorem dL_law_1374 : decode cL_law 1374 = .ok (.aload_n 1, 1) := by decide +kernel
theorem dL_law_1375 : decode cL_law 1375 = .ok (.aload_n 0, 1) := by decide +kernel
theorem dL_law_1376 : decode cL_law 1376 = .ok (.iload_n 3, 1) := by decide +kernel
theorem dL_law_1377 : decode cL_law 1377 = .ok (.iconst 1, 1) := by decide +kernel
theorem dL_law_1378 : decode cL_law 1378 = .ok (.iadd, 1) := by decide +kernel
theorem dL_law_1379 : decode cL_law 1379 = .ok (.iaload, 1) := by decide +kernel
theorem dL_law_1380 : decode cL_law 1380 = .ok (.invokevirtual 171, 3) := by decide +kernel
theorem dL_law_1383 : decode cL_law 1383 = .ok (.aload_n 2, 1) := by decide +kernel
theorem dL_law_1384 : decode cL_law 1384 = .ok (.aload_n 0, 1) := by decide +kernel
theorem dL_law_1385 : decode cL_law 1385 = .ok (.iload_n 3, 1) := by decide +kernel
theorem dL_law_1386 : decode cL_law 1386 = .ok (.iconst 1, 1) := by decide +kernel
theorem dL_law_1387 : decode cL_law 1387 = .ok (.iadd, 1) := by decide +kernel
theorem dL_law_1388 : decode cL_law 1388 = .ok (.iaload, 1) := by decide +kernel
theorem dL_law_1389 : decode cL_law 1389 = .ok (.invokevirtual 174, 3) := by decide +kernel
theorem dL_law_1392 : decode cL_law 1392 = .ok (.if_icmp .eq 19, 3) := by decide +kernel
theorem dL_law_1395 : decode cL_law 1395 = .ok (.iconst 0, 1) := by decide +kernel
theorem dL_law_1396 : decode cL_law 1396 = .ok (.ireturn, 1) := by decide +kernel
theorem dL_law_1397 : decode cL_law 1397 = .ok (.aload_n 1, 1) := by decide +kernel
theorem dL_law_1398 : decode cL_law 1398 = .ok (.invokevirtual 175, 3) := by decide +kernel
theorem dL_law_1401 : decode cL_law 1401 = .ok (.aload_n 2, 1) := by decide +kernel
theorem dL_law_1402 : decode cL_law 1402 = .ok (.invokevirtual 178, 3) := by decide +kernel
theorem dL_law_1405 : decode cL_law 1405 = .ok (.lcmp, 1) := by decide +kernel
theorem dL_law_1406 : decode cL_law 1406 = .ok (.ifCond .eq 5, 3) := by decide +kernel
theorem dL_law_1409 : decode cL_law 1409 = .ok (.iconst 0, 1) := by decide +kernel
theorem dL_law_1410 : decode cL_law 1410 = .ok (.ireturn, 1) := by decide +kernel
theorem dL_law_1411 : decode cL_law 1411 = .ok (.iinc 3 6, 3) := by decide +kernel
theorem dL_law_1414 : decode cL_law 1414 = .ok (.goto (-1396), 3) := by decide +kernel
theorem dL_law_1417 : decode cL_law 1417 = .ok (.iconst 1, 1) := by decide +kernel
theorem dL_law_1418 : decode cL_law 1418 = .ok (.ireturn, 1) := by decide +kernel
end
section
/-! my store, my worlds -/
abbrev St : Type := (Nat → Nat → Int32) × (Nat → Nat → Int64)
def wI (σ : St) (c k : Nat) (v : Int32) : St := (fun c' => if c' = c then upd (σ.1 c) k v else σ.1 c', σ.2)
def wL (σ : St) (c k : Nat) (v : Int64) : St := (σ.1, fun c' => if c' = c then vp_updL (σ.2 c) k v else σ.2 c')
abbrev Ly : Type := Nat → (Nat → Int32) → (Nat → Int64) → va_E
/-- a frame of worlds: the tables' numbers, addresses, layout, how many cells, array types, where the two static arrays lie -/
abbrev Kx : Type := va_G × (Nat → Nat) × Ly × Nat × List (ClassId × FieldType) × Nat × Nat
def kwl (K : Kx) (σ : St) : va_W := (List.range K.2.2.2.1).map (fun c => (K.2.1 c, K.2.2.1 c (σ.1 c) (σ.2 c)))
theorem kwl_at (K : Kx) (σ : St) {c : Nat} (h : c < K.2.2.2.1) : (kwl K σ)[c]? = some (K.2.1 c, K.2.2.1 c (σ.1 c) (σ.2 c)) := by
  simp [kwl, h]
theorem kwl_set (K : Kx) (σ σ' : St) {c : Nat} {e : va_E} (he : e = K.2.2.1 c (σ'.1 c) (σ'.2 c)) (ho : ∀ c', c' ≠ c → σ'.1 c' = σ.1 c' ∧ σ'.2 c' = σ.2 c') : (kwl K σ).set c (K.2.1 c, e) = kwl K σ' := by
  subst he
  apply List.ext_getElem?
  intro i
  rw [List.getElem?_set]
  by_cases hi : i < K.2.2.2.1
  · rw [kwl_at K σ' hi]
    by_cases hc : c = i
    · subst hc
      simp [kwl, hi]
    · rw [if_neg hc, kwl_at K σ hi, (ho i (fun e => hc e.symm)).1, (ho i (fun e => hc e.symm)).2]
  · have h1 : (kwl K σ').length ≤ i := by simp [kwl]; omega
    have h2 : (kwl K σ).length ≤ i := by simp [kwl]; omega
    rw [List.getElem?_eq_none h1]
    by_cases hc : c = i
    · subst hc
      simp [Nat.not_lt.mpr h2]
    · rw [if_neg hc, List.getElem?_eq_none h2]
theorem kwl_A (K : Kx) (σ σ' : St) (sz : Nat) : va_A (kwl K σ) sz = va_A (kwl K σ') sz := by
  funext q
  apply propext
  have key : ∀ a b : St, (∃ (k : Nat) (e : va_E), (kwl K a)[k]? = some (q, e)) → ∃ (k : Nat) (e : va_E), (kwl K b)[k]? = some (q, e) := by
    intro a b h
    obtain ⟨k, e, h⟩ := h
    have hk : k < K.2.2.2.1 := by
      have := (List.getElem?_eq_some_iff.mp h).1
      simpa [kwl] using this
    rw [kwl_at K a hk] at h
    cases h
    exact ⟨k, _, kwl_at K b hk⟩
  exact ⟨fun h => h.elim (fun h => Or.inl (key _ _ h)) Or.inr, fun h => h.elim (fun h => Or.inl (key _ _ h)) Or.inr⟩
theorem wI_ne (σ : St) (c k : Nat) (v : Int32) : ∀ c', c' ≠ c → (wI σ c k v).1 c' = σ.1 c' ∧ (wI σ c k v).2 c' = σ.2 c' := fun c' h => ⟨by simp [wI, h], rfl⟩
theorem wL_ne (σ : St) (c k : Nat) (v : Int64) : ∀ c', c' ≠ c → (wL σ c k v).1 c' = σ.1 c' ∧ (wL σ c k v).2 c' = σ.2 c' := fun c' h => ⟨rfl, by simp [wL, h]⟩
/-! the tables' words, in any state that a call comes to -/
def tbGood (w : Cond) : Bool := goodWord w || (match w with | .fieldLinkNest .. => true | .methodLinkNest .. => true | _ => false)
def tbOK (s : State) : Prop := ∀ w ∈ lw_tbl, tbGood w = true → ∀ a : Array Value, w.before a s = true
theorem tbOK.warm {s U : State} (hW : s.WarmedH U.vm) (h : tbOK s) : tbOK U := by
  intro w hw hg a
  have h0 := h w hw hg #[]
  cases hgw : goodWord w with
  | true => exact word_at hW (good_of_word hgw) h0
  | false =>
    cases w with
    | fieldLinkNest => exact va_Nw.use rfl (va_Nw.warmF hW h0)
    | methodLinkNest => exact va_Nw.use rfl (va_Nw.warmM hW h0)
    | _ => simp [tbGood, hgw] at hg
theorem tbOK.of {s : State} {args : Array Value} (h : ∀ w ∈ lw_tbl, w.before args s = true) : tbOK s := by
  intro w hw hg a
  have h0 := h w hw
  cases hgw : goodWord w with
  | true => exact word_at (State.WarmedH.refl s) (good_of_word hgw) h0
  | false =>
    cases w with
    | fieldLinkNest => exact va_Nw.use rfl (va_Nw.of rfl h0)
    | methodLinkNest => exact va_Nw.use rfl (va_Nw.of rfl h0)
    | _ => simp [tbGood, hgw] at hg
/-! the class's two static arrays -/
def sLet (j : Nat) : Int32 := [99, 120, 119, 100, 116, 109].getD j 0
def sWid (j : Nat) : Int32 := [0, 0, 0, 0, 2, 3].getD j 0
def stA (n : String) (a : Nat) (xs : Nat → Int32) (A : Nat → Prop) (s : State) : Prop := va_Z RX5 n "[I" (.ref a) A s s.heap ∧ va_X a 6 xs s s.heap ∧ a < s.heap.size ∧ ¬ A a
def stOK (K : Kx) (A : Nat → Prop) (s : State) : Prop := stA "LETTERS" K.2.2.2.2.2.1 sLet A s ∧ stA "WIDER" K.2.2.2.2.2.2 sWid A s
theorem stA.to {n : String} {a : Nat} {xs : Nat → Int32} {A B : Nat → Prop} {s U : State} {locs : List Loc} (h : stA n a xs A s) (hvm : s.vm.Alike U.vm) (hS : va_S A s.heap U.heap locs) (hB : ∀ q, B q → A q) : stA n a xs B U := by
  obtain ⟨h1, h2, h3, h4⟩ := h
  exact ⟨((h1.moved hvm).kept hS.2.1).narrow hB, (h2.moved hvm).kept (hS.2.1 a h3 h4), Nat.lt_of_lt_of_le h3 hS.1, fun z => h4 (hB a z)⟩
theorem stOK.to {K : Kx} {A B : Nat → Prop} {s U : State} {locs : List Loc} (h : stOK K A s) (hvm : s.vm.Alike U.vm) (hS : va_S A s.heap U.heap locs) (hB : ∀ q, B q → A q) : stOK K B U := ⟨h.1.to hvm hS hB, h.2.to hvm hS hB⟩
/-! a contract -/
def gPre (K : Kx) (σ : St) (sz : Nat) (U : State) : Prop := U.heap.size = sz ∧ va_P K.1 vwCl (kwl K σ) U.heap ∧ va_K K.1 vwCl K.2.2.2.2.1 U ∧ va_D (fun _ => True) (kwl K σ) ∧ tbOK U ∧ stOK K (va_A (kwl K σ) sz) U
def gPost (K : Kx) (σ' : St) (A : Nat → Prop) (t : State) : Prop := va_P K.1 vwCl (kwl K σ') t.heap ∧ va_D A (kwl K σ')
def gQ (K : Kx) (v : Option Value) (σ' : St) (A : Nat → Prop) : Array Value → State → Outcome → State → Prop := fun _ st oc t => (oc = .returned v ∧ gPost K σ' A t) ∧ va_F A st t
def mC (K : Kx) (l : Launch) (y : MethodName) (cc : ByteArray) (maxL : Nat) (ret : Option FieldType) (rm : Room) (as : List Value) (σ : St) (v : Option Value) (σ' : St) : Prop :=
  ∀ sz : Nat, Met l y [Cond.code y cc maxL ret] rm (va_Pc as (gPre K σ sz)) (gQ K v σ' (va_A (kwl K σ) sz)) 0 0 (va_A (kwl K σ) sz)
/-! the judgement: from every heap that holds the world σ the machine comes from here to Q -/
abbrev Gx (S : Type) : Type := (Program × Launch × Env × Room × State × MethodId × Array Value × List Frame × Method × Code) × va_G × (S → va_W) × (Nat → Prop) × Nat × Nat × Nat × (State → Prop)
def gG {S : Type} (X : Gx S) (σ : S) (pc : Nat) (lv : List (Nat × Value)) (st : List Value) : Prop :=
  ∀ (H : Heap) (locs : List Loc) (ls : Array Slot), va_P X.2.1 vwCl (X.2.2.1 σ) H → va_D X.2.2.2.1 (X.2.2.1 σ) → va_S X.2.2.2.1 X.1.2.2.2.2.1.heap H locs → lv_has ls X.2.2.2.2.1 lv →
    W X.1.1 X.1.2.1 X.1.2.2.1 X.1.2.2.2.1 X.1.2.2.2.2.1 X.1.2.2.2.2.2.1 X.1.2.2.2.2.2.2.1 X.1.2.2.2.2.2.2.2.1 X.1.2.2.2.2.2.2.2.2.1 X.1.2.2.2.2.2.2.2.2.2 H locs X.2.2.2.2.2.1 X.2.2.2.2.2.2.1 X.2.2.2.2.2.2.2 (F0 X.1.2.2.2.2.2.1 pc ls st)
def gF {S : Type} (X : Gx S) (cc : ByteArray) (own : String) (ret : Option FieldType) (nL : Nat) (R : Room) : Prop :=
  X.1.1.tables.exec = Jvm.exec ∧ X.1.2.2.2.2.2.2.2.2.2.code = cc ∧ X.1.2.2.2.2.2.2.2.2.1.sig.returnType = ret ∧ X.1.2.2.2.2.2.2.2.2.2.maxLocals = X.2.2.2.2.1 ∧ X.1.2.2.2.2.1.vm.findClass own = some X.1.2.2.2.2.2.1.cls ∧ tbOK X.1.2.2.2.2.1 ∧ (∀ q : Nat, X.1.2.2.2.2.1.heap.size ≤ q → X.2.2.2.1 q) ∧ X.1.2.2.2.2.2.2.2.2.1.locks = false ∧ X.2.2.2.2.1 = nL ∧ X.1.2.2.2.1 = R ∧ X.2.2.2.2.2.1 ≤ X.1.2.2.2.1.cells ∧ X.2.2.2.2.2.2.1 ≤ X.1.2.2.2.1.slots
def kF (X : Gx St) (K : Kx) : Prop := X.2.1 = K.1 ∧ X.2.2.1 = kwl K ∧ va_K K.1 vwCl K.2.2.2.2.1 X.1.2.2.2.2.1 ∧ stOK K X.2.2.2.1 X.1.2.2.2.2.1
def gR (X : Gx St) (K : Kx) (v : Option Value) (σ' : St) : Prop := X.2.2.2.2.2.1 = 0 ∧ X.2.2.2.2.2.2.1 = 0 ∧ X.2.2.2.2.2.2.2 = MQ X.1.2.2.2.2.2.2.2.1 (gQ K v σ' X.2.2.2.1) X.1.2.2.2.2.2.2.1 X.1.2.2.2.2.1 0 0 X.2.2.2.1
/-! words of pure functions -/
def bnd {α β : Type} (a : α) (F : α → β) : β := F a
def gi {β : Type} (i : Int32) (n : Nat) (x : Option β) : Option β := if i < 0 ∨ n ≤ i.toNatClampNeg then none else x
def nz {β : Type} (d : Int32) (x : Option β) : Option β := if d = 0 then none else x
def nzl {β : Type} (d : Int64) (x : Option β) : Option β := if d = 0 then none else x
def bz {β : Type} (v : Int32) (x : Option β) : Option β := if v = 0 ∨ v = 1 then x else none
def b2 {α β : Type} (x : Option (α × St)) (F : α → St → Option β) : Option β := match x with | none => none | some (r, σ) => F r σ
def b1 {α β : Type} (x : Option α) (F : α → Option β) : Option β := match x with | none => none | some r => F r
def jn {α β : Type} (J : α) (F : α → β) : β := F J
theorem gi_some {β : Type} {i : Int32} {n : Nat} {x : Option β} {o : β} (h : gi i n x = some o) : vp_in i n ∧ x = some o := by
  unfold gi at h
  by_cases c : i < 0 ∨ n ≤ i.toNatClampNeg
  · rw [if_pos c] at h; cases h
  · rw [if_neg c] at h; exact ⟨c, h⟩
theorem nz_some {β : Type} {d : Int32} {x : Option β} {o : β} (h : nz d x = some o) : ¬ d = 0 ∧ x = some o := by
  unfold nz at h
  by_cases c : d = 0
  · rw [if_pos c] at h; cases h
  · rw [if_neg c] at h; exact ⟨c, h⟩
theorem nzl_some {β : Type} {d : Int64} {x : Option β} {o : β} (h : nzl d x = some o) : ¬ d = 0 ∧ x = some o := by
  unfold nzl at h
  by_cases c : d = 0
  · rw [if_pos c] at h; cases h
  · rw [if_neg c] at h; exact ⟨c, h⟩
theorem bz_some {β : Type} {v : Int32} {x : Option β} {o : β} (h : bz v x = some o) : (v = 0 ∨ v = 1) ∧ x = some o := by
  unfold bz at h
  by_cases c : v = 0 ∨ v = 1
  · rw [if_pos c] at h; exact ⟨c, h⟩
  · rw [if_neg c] at h; cases h
theorem b2_some {α β : Type} {x : Option (α × St)} {F : α → St → Option β} {o : β} (h : b2 x F = some o) : ∃ r σ, x = some (r, σ) ∧ F r σ = some o := by
  cases x with
  | none => cases h
  | some q => exact ⟨q.1, q.2, rfl, h⟩
theorem b1_some {α β : Type} {x : Option α} {F : α → Option β} {o : β} (h : b1 x F = some o) : ∃ r, x = some r ∧ F r = some o := by
  cases x with
  | none => cases h
  | some q => exact ⟨q, rfl, h⟩
theorem if_cg {β : Type} {p q : Prop} [Decidable p] [Decidable q] (h : p ↔ q) {a b : β} : (if p then a else b) = if q then a else b := by
  by_cases hp : p
  · rw [if_pos hp, if_pos (h.mp hp)]
  · rw [if_neg hp, if_neg (fun z => hp (h.mpr z))]
theorem nar_b {v : Int32} (h : v = 0 ∨ v = 1) : narrow .boolean (.int v) = .int v := by
  rcases h with rfl | rfl <;> rfl
section GR
variable {S : Type} {X : Gx S} {cc : ByteArray} {own : String} {ret : Option FieldType} {nL : Nat} {R : Room} {σ : S} {pc : Nat} {lv : List (Nat × Value)} {st : List Value} {α : Type} {o : α}
theorem g_cut {lv' : List (Nat × Value)} (ks : List Nat) (hl : lv_pick lv ks = lv') (k : gG X σ pc lv' st) : gG X σ pc lv st := fun H locs ls hP hD hS h => k H locs ls hP hD hS (lv_sub h ks hl)
theorem g_iconst (C : gF X cc own ret nL R) {n : Int} {v : Int32} (hdg : decode cc pc = .ok (.iconst n, 1)) (hv : Int32.ofInt n = v) (k : gG X σ (pc + 1) lv (.int v :: st)) : gG X σ pc lv st :=
  fun H locs ls hP hD hS hl => lv_iconst C.1 C.2.1 hdg hv (k H locs ls hP hD hS hl)
theorem g_bipush (C : gF X cc own ret nL R) {n : Int} {v : Int32} (hdg : decode cc pc = .ok (.bipush n, 2)) (hv : (Int8.ofInt n).toInt32 = v) (k : gG X σ (pc + 2) lv (.int v :: st)) : gG X σ pc lv st :=
  fun H locs ls hP hD hS hl => lv_bipush C.1 C.2.1 hdg hv (k H locs ls hP hD hS hl)
theorem g_sipush (C : gF X cc own ret nL R) {n : Int} {v : Int32} (hdg : decode cc pc = .ok (.sipush n, 3)) (hv : (Int16.ofInt n).toInt32 = v) (k : gG X σ (pc + 3) lv (.int v :: st)) : gG X σ pc lv st :=
  fun H locs ls hP hD hS hl => lv_sipush C.1 C.2.1 hdg hv (k H locs ls hP hD hS hl)
theorem g_lconst (C : gF X cc own ret nL R) {n : Fin 2} {v : Int64} (hdg : decode cc pc = .ok (.lconst n, 1)) (hv : Int64.ofNat (n : Nat) = v) (k : gG X σ (pc + 1) lv (.long v :: st)) : gG X σ pc lv st :=
  fun H locs ls hP hD hS hl => lv_lconst C.1 C.2.1 hdg hv (k H locs ls hP hD hS hl)
theorem g_ldc2 (C : gF X cc own ret nL R) {index : Nat} {v : Int64} (hdg : decode cc pc = .ok (.ldc2_w index, 3)) (hw : Cond.constantLong own index v ∈ lw_tbl) (k : gG X σ (pc + 3) lv (.long v :: st)) : gG X σ pc lv st :=
  fun H locs ls hP hD hS hl => lv_ldc2 C.1 C.2.1 C.2.2.2.2.1 (C.2.2.2.2.2.1 _ hw rfl _) hdg (k H locs ls hP hD hS hl)
theorem g_iload_n (C : gF X cc own ret nL R) {q : Fin 4} {x : Int32} (j : Nat) (hdg : decode cc pc = .ok (.iload_n q, 1)) (hv : lv[j]? = some ((q : Nat), .int x)) (k : gG X σ (pc + 1) lv (.int x :: st)) : gG X σ pc lv st :=
  fun H locs ls hP hD hS hl => lv_iload_n C.1 C.2.1 hdg rfl (lv_at hl j hv) (k H locs ls hP hD hS hl)
theorem g_iload (C : gF X cc own ret nL R) {i : Nat} {x : Int32} (j : Nat) (hdg : decode cc pc = .ok (.iload i, 2)) (hv : lv[j]? = some (i, .int x)) (k : gG X σ (pc + 2) lv (.int x :: st)) : gG X σ pc lv st :=
  fun H locs ls hP hD hS hl => lv_iload C.1 C.2.1 hdg (lv_at hl j hv) (k H locs ls hP hD hS hl)
theorem g_lload_n (C : gF X cc own ret nL R) {q : Fin 4} {x : Int64} (j : Nat) (hdg : decode cc pc = .ok (.lload_n q, 1)) (hv : lv[j]? = some ((q : Nat), .long x)) (k : gG X σ (pc + 1) lv (.long x :: st)) : gG X σ pc lv st :=
  fun H locs ls hP hD hS hl => lv_lload_n C.1 C.2.1 hdg rfl (lv_at hl j hv) (k H locs ls hP hD hS hl)
theorem g_lload (C : gF X cc own ret nL R) {i : Nat} {x : Int64} (j : Nat) (hdg : decode cc pc = .ok (.lload i, 2)) (hv : lv[j]? = some (i, .long x)) (k : gG X σ (pc + 2) lv (.long x :: st)) : gG X σ pc lv st :=
  fun H locs ls hP hD hS hl => lv_lload C.1 C.2.1 hdg (lv_at hl j hv) (k H locs ls hP hD hS hl)
theorem g_aload_n (C : gF X cc own ret nL R) {q : Fin 4} {x : Nat} (j : Nat) (hdg : decode cc pc = .ok (.aload_n q, 1)) (hv : lv[j]? = some ((q : Nat), .ref x)) (k : gG X σ (pc + 1) lv (.ref x :: st)) : gG X σ pc lv st :=
  fun H locs ls hP hD hS hl => lv_aload_n C.1 C.2.1 hdg rfl (lv_at hl j hv) (k H locs ls hP hD hS hl)
theorem g_aload (C : gF X cc own ret nL R) {i : Nat} {x : Nat} (j : Nat) (hdg : decode cc pc = .ok (.aload i, 2)) (hv : lv[j]? = some (i, .ref x)) (k : gG X σ (pc + 2) lv (.ref x :: st)) : gG X σ pc lv st :=
  fun H locs ls hP hD hS hl => lv_aload C.1 C.2.1 hdg (lv_at hl j hv) (k H locs ls hP hD hS hl)
theorem g_istore (C : gF X cc own ret nL R) {i : Nat} {x : Int32} (lv' : List (Nat × Value)) (hdg : decode cc pc = .ok (.istore i, 2)) (hn : i < nL) (hv : (i, Value.int x) :: lv.filter (fun q => !(q.1 == i) && !(q.1 + 1 == i && q.2.category == 2)) = lv') (k : gG X σ (pc + 2) lv' st) : gG X σ pc lv (.int x :: st) :=
  fun H locs ls hP hD hS hl => lv_istore C.1 C.2.1 hdg hl (by rw [C.2.2.2.2.2.2.2.2.1]; exact hn) hv (fun ls' hl => (k H locs ls' hP hD hS hl))
theorem g_istore_n (C : gF X cc own ret nL R) {q : Fin 4} {i : Nat} {x : Int32} (lv' : List (Nat × Value)) (hdg : decode cc pc = .ok (.istore_n q, 1)) (hi : (q : Nat) = i) (hn : i < nL) (hv : (i, Value.int x) :: lv.filter (fun q => !(q.1 == i) && !(q.1 + 1 == i && q.2.category == 2)) = lv') (k : gG X σ (pc + 1) lv' st) : gG X σ pc lv (.int x :: st) :=
  fun H locs ls hP hD hS hl => lv_istore_n C.1 C.2.1 hdg hi hl (by rw [C.2.2.2.2.2.2.2.2.1]; exact hn) hv (fun ls' hl => (k H locs ls' hP hD hS hl))
theorem g_istoreB (C : gF X cc own ret nL R) {i : Nat} {x : Int32} {F : Int32 → Option α} (L : Int32 → List (Nat × Value)) (hdg : decode cc pc = .ok (.istore i, 2)) (hn : i < nL) (hv : ∀ x, (i, Value.int x) :: lv.filter (fun q => !(q.1 == i) && !(q.1 + 1 == i && q.2.category == 2)) = L x) (hf : bnd x F = some o) (k : ∀ x, F x = some o → gG X σ (pc + 2) (L x) st) : gG X σ pc lv (.int x :: st) :=
  g_istore C (L x) hdg hn (hv x) (k x hf)
theorem g_istore_nB (C : gF X cc own ret nL R) {q : Fin 4} {i : Nat} {x : Int32} {F : Int32 → Option α} (L : Int32 → List (Nat × Value)) (hdg : decode cc pc = .ok (.istore_n q, 1)) (hi : (q : Nat) = i) (hn : i < nL) (hv : ∀ x, (i, Value.int x) :: lv.filter (fun q => !(q.1 == i) && !(q.1 + 1 == i && q.2.category == 2)) = L x) (hf : bnd x F = some o) (k : ∀ x, F x = some o → gG X σ (pc + 1) (L x) st) : gG X σ pc lv (.int x :: st) :=
  g_istore_n C (L x) hdg hi hn (hv x) (k x hf)
theorem g_lstore (C : gF X cc own ret nL R) {i : Nat} {x : Int64} (lv' : List (Nat × Value)) (hdg : decode cc pc = .ok (.lstore i, 2)) (hn : i + 1 < nL) (hv : (i, Value.long x) :: lv.filter (fun q => !(q.1 == i) && (!(q.1 == i + 1) && !(q.1 + 1 == i && q.2.category == 2))) = lv') (k : gG X σ (pc + 2) lv' st) : gG X σ pc lv (.long x :: st) :=
  fun H locs ls hP hD hS hl => lv_lstore C.1 C.2.1 hdg hl (by rw [C.2.2.2.2.2.2.2.2.1]; exact hn) hv (fun ls' hl => (k H locs ls' hP hD hS hl))
theorem g_lstore_n (C : gF X cc own ret nL R) {q : Fin 4} {i : Nat} {x : Int64} (lv' : List (Nat × Value)) (hdg : decode cc pc = .ok (.lstore_n q, 1)) (hi : (q : Nat) = i) (hn : i + 1 < nL) (hv : (i, Value.long x) :: lv.filter (fun q => !(q.1 == i) && (!(q.1 == i + 1) && !(q.1 + 1 == i && q.2.category == 2))) = lv') (k : gG X σ (pc + 1) lv' st) : gG X σ pc lv (.long x :: st) :=
  fun H locs ls hP hD hS hl => lv_lstore_n C.1 C.2.1 hdg hi hl (by rw [C.2.2.2.2.2.2.2.2.1]; exact hn) hv (fun ls' hl => (k H locs ls' hP hD hS hl))
theorem g_lstoreB (C : gF X cc own ret nL R) {i : Nat} {x : Int64} {F : Int64 → Option α} (L : Int64 → List (Nat × Value)) (hdg : decode cc pc = .ok (.lstore i, 2)) (hn : i + 1 < nL) (hv : ∀ x, (i, Value.long x) :: lv.filter (fun q => !(q.1 == i) && (!(q.1 == i + 1) && !(q.1 + 1 == i && q.2.category == 2))) = L x) (hf : bnd x F = some o) (k : ∀ x, F x = some o → gG X σ (pc + 2) (L x) st) : gG X σ pc lv (.long x :: st) :=
  g_lstore C (L x) hdg hn (hv x) (k x hf)
theorem g_lstore_nB (C : gF X cc own ret nL R) {q : Fin 4} {i : Nat} {x : Int64} {F : Int64 → Option α} (L : Int64 → List (Nat × Value)) (hdg : decode cc pc = .ok (.lstore_n q, 1)) (hi : (q : Nat) = i) (hn : i + 1 < nL) (hv : ∀ x, (i, Value.long x) :: lv.filter (fun q => !(q.1 == i) && (!(q.1 == i + 1) && !(q.1 + 1 == i && q.2.category == 2))) = L x) (hf : bnd x F = some o) (k : ∀ x, F x = some o → gG X σ (pc + 1) (L x) st) : gG X σ pc lv (.long x :: st) :=
  g_lstore_n C (L x) hdg hi hn (hv x) (k x hf)
theorem g_astore (C : gF X cc own ret nL R) {i : Nat} {x : Nat} (lv' : List (Nat × Value)) (hdg : decode cc pc = .ok (.astore i, 2)) (hn : i < nL) (hv : (i, Value.ref x) :: lv.filter (fun q => !(q.1 == i) && !(q.1 + 1 == i && q.2.category == 2)) = lv') (k : gG X σ (pc + 2) lv' st) : gG X σ pc lv (.ref x :: st) :=
  fun H locs ls hP hD hS hl => lv_astore C.1 C.2.1 hdg hl (by rw [C.2.2.2.2.2.2.2.2.1]; exact hn) hv (fun ls' hl => (k H locs ls' hP hD hS hl))
theorem g_astore_n (C : gF X cc own ret nL R) {q : Fin 4} {i : Nat} {x : Nat} (lv' : List (Nat × Value)) (hdg : decode cc pc = .ok (.astore_n q, 1)) (hi : (q : Nat) = i) (hn : i < nL) (hv : (i, Value.ref x) :: lv.filter (fun q => !(q.1 == i) && !(q.1 + 1 == i && q.2.category == 2)) = lv') (k : gG X σ (pc + 1) lv' st) : gG X σ pc lv (.ref x :: st) :=
  fun H locs ls hP hD hS hl => lv_astore_n C.1 C.2.1 hdg hi hl (by rw [C.2.2.2.2.2.2.2.2.1]; exact hn) hv (fun ls' hl => (k H locs ls' hP hD hS hl))
theorem g_astoreB (C : gF X cc own ret nL R) {i : Nat} {x : Nat} {F : Nat → Option α} (L : Nat → List (Nat × Value)) (hdg : decode cc pc = .ok (.astore i, 2)) (hn : i < nL) (hv : ∀ x, (i, Value.ref x) :: lv.filter (fun q => !(q.1 == i) && !(q.1 + 1 == i && q.2.category == 2)) = L x) (hf : bnd x F = some o) (k : ∀ x, F x = some o → gG X σ (pc + 2) (L x) st) : gG X σ pc lv (.ref x :: st) :=
  g_astore C (L x) hdg hn (hv x) (k x hf)
theorem g_astore_nB (C : gF X cc own ret nL R) {q : Fin 4} {i : Nat} {x : Nat} {F : Nat → Option α} (L : Nat → List (Nat × Value)) (hdg : decode cc pc = .ok (.astore_n q, 1)) (hi : (q : Nat) = i) (hn : i < nL) (hv : ∀ x, (i, Value.ref x) :: lv.filter (fun q => !(q.1 == i) && !(q.1 + 1 == i && q.2.category == 2)) = L x) (hf : bnd x F = some o) (k : ∀ x, F x = some o → gG X σ (pc + 1) (L x) st) : gG X σ pc lv (.ref x :: st) :=
  g_astore_n C (L x) hdg hi hn (hv x) (k x hf)
theorem g_iinc (C : gF X cc own ret nL R) {i : Nat} {n : Int} {x d : Int32} {F : Int32 → Option α} (j : Nat) (L : Int32 → List (Nat × Value)) (hdg : decode cc pc = .ok (.iinc i n, 3)) (hk : lv[j]? = some (i, .int x)) (hd : Int32.ofInt n = d) (hn : i < nL) (hv : ∀ x, (i, Value.int x) :: lv.filter (fun q => !(q.1 == i) && !(q.1 + 1 == i && q.2.category == 2)) = L x) (hf : bnd (x + d) F = some o) (k : ∀ x, F x = some o → gG X σ (pc + 3) (L x) st) : gG X σ pc lv st :=
  fun H locs ls hP hD hS hl => lv_iinc (v := x + d) C.1 C.2.1 hdg hl hk (by rw [hd]) (by rw [C.2.2.2.2.2.2.2.2.1]; exact hn) (hv _) (fun ls' hl => k _ hf H locs ls' hP hD hS hl)
theorem g_iadd (C : gF X cc own ret nL R) {x y : Int32} (hdg : decode cc pc = .ok (.iadd, 1)) (k : gG X σ (pc + 1) lv (.int (x + y) :: st)) : gG X σ pc lv (.int y :: .int x :: st) :=
  fun H locs ls hP hD hS hl => lv_iadd C.1 C.2.1 hdg (k H locs ls hP hD hS hl)
theorem g_isub (C : gF X cc own ret nL R) {x y : Int32} (hdg : decode cc pc = .ok (.isub, 1)) (k : gG X σ (pc + 1) lv (.int (x - y) :: st)) : gG X σ pc lv (.int y :: .int x :: st) :=
  fun H locs ls hP hD hS hl => lv_isub C.1 C.2.1 hdg (k H locs ls hP hD hS hl)
theorem g_imul (C : gF X cc own ret nL R) {x y : Int32} (hdg : decode cc pc = .ok (.imul, 1)) (k : gG X σ (pc + 1) lv (.int (x * y) :: st)) : gG X σ pc lv (.int y :: .int x :: st) :=
  fun H locs ls hP hD hS hl => lv_imul C.1 C.2.1 hdg (k H locs ls hP hD hS hl)
theorem g_iand (C : gF X cc own ret nL R) {x y : Int32} (hdg : decode cc pc = .ok (.iand, 1)) (k : gG X σ (pc + 1) lv (.int (x &&& y) :: st)) : gG X σ pc lv (.int y :: .int x :: st) :=
  fun H locs ls hP hD hS hl => lv_iand C.1 C.2.1 hdg (k H locs ls hP hD hS hl)
theorem g_ior (C : gF X cc own ret nL R) {x y : Int32} (hdg : decode cc pc = .ok (.ior, 1)) (k : gG X σ (pc + 1) lv (.int (x ||| y) :: st)) : gG X σ pc lv (.int y :: .int x :: st) :=
  fun H locs ls hP hD hS hl => lv_ior C.1 C.2.1 hdg (k H locs ls hP hD hS hl)
theorem g_ixor (C : gF X cc own ret nL R) {x y : Int32} (hdg : decode cc pc = .ok (.ixor, 1)) (k : gG X σ (pc + 1) lv (.int (x ^^^ y) :: st)) : gG X σ pc lv (.int y :: .int x :: st) :=
  fun H locs ls hP hD hS hl => lv_ixor C.1 C.2.1 hdg (k H locs ls hP hD hS hl)
theorem g_ishl (C : gF X cc own ret nL R) {x y : Int32} (hdg : decode cc pc = .ok (.ishl, 1)) (k : gG X σ (pc + 1) lv (.int (x <<< (y &&& 31)) :: st)) : gG X σ pc lv (.int y :: .int x :: st) :=
  fun H locs ls hP hD hS hl => lv_ishl C.1 C.2.1 hdg (k H locs ls hP hD hS hl)
theorem g_ishr (C : gF X cc own ret nL R) {x y : Int32} (hdg : decode cc pc = .ok (.ishr, 1)) (k : gG X σ (pc + 1) lv (.int (x >>> (y &&& 31)) :: st)) : gG X σ pc lv (.int y :: .int x :: st) :=
  fun H locs ls hP hD hS hl => lv_ishr C.1 C.2.1 hdg (k H locs ls hP hD hS hl)
theorem g_ladd (C : gF X cc own ret nL R) {x y : Int64} (hdg : decode cc pc = .ok (.ladd, 1)) (k : gG X σ (pc + 1) lv (.long (x + y) :: st)) : gG X σ pc lv (.long y :: .long x :: st) :=
  fun H locs ls hP hD hS hl => lv_ladd C.1 C.2.1 hdg (k H locs ls hP hD hS hl)
theorem g_lmul (C : gF X cc own ret nL R) {x y : Int64} (hdg : decode cc pc = .ok (.lmul, 1)) (k : gG X σ (pc + 1) lv (.long (x * y) :: st)) : gG X σ pc lv (.long y :: .long x :: st) :=
  fun H locs ls hP hD hS hl => lv_lmul C.1 C.2.1 hdg (k H locs ls hP hD hS hl)
theorem g_lsub (C : gF X cc own ret nL R) {x y : Int64} (hdg : decode cc pc = .ok (.lsub, 1)) (k : gG X σ (pc + 1) lv (.long (x - y) :: st)) : gG X σ pc lv (.long y :: .long x :: st) :=
  fun H locs ls hP hD hS hl => lv_lsub C.1 C.2.1 hdg (k H locs ls hP hD hS hl)
theorem g_idiv0 (C : gF X cc own ret nL R) {x y : Int32} (hdg : decode cc pc = .ok (.idiv, 1)) (hne : ¬ y = 0) (k : gG X σ (pc + 1) lv (.int (x / y) :: st)) : gG X σ pc lv (.int y :: .int x :: st) :=
  fun H locs ls hP hD hS hl => lv_idiv C.1 C.2.1 hdg hne (k H locs ls hP hD hS hl)
theorem g_idiv (C : gF X cc own ret nL R) {x y : Int32} {Y : Option α} (hdg : decode cc pc = .ok (.idiv, 1)) (hf : nz y Y = some o) (k : Y = some o → gG X σ (pc + 1) lv (.int (x / y) :: st)) : gG X σ pc lv (.int y :: .int x :: st) :=
  g_idiv0 C hdg (nz_some hf).1 (k (nz_some hf).2)
theorem g_irem0 (C : gF X cc own ret nL R) {x y : Int32} (hdg : decode cc pc = .ok (.irem, 1)) (hne : ¬ y = 0) (k : gG X σ (pc + 1) lv (.int (x - x / y * y) :: st)) : gG X σ pc lv (.int y :: .int x :: st) :=
  fun H locs ls hP hD hS hl => lv_irem C.1 C.2.1 hdg hne (k H locs ls hP hD hS hl)
theorem g_irem (C : gF X cc own ret nL R) {x y : Int32} {Y : Option α} (hdg : decode cc pc = .ok (.irem, 1)) (hf : nz y Y = some o) (k : Y = some o → gG X σ (pc + 1) lv (.int (x - x / y * y) :: st)) : gG X σ pc lv (.int y :: .int x :: st) :=
  g_irem0 C hdg (nz_some hf).1 (k (nz_some hf).2)
theorem g_ldiv0 (C : gF X cc own ret nL R) {x y : Int64} (hdg : decode cc pc = .ok (.ldiv, 1)) (hne : ¬ y = 0) (k : gG X σ (pc + 1) lv (.long (x / y) :: st)) : gG X σ pc lv (.long y :: .long x :: st) :=
  fun H locs ls hP hD hS hl => lv_ldiv C.1 C.2.1 hdg hne (k H locs ls hP hD hS hl)
theorem g_ldiv (C : gF X cc own ret nL R) {x y : Int64} {Y : Option α} (hdg : decode cc pc = .ok (.ldiv, 1)) (hf : nzl y Y = some o) (k : Y = some o → gG X σ (pc + 1) lv (.long (x / y) :: st)) : gG X σ pc lv (.long y :: .long x :: st) :=
  g_ldiv0 C hdg (nzl_some hf).1 (k (nzl_some hf).2)
theorem g_lrem0 (C : gF X cc own ret nL R) {x y : Int64} (hdg : decode cc pc = .ok (.lrem, 1)) (hne : ¬ y = 0) (k : gG X σ (pc + 1) lv (.long (x - x / y * y) :: st)) : gG X σ pc lv (.long y :: .long x :: st) :=
  fun H locs ls hP hD hS hl => lv_lrem C.1 C.2.1 hdg hne (k H locs ls hP hD hS hl)
theorem g_lrem (C : gF X cc own ret nL R) {x y : Int64} {Y : Option α} (hdg : decode cc pc = .ok (.lrem, 1)) (hf : nzl y Y = some o) (k : Y = some o → gG X σ (pc + 1) lv (.long (x - x / y * y) :: st)) : gG X σ pc lv (.long y :: .long x :: st) :=
  g_lrem0 C hdg (nzl_some hf).1 (k (nzl_some hf).2)
theorem g_i2l (C : gF X cc own ret nL R) {x : Int32} (hdg : decode cc pc = .ok (.i2l, 1)) (k : gG X σ (pc + 1) lv (.long (x.toInt64) :: st)) : gG X σ pc lv (.int x :: st) :=
  fun H locs ls hP hD hS hl => lv_i2l C.1 C.2.1 hdg rfl (k H locs ls hP hD hS hl)
theorem g_l2i (C : gF X cc own ret nL R) {x : Int64} (hdg : decode cc pc = .ok (.l2i, 1)) (k : gG X σ (pc + 1) lv (.int (x.toInt32) :: st)) : gG X σ pc lv (.long x :: st) :=
  fun H locs ls hP hD hS hl => lv_l2i C.1 C.2.1 hdg rfl (k H locs ls hP hD hS hl)
theorem g_i2b (C : gF X cc own ret nL R) {x : Int32} (hdg : decode cc pc = .ok (.i2b, 1)) (k : gG X σ (pc + 1) lv (.int (x.toInt8.toInt32) :: st)) : gG X σ pc lv (.int x :: st) :=
  fun H locs ls hP hD hS hl => lv_i2b C.1 C.2.1 hdg rfl (k H locs ls hP hD hS hl)
theorem g_dup (C : gF X cc own ret nL R) {v : Value} (hdg : decode cc pc = .ok (.dup, 1)) (hv : v.category = 1) (k : gG X σ (pc + 1) lv (v :: v :: st)) : gG X σ pc lv (v :: st) :=
  fun H locs ls hP hD hS hl => lv_dup C.1 C.2.1 hdg hv (k H locs ls hP hD hS hl)
theorem g_dup2 (C : gF X cc own ret nL R) {v u : Value} (hdg : decode cc pc = .ok (.dup2, 1)) (hv : v.category = 1) (hu : u.category = 1) (k : gG X σ (pc + 1) lv (v :: u :: v :: u :: st)) : gG X σ pc lv (v :: u :: st) :=
  fun H locs ls hP hD hS hl => lv_dup2_11 C.1 C.2.1 hdg hv hu (k H locs ls hP hD hS hl)
theorem g_pop (C : gF X cc own ret nL R) {v : Value} (hdg : decode cc pc = .ok (.pop, 1)) (hv : v.category = 1) (k : gG X σ (pc + 1) lv st) : gG X σ pc lv (v :: st) :=
  fun H locs ls hP hD hS hl => lv_pop C.1 C.2.1 hdg hv (k H locs ls hP hD hS hl)
theorem g_goto (C : gF X cc own ret nL R) {off : Int} (tgt : Nat) (hdg : decode cc pc = .ok (.goto off, 3)) (ht : (pc : Int) + off = (tgt : Int)) (k : gG X σ tgt lv st) : gG X σ pc lv st :=
  fun H locs ls hP hD hS hl => lv_goto C.1 C.2.1 hdg ht (k H locs ls hP hD hS hl)
theorem g_if_eq (C : gF X cc own ret nL R) {x : Int32} {off : Int} {Y N : Option α} (tgt : Nat) (hdg : decode cc pc = .ok (.ifCond .eq off, 3)) (ht : (pc : Int) + off = (tgt : Int)) (hf : (if x = 0 then Y else N) = some o) (kt : Y = some o → gG X σ tgt lv st) (kf : N = some o → gG X σ (pc + 3) lv st) : gG X σ pc lv (.int x :: st) :=
  fun H locs ls hP hD hS hl => lv_if_eq C.1 C.2.1 hdg ht (fun h => kt (by rw [if_pos h] at hf; exact hf) H locs ls hP hD hS hl) (fun h => kf (by rw [if_neg h] at hf; exact hf) H locs ls hP hD hS hl)
theorem g_icmp_eq (C : gF X cc own ret nL R) {x y : Int32} {off : Int} {Y N : Option α} (tgt : Nat) (hdg : decode cc pc = .ok (.if_icmp .eq off, 3)) (ht : (pc : Int) + off = (tgt : Int)) (hf : (if x = y then Y else N) = some o) (kt : Y = some o → gG X σ tgt lv st) (kf : N = some o → gG X σ (pc + 3) lv st) : gG X σ pc lv (.int y :: .int x :: st) :=
  fun H locs ls hP hD hS hl => lv_icmp_eq C.1 C.2.1 hdg ht (fun h => kt (by rw [if_pos h] at hf; exact hf) H locs ls hP hD hS hl) (fun h => kf (by rw [if_neg h] at hf; exact hf) H locs ls hP hD hS hl)
theorem g_if_ne (C : gF X cc own ret nL R) {x : Int32} {off : Int} {Y N : Option α} (tgt : Nat) (hdg : decode cc pc = .ok (.ifCond .ne off, 3)) (ht : (pc : Int) + off = (tgt : Int)) (hf : (if x = 0 then N else Y) = some o) (kt : Y = some o → gG X σ tgt lv st) (kf : N = some o → gG X σ (pc + 3) lv st) : gG X σ pc lv (.int x :: st) :=
  fun H locs ls hP hD hS hl => lv_if_ne C.1 C.2.1 hdg ht (fun h => kt (by rw [if_neg h] at hf; exact hf) H locs ls hP hD hS hl) (fun h => kf (by rw [if_pos h] at hf; exact hf) H locs ls hP hD hS hl)
theorem g_icmp_ne (C : gF X cc own ret nL R) {x y : Int32} {off : Int} {Y N : Option α} (tgt : Nat) (hdg : decode cc pc = .ok (.if_icmp .ne off, 3)) (ht : (pc : Int) + off = (tgt : Int)) (hf : (if x = y then N else Y) = some o) (kt : Y = some o → gG X σ tgt lv st) (kf : N = some o → gG X σ (pc + 3) lv st) : gG X σ pc lv (.int y :: .int x :: st) :=
  fun H locs ls hP hD hS hl => lv_icmp_ne C.1 C.2.1 hdg ht (fun h => kt (by rw [if_neg h] at hf; exact hf) H locs ls hP hD hS hl) (fun h => kf (by rw [if_pos h] at hf; exact hf) H locs ls hP hD hS hl)
theorem g_if_lt (C : gF X cc own ret nL R) {x : Int32} {off : Int} {Y N : Option α} (tgt : Nat) (hdg : decode cc pc = .ok (.ifCond .lt off, 3)) (ht : (pc : Int) + off = (tgt : Int)) (hf : (if x < 0 then Y else N) = some o) (kt : Y = some o → gG X σ tgt lv st) (kf : N = some o → gG X σ (pc + 3) lv st) : gG X σ pc lv (.int x :: st) :=
  fun H locs ls hP hD hS hl => lv_if_lt C.1 C.2.1 hdg ht (fun h => kt (by rw [if_pos h] at hf; exact hf) H locs ls hP hD hS hl) (fun h => kf (by rw [if_neg h] at hf; exact hf) H locs ls hP hD hS hl)
theorem g_icmp_lt (C : gF X cc own ret nL R) {x y : Int32} {off : Int} {Y N : Option α} (tgt : Nat) (hdg : decode cc pc = .ok (.if_icmp .lt off, 3)) (ht : (pc : Int) + off = (tgt : Int)) (hf : (if x < y then Y else N) = some o) (kt : Y = some o → gG X σ tgt lv st) (kf : N = some o → gG X σ (pc + 3) lv st) : gG X σ pc lv (.int y :: .int x :: st) :=
  fun H locs ls hP hD hS hl => lv_icmp_lt C.1 C.2.1 hdg ht (fun h => kt (by rw [if_pos h] at hf; exact hf) H locs ls hP hD hS hl) (fun h => kf (by rw [if_neg h] at hf; exact hf) H locs ls hP hD hS hl)
theorem g_if_ge (C : gF X cc own ret nL R) {x : Int32} {off : Int} {Y N : Option α} (tgt : Nat) (hdg : decode cc pc = .ok (.ifCond .ge off, 3)) (ht : (pc : Int) + off = (tgt : Int)) (hf : (if 0 ≤ x then Y else N) = some o) (kt : Y = some o → gG X σ tgt lv st) (kf : N = some o → gG X σ (pc + 3) lv st) : gG X σ pc lv (.int x :: st) :=
  fun H locs ls hP hD hS hl => lv_if_ge C.1 C.2.1 hdg ht (fun h => kt (by rw [if_pos h] at hf; exact hf) H locs ls hP hD hS hl) (fun h => kf (by rw [if_neg h] at hf; exact hf) H locs ls hP hD hS hl)
theorem g_icmp_ge (C : gF X cc own ret nL R) {x y : Int32} {off : Int} {Y N : Option α} (tgt : Nat) (hdg : decode cc pc = .ok (.if_icmp .ge off, 3)) (ht : (pc : Int) + off = (tgt : Int)) (hf : (if y ≤ x then Y else N) = some o) (kt : Y = some o → gG X σ tgt lv st) (kf : N = some o → gG X σ (pc + 3) lv st) : gG X σ pc lv (.int y :: .int x :: st) :=
  fun H locs ls hP hD hS hl => lv_icmp_ge C.1 C.2.1 hdg ht (fun h => kt (by rw [if_pos h] at hf; exact hf) H locs ls hP hD hS hl) (fun h => kf (by rw [if_neg h] at hf; exact hf) H locs ls hP hD hS hl)
theorem g_if_gt (C : gF X cc own ret nL R) {x : Int32} {off : Int} {Y N : Option α} (tgt : Nat) (hdg : decode cc pc = .ok (.ifCond .gt off, 3)) (ht : (pc : Int) + off = (tgt : Int)) (hf : (if 0 < x then Y else N) = some o) (kt : Y = some o → gG X σ tgt lv st) (kf : N = some o → gG X σ (pc + 3) lv st) : gG X σ pc lv (.int x :: st) :=
  fun H locs ls hP hD hS hl => lv_if_gt C.1 C.2.1 hdg ht (fun h => kt (by rw [if_pos h] at hf; exact hf) H locs ls hP hD hS hl) (fun h => kf (by rw [if_neg h] at hf; exact hf) H locs ls hP hD hS hl)
theorem g_icmp_gt (C : gF X cc own ret nL R) {x y : Int32} {off : Int} {Y N : Option α} (tgt : Nat) (hdg : decode cc pc = .ok (.if_icmp .gt off, 3)) (ht : (pc : Int) + off = (tgt : Int)) (hf : (if y < x then Y else N) = some o) (kt : Y = some o → gG X σ tgt lv st) (kf : N = some o → gG X σ (pc + 3) lv st) : gG X σ pc lv (.int y :: .int x :: st) :=
  fun H locs ls hP hD hS hl => lv_icmp_gt C.1 C.2.1 hdg ht (fun h => kt (by rw [if_pos h] at hf; exact hf) H locs ls hP hD hS hl) (fun h => kf (by rw [if_neg h] at hf; exact hf) H locs ls hP hD hS hl)
theorem g_if_le (C : gF X cc own ret nL R) {x : Int32} {off : Int} {Y N : Option α} (tgt : Nat) (hdg : decode cc pc = .ok (.ifCond .le off, 3)) (ht : (pc : Int) + off = (tgt : Int)) (hf : (if x ≤ 0 then Y else N) = some o) (kt : Y = some o → gG X σ tgt lv st) (kf : N = some o → gG X σ (pc + 3) lv st) : gG X σ pc lv (.int x :: st) :=
  fun H locs ls hP hD hS hl => lv_if_le C.1 C.2.1 hdg ht (fun h => kt (by rw [if_pos h] at hf; exact hf) H locs ls hP hD hS hl) (fun h => kf (by rw [if_neg h] at hf; exact hf) H locs ls hP hD hS hl)
theorem g_icmp_le (C : gF X cc own ret nL R) {x y : Int32} {off : Int} {Y N : Option α} (tgt : Nat) (hdg : decode cc pc = .ok (.if_icmp .le off, 3)) (ht : (pc : Int) + off = (tgt : Int)) (hf : (if x ≤ y then Y else N) = some o) (kt : Y = some o → gG X σ tgt lv st) (kf : N = some o → gG X σ (pc + 3) lv st) : gG X σ pc lv (.int y :: .int x :: st) :=
  fun H locs ls hP hD hS hl => lv_icmp_le C.1 C.2.1 hdg ht (fun h => kt (by rw [if_pos h] at hf; exact hf) H locs ls hP hD hS hl) (fun h => kf (by rw [if_neg h] at hf; exact hf) H locs ls hP hD hS hl)
theorem g_lcmp_eq (C : gF X cc own ret nL R) {x y : Int64} {off : Int} {Y N : Option α} (tgt : Nat) (hdg : decode cc pc = .ok (.lcmp, 1)) (hdi : decode cc (pc + 1) = .ok (.ifCond .eq off, 3)) (ht : ((pc + 1 : Nat) : Int) + off = (tgt : Int)) (hf : (if x = y then Y else N) = some o) (kt : Y = some o → gG X σ tgt lv st) (kf : N = some o → gG X σ (pc + 1 + 3) lv st) : gG X σ pc lv (.long y :: .long x :: st) :=
  fun H locs ls hP hD hS hl => W.lcmp C.1 C.2.1 hdg ((g_if_eq C tgt hdi ht (hf := (by rw [← hf]; exact if_cg (lg_cmp_eq x y))) kt kf) H locs ls hP hD hS hl)
theorem g_lcmp_ne (C : gF X cc own ret nL R) {x y : Int64} {off : Int} {Y N : Option α} (tgt : Nat) (hdg : decode cc pc = .ok (.lcmp, 1)) (hdi : decode cc (pc + 1) = .ok (.ifCond .ne off, 3)) (ht : ((pc + 1 : Nat) : Int) + off = (tgt : Int)) (hf : (if x = y then N else Y) = some o) (kt : Y = some o → gG X σ tgt lv st) (kf : N = some o → gG X σ (pc + 1 + 3) lv st) : gG X σ pc lv (.long y :: .long x :: st) :=
  fun H locs ls hP hD hS hl => W.lcmp C.1 C.2.1 hdg ((g_if_ne C tgt hdi ht (hf := (by rw [← hf]; exact if_cg (lg_cmp_eq x y))) kt kf) H locs ls hP hD hS hl)
theorem g_lcmp_lt (C : gF X cc own ret nL R) {x y : Int64} {off : Int} {Y N : Option α} (tgt : Nat) (hdg : decode cc pc = .ok (.lcmp, 1)) (hdi : decode cc (pc + 1) = .ok (.ifCond .lt off, 3)) (ht : ((pc + 1 : Nat) : Int) + off = (tgt : Int)) (hf : (if x < y then Y else N) = some o) (kt : Y = some o → gG X σ tgt lv st) (kf : N = some o → gG X σ (pc + 1 + 3) lv st) : gG X σ pc lv (.long y :: .long x :: st) :=
  fun H locs ls hP hD hS hl => W.lcmp C.1 C.2.1 hdg ((g_if_lt C tgt hdi ht (hf := (by rw [← hf]; exact if_cg (lg_cmp_lt x y))) kt kf) H locs ls hP hD hS hl)
theorem g_lcmp_ge (C : gF X cc own ret nL R) {x y : Int64} {off : Int} {Y N : Option α} (tgt : Nat) (hdg : decode cc pc = .ok (.lcmp, 1)) (hdi : decode cc (pc + 1) = .ok (.ifCond .ge off, 3)) (ht : ((pc + 1 : Nat) : Int) + off = (tgt : Int)) (hf : (if y ≤ x then Y else N) = some o) (kt : Y = some o → gG X σ tgt lv st) (kf : N = some o → gG X σ (pc + 1 + 3) lv st) : gG X σ pc lv (.long y :: .long x :: st) :=
  fun H locs ls hP hD hS hl => W.lcmp C.1 C.2.1 hdg ((g_if_ge C tgt hdi ht (hf := (by rw [← hf]; exact if_cg (lg_cmp_ge x y))) kt kf) H locs ls hP hD hS hl)
theorem g_lcmp_gt (C : gF X cc own ret nL R) {x y : Int64} {off : Int} {Y N : Option α} (tgt : Nat) (hdg : decode cc pc = .ok (.lcmp, 1)) (hdi : decode cc (pc + 1) = .ok (.ifCond .gt off, 3)) (ht : ((pc + 1 : Nat) : Int) + off = (tgt : Int)) (hf : (if y < x then Y else N) = some o) (kt : Y = some o → gG X σ tgt lv st) (kf : N = some o → gG X σ (pc + 1 + 3) lv st) : gG X σ pc lv (.long y :: .long x :: st) :=
  fun H locs ls hP hD hS hl => W.lcmp C.1 C.2.1 hdg ((g_if_gt C tgt hdi ht (hf := (by rw [← hf]; exact if_cg (lg_cmp_gt x y))) kt kf) H locs ls hP hD hS hl)
theorem g_lcmp_le (C : gF X cc own ret nL R) {x y : Int64} {off : Int} {Y N : Option α} (tgt : Nat) (hdg : decode cc pc = .ok (.lcmp, 1)) (hdi : decode cc (pc + 1) = .ok (.ifCond .le off, 3)) (ht : ((pc + 1 : Nat) : Int) + off = (tgt : Int)) (hf : (if x ≤ y then Y else N) = some o) (kt : Y = some o → gG X σ tgt lv st) (kf : N = some o → gG X σ (pc + 1 + 3) lv st) : gG X σ pc lv (.long y :: .long x :: st) :=
  fun H locs ls hP hD hS hl => W.lcmp C.1 C.2.1 hdg ((g_if_le C tgt hdi ht (hf := (by rw [← hf]; exact if_cg (lg_cmp_le x y))) kt kf) H locs ls hP hD hS hl)
theorem g_tabIn (C : gF X cc own ret nL R) {dflt lo hi : Int} {offs : Array Int} {len : Nat} {x v : Int32} {off : Int} (tgt : Nat) (hx : x = v) (hdg : decode cc pc = .ok (.tableswitch dflt lo hi offs, len)) (h1 : ¬ v.toInt < lo) (h2 : ¬ hi < v.toInt) (ho : offs[(v.toInt - lo).toNat]? = some off) (ht : (pc : Int) + off = (tgt : Int)) (k : gG X σ tgt lv st) : gG X σ pc lv (.int x :: st) := by
  subst hx
  exact fun H locs ls hP hD hS hl => lv_tableIn C.1 C.2.1 hdg h1 h2 ho ht (k H locs ls hP hD hS hl)
theorem g_tabOut (C : gF X cc own ret nL R) {dflt lo hi : Int} {offs : Array Int} {len : Nat} {x : Int32} (tgt : Nat) (hdg : decode cc pc = .ok (.tableswitch dflt lo hi offs, len)) (h : x.toInt < lo ∨ hi < x.toInt) (ht : (pc : Int) + dflt = (tgt : Int)) (k : gG X σ tgt lv st) : gG X σ pc lv (.int x :: st) :=
  fun H locs ls hP hD hS hl => lv_tableOut C.1 C.2.1 hdg h ht (k H locs ls hP hD hS hl)
theorem g_look (C : gF X cc own ret nL R) {dflt : Int} {ps : Array (Int × Int)} {len : Nat} {x : Int32} {off : Int} (tgt : Nat) (hdg : decode cc pc = .ok (.lookupswitch dflt ps, len)) (hp : (ps.toList.zip (ps.toList.drop 1)).all (fun (a, next) => a.1 < next.1) = true) (ho : Op.lookupswitch.offset ps.toList dflt x.toInt = off) (ht : (pc : Int) + off = (tgt : Int)) (k : gG X σ tgt lv st) : gG X σ pc lv (.int x :: st) :=
  fun H locs ls hP hD hS hl => lv_lookup C.1 C.2.1 hdg hp ho ht (k H locs ls hP hD hS hl)
theorem g_max (C : gF X cc own ret nL R) {x y : Int32} {index : Nat} (hdg : decode cc pc = .ok (.invokestatic index, 3)) (hw : Cond.methodLink own index Lib.Math.max.name ∈ lw_tbl) (hi : Cond.static Lib.Math.max.name ∈ lw_tbl ∧ Cond.initialized "java/lang/Math" ∈ lw_tbl ∧ Cond.code Lib.Math.max.name Lib.Math.max.code 2 (some .int) ∈ lw_tbl) (hr : 1 ≤ R.frames ∧ (st.map fun v => v.category).sum + 13 ≤ R.locals) (k : gG X σ (pc + 3) lv (.int (if x < y then y else x) :: st)) : gG X σ pc lv (.int y :: .int x :: st) :=
  fun H locs ls hP hD hS hl => va_mmax C.1 C.2.1 (C.2.2.2.1.trans hl.1.symm) C.2.2.2.2.1 (C.2.2.2.2.2.1 _ hw rfl _) (C.2.2.2.2.2.1 _ hi.1 rfl _) (C.2.2.2.2.2.1 _ hi.2.1 rfl _) (C.2.2.2.2.2.1 _ hi.2.2 rfl _) (by rw [C.2.2.2.2.2.2.2.2.2.1]; exact hr.1) (by rw [C.2.2.2.2.2.2.2.2.2.1]; exact hr.2) C.2.2.2.2.2.2.2.2.2.2.1 C.2.2.2.2.2.2.2.2.2.2.2 hdg (k H locs ls hP hD hS hl)
theorem g_min (C : gF X cc own ret nL R) {x y : Int32} {index : Nat} (hdg : decode cc pc = .ok (.invokestatic index, 3)) (hw : Cond.methodLink own index Lib.Math.min.name ∈ lw_tbl) (hi : Cond.static Lib.Math.min.name ∈ lw_tbl ∧ Cond.initialized "java/lang/Math" ∈ lw_tbl ∧ Cond.code Lib.Math.min.name Lib.Math.min.code 2 (some .int) ∈ lw_tbl) (hr : 1 ≤ R.frames ∧ (st.map fun v => v.category).sum + 13 ≤ R.locals) (k : gG X σ (pc + 3) lv (.int (if y < x then y else x) :: st)) : gG X σ pc lv (.int y :: .int x :: st) :=
  fun H locs ls hP hD hS hl => va_mmin C.1 C.2.1 (C.2.2.2.1.trans hl.1.symm) C.2.2.2.2.1 (C.2.2.2.2.2.1 _ hw rfl _) (C.2.2.2.2.2.1 _ hi.1 rfl _) (C.2.2.2.2.2.1 _ hi.2.1 rfl _) (C.2.2.2.2.2.1 _ hi.2.2 rfl _) (by rw [C.2.2.2.2.2.2.2.2.2.1]; exact hr.1) (by rw [C.2.2.2.2.2.2.2.2.2.1]; exact hr.2) C.2.2.2.2.2.2.2.2.2.2.1 C.2.2.2.2.2.2.2.2.2.2.2 hdg (k H locs ls hP hD hS hl)
end GR
end
section
/-! what a layout says of a cell -/
def kI (K : Kx) (c n : Nat) : Prop := c < K.2.2.2.1 ∧ ∃ (cA : ClassId) (t0 : Nat), K.2.2.2.2.1[t0]? = some (cA, .int) ∧ ∀ (f : Nat → Int32) (g : Nat → Int64), K.2.2.1 c f g = .inl (cA, n, .inl f)
def kZ (K : Kx) (c n : Nat) : Prop := c < K.2.2.2.1 ∧ ∃ (cA : ClassId) (t0 : Nat), K.2.2.2.2.1[t0]? = some (cA, .boolean) ∧ ∀ (f : Nat → Int32) (g : Nat → Int64), K.2.2.1 c f g = .inl (cA, n, .inl f)
def kR (K : Kx) (c n b : Nat) : Prop := c < K.2.2.2.1 ∧ ∃ (cA : ClassId) (t0 : Nat), K.2.2.2.2.1[t0]? = some (cA, .array .int) ∧ ∀ (f : Nat → Int32) (g : Nat → Int64), K.2.2.1 c f g = .inl (cA, n, .inr (.inr (.inr (.inr (fun i => if i < n then some (K.2.1 (b + i)) else none)))))
def kO (K : Kx) (c ci : Nat) : Prop := c < K.2.2.2.1 ∧ ∀ (f : Nat → Int32) (g : Nat → Int64), ∃ fs : List Value, K.2.2.1 c f g = .inr (ci, fs)
def kfR (K : Kx) (c ci k c' : Nat) : Prop := c < K.2.2.2.1 ∧ ∀ (f : Nat → Int32) (g : Nat → Int64), ∃ fs : List Value, K.2.2.1 c f g = .inr (ci, fs) ∧ fs[k]? = some (.ref (K.2.1 c'))
def kfI (K : Kx) (c ci k : Nat) : Prop := c < K.2.2.2.1 ∧ ∀ (f : Nat → Int32) (g : Nat → Int64), ∃ fs : List Value, K.2.2.1 c f g = .inr (ci, fs) ∧ fs[k]? = some (.int (f k)) ∧ k < fs.length ∧ ∀ v : Int32, K.2.2.1 c (upd f k v) g = .inr (ci, fs.set k (.int v))
def kfL (K : Kx) (c ci k : Nat) : Prop := c < K.2.2.2.1 ∧ ∀ (f : Nat → Int32) (g : Nat → Int64), ∃ fs : List Value, K.2.2.1 c f g = .inr (ci, fs) ∧ fs[k]? = some (.long (g k)) ∧ k < fs.length ∧ ∀ v : Int64, K.2.2.1 c f (vp_updL g k v) = .inr (ci, fs.set k (.long v))
def clOK (ci : Nat) (Cn : String) (T : u_T) (N : Nat) (ty : Nat → FieldType) : Prop := vwCl[ci]? = some (Cn, T, N) ∧ (∀ w ∈ u_ws Cn T N, w ∈ lw_tbl ∧ tbGood w = true) ∧ (∀ k, k < N → parseFieldDescriptor (T k).2.2.1 = some (ty k)) ∧ ∀ a, a < N → ∀ b, b < N → a ≠ b → (T a).2.1 ≠ (T b).2.1
theorem wI_self (σ : St) (c k : Nat) (v : Int32) : (wI σ c k v).1 c = upd (σ.1 c) k v ∧ (wI σ c k v).2 c = σ.2 c := ⟨by simp [wI], rfl⟩
theorem wL_self (σ : St) (c k : Nat) (v : Int64) : (wL σ c k v).1 c = σ.1 c ∧ (wL σ c k v).2 c = vp_updL (σ.2 c) k v := ⟨rfl, by simp [wL]⟩
section GH
variable {X : Gx St} {cc : ByteArray} {own host : String} {ret : Option FieldType} {nL : Nat} {R : Room} {σ : St} {pc : Nat} {lv : List (Nat × Value)} {st : List Value} {α : Type} {o : α} {K : Kx} {c ci k N index : Nat} {Cn : String} {T : u_T} {ty : Nat → FieldType}
theorem g_getI (C : gF X cc own ret nL R) (Kf : kF X K) (ck : clOK ci Cn T N ty) (hq : kfI K c ci k) (hk : k < N) (hdg : decode cc pc = .ok (.getfield index, 3)) (hw : Cond.fieldLink own index (T k).1 (T k).2.1 (T k).2.2.1 ∈ lw_tbl) (kk : gG X σ (pc + 3) lv (.int (σ.1 c k) :: st)) : gG X σ pc lv (.ref (K.2.1 c) :: st) := by
  obtain ⟨⟨p, l, e, R0, s, m, args, below, meth, co⟩, D, wl, A, nL0, cells, slots, Q⟩ := X
  obtain ⟨h1, h2, hK, hst⟩ := Kf
  dsimp only at h1 h2 hK hst
  subst h1
  subst h2
  intro H locs ls hP hD hS hl
  obtain ⟨hc, hE⟩ := hq
  obtain ⟨fs, he, hv, -, -⟩ := hE (σ.1 c) (σ.2 c)
  have ha := kwl_at K σ hc
  rw [he] at ha
  exact va_get (Ts := u_ws Cn T N) C.1 C.2.1 (fun w hw => C.2.2.2.2.2.1 w (ck.2.1 w hw).1 (ck.2.1 w hw).2 _) (fun _ h => h) C.2.2.2.2.1 hK hP c ha ck.1 k hk (C.2.2.2.2.2.1 _ hw rfl _) (fun _ h => h) hv hdg (kk H locs ls hP hD hS hl)
theorem g_getL (C : gF X cc own ret nL R) (Kf : kF X K) (ck : clOK ci Cn T N ty) (hq : kfL K c ci k) (hk : k < N) (hdg : decode cc pc = .ok (.getfield index, 3)) (hw : Cond.fieldLink own index (T k).1 (T k).2.1 (T k).2.2.1 ∈ lw_tbl) (kk : gG X σ (pc + 3) lv (.long (σ.2 c k) :: st)) : gG X σ pc lv (.ref (K.2.1 c) :: st) := by
  obtain ⟨⟨p, l, e, R0, s, m, args, below, meth, co⟩, D, wl, A, nL0, cells, slots, Q⟩ := X
  obtain ⟨h1, h2, hK, hst⟩ := Kf
  dsimp only at h1 h2 hK hst
  subst h1
  subst h2
  intro H locs ls hP hD hS hl
  obtain ⟨hc, hE⟩ := hq
  obtain ⟨fs, he, hv, -, -⟩ := hE (σ.1 c) (σ.2 c)
  have ha := kwl_at K σ hc
  rw [he] at ha
  exact va_get (Ts := u_ws Cn T N) C.1 C.2.1 (fun w hw => C.2.2.2.2.2.1 w (ck.2.1 w hw).1 (ck.2.1 w hw).2 _) (fun _ h => h) C.2.2.2.2.1 hK hP c ha ck.1 k hk (C.2.2.2.2.2.1 _ hw rfl _) (fun _ h => h) hv hdg (kk H locs ls hP hD hS hl)
theorem g_getR (C : gF X cc own ret nL R) (Kf : kF X K) {c' : Nat} (ck : clOK ci Cn T N ty) (hq : kfR K c ci k c') (hk : k < N) (hdg : decode cc pc = .ok (.getfield index, 3)) (hw : Cond.fieldLink own index (T k).1 (T k).2.1 (T k).2.2.1 ∈ lw_tbl) (kk : gG X σ (pc + 3) lv (.ref (K.2.1 c') :: st)) : gG X σ pc lv (.ref (K.2.1 c) :: st) := by
  obtain ⟨⟨p, l, e, R0, s, m, args, below, meth, co⟩, D, wl, A, nL0, cells, slots, Q⟩ := X
  obtain ⟨h1, h2, hK, hst⟩ := Kf
  dsimp only at h1 h2 hK hst
  subst h1
  subst h2
  intro H locs ls hP hD hS hl
  obtain ⟨hc, hE⟩ := hq
  obtain ⟨fs, he, hv⟩ := hE (σ.1 c) (σ.2 c)
  have ha := kwl_at K σ hc
  rw [he] at ha
  exact va_get (Ts := u_ws Cn T N) C.1 C.2.1 (fun w hw => C.2.2.2.2.2.1 w (ck.2.1 w hw).1 (ck.2.1 w hw).2 _) (fun _ h => h) C.2.2.2.2.1 hK hP c ha ck.1 k hk (C.2.2.2.2.2.1 _ hw rfl _) (fun _ h => h) hv hdg (kk H locs ls hP hD hS hl)
theorem g_getIN (C : gF X cc own ret nL R) (Kf : kF X K) (ck : clOK ci Cn T N ty) (hq : kfI K c ci k) (hk : k < N) (hdg : decode cc pc = .ok (.getfield index, 3)) (hw : Cond.fieldLinkNest own index (T k).1 (T k).2.1 (T k).2.2.1 host ∈ lw_tbl) (kk : gG X σ (pc + 3) lv (.int (σ.1 c k) :: st)) : gG X σ pc lv (.ref (K.2.1 c) :: st) := by
  obtain ⟨⟨p, l, e, R0, s, m, args, below, meth, co⟩, D, wl, A, nL0, cells, slots, Q⟩ := X
  obtain ⟨h1, h2, hK, hst⟩ := Kf
  dsimp only at h1 h2 hK hst
  subst h1
  subst h2
  intro H locs ls hP hD hS hl
  obtain ⟨hc, hE⟩ := hq
  obtain ⟨fs, he, hv, -, -⟩ := hE (σ.1 c) (σ.2 c)
  have ha := kwl_at K σ hc
  rw [he] at ha
  exact va_getN (Ts := u_ws Cn T N) C.1 C.2.1 (fun w hw => C.2.2.2.2.2.1 w (ck.2.1 w hw).1 (ck.2.1 w hw).2 _) (fun _ h => h) C.2.2.2.2.1 hK hP c ha ck.1 k hk (C.2.2.2.2.2.1 _ hw rfl _) (fun _ h => h) hv hdg (kk H locs ls hP hD hS hl)
theorem g_getLN (C : gF X cc own ret nL R) (Kf : kF X K) (ck : clOK ci Cn T N ty) (hq : kfL K c ci k) (hk : k < N) (hdg : decode cc pc = .ok (.getfield index, 3)) (hw : Cond.fieldLinkNest own index (T k).1 (T k).2.1 (T k).2.2.1 host ∈ lw_tbl) (kk : gG X σ (pc + 3) lv (.long (σ.2 c k) :: st)) : gG X σ pc lv (.ref (K.2.1 c) :: st) := by
  obtain ⟨⟨p, l, e, R0, s, m, args, below, meth, co⟩, D, wl, A, nL0, cells, slots, Q⟩ := X
  obtain ⟨h1, h2, hK, hst⟩ := Kf
  dsimp only at h1 h2 hK hst
  subst h1
  subst h2
  intro H locs ls hP hD hS hl
  obtain ⟨hc, hE⟩ := hq
  obtain ⟨fs, he, hv, -, -⟩ := hE (σ.1 c) (σ.2 c)
  have ha := kwl_at K σ hc
  rw [he] at ha
  exact va_getN (Ts := u_ws Cn T N) C.1 C.2.1 (fun w hw => C.2.2.2.2.2.1 w (ck.2.1 w hw).1 (ck.2.1 w hw).2 _) (fun _ h => h) C.2.2.2.2.1 hK hP c ha ck.1 k hk (C.2.2.2.2.2.1 _ hw rfl _) (fun _ h => h) hv hdg (kk H locs ls hP hD hS hl)
theorem g_getRN (C : gF X cc own ret nL R) (Kf : kF X K) {c' : Nat} (ck : clOK ci Cn T N ty) (hq : kfR K c ci k c') (hk : k < N) (hdg : decode cc pc = .ok (.getfield index, 3)) (hw : Cond.fieldLinkNest own index (T k).1 (T k).2.1 (T k).2.2.1 host ∈ lw_tbl) (kk : gG X σ (pc + 3) lv (.ref (K.2.1 c') :: st)) : gG X σ pc lv (.ref (K.2.1 c) :: st) := by
  obtain ⟨⟨p, l, e, R0, s, m, args, below, meth, co⟩, D, wl, A, nL0, cells, slots, Q⟩ := X
  obtain ⟨h1, h2, hK, hst⟩ := Kf
  dsimp only at h1 h2 hK hst
  subst h1
  subst h2
  intro H locs ls hP hD hS hl
  obtain ⟨hc, hE⟩ := hq
  obtain ⟨fs, he, hv⟩ := hE (σ.1 c) (σ.2 c)
  have ha := kwl_at K σ hc
  rw [he] at ha
  exact va_getN (Ts := u_ws Cn T N) C.1 C.2.1 (fun w hw => C.2.2.2.2.2.1 w (ck.2.1 w hw).1 (ck.2.1 w hw).2 _) (fun _ h => h) C.2.2.2.2.1 hK hP c ha ck.1 k hk (C.2.2.2.2.2.1 _ hw rfl _) (fun _ h => h) hv hdg (kk H locs ls hP hD hS hl)
theorem g_putI (C : gF X cc own ret nL R) (Kf : kF X K) {v : Int32} {F : St → Option α} (ck : clOK ci Cn T N ty) (hq : kfI K c ci k) (hk : k < N) (hfin : (T k).2.2.2 = false) (hn : narrow (ty k) (.int v) = .int v) (hfit : fits (ty k) (.int v) = true) (hdg : decode cc pc = .ok (.putfield index, 3)) (hw : Cond.fieldLink own index (T k).1 (T k).2.1 (T k).2.2.1 ∈ lw_tbl) (hf : bnd (wI σ c k v) F = some o) (kk : ∀ σ, F σ = some o → gG X σ (pc + 3) lv st) : gG X σ pc lv (.int v :: .ref (K.2.1 c) :: st) := by
  obtain ⟨⟨p, l, e, R0, s, m, args, below, meth, co⟩, D, wl, A, nL0, cells, slots, Q⟩ := X
  obtain ⟨h1, h2, hK, hst⟩ := Kf
  dsimp only at h1 h2 hK hst
  subst h1
  subst h2
  intro H locs ls hP hD hS hl
  obtain ⟨hc, hE⟩ := hq
  obtain ⟨fs, he, hv, hlen, hset⟩ := hE (σ.1 c) (σ.2 c)
  have ha := kwl_at K σ hc
  rw [he] at ha
  refine va_put (Ts := u_ws Cn T N) C.1 C.2.1 (fun w hw => C.2.2.2.2.2.1 w (ck.2.1 w hw).1 (ck.2.1 w hw).2 _) (fun _ h => h) ty ck.2.2.1 ck.2.2.2 C.2.2.2.2.1 hK hP hD hS c ha ck.1 k hk (C.2.2.2.2.2.1 _ hw rfl _) (fun _ h => h) hfin (ck.2.2.1 k hk) hn hfit hlen hdg (fun H1 locs1 hP hD hS => ?_)
  have hw2 : (kwl K σ).set c (K.2.1 c, .inr (ci, fs.set k (.int v))) = kwl K (wI σ c k v) := kwl_set K σ _ (by rw [(wI_self σ c k v).1, (wI_self σ c k v).2, hset]) (wI_ne σ c k v)
  rw [hw2] at hP hD
  exact kk _ hf H1 locs1 ls hP hD hS hl
theorem g_putL (C : gF X cc own ret nL R) (Kf : kF X K) {v : Int64} {F : St → Option α} (ck : clOK ci Cn T N ty) (hq : kfL K c ci k) (hk : k < N) (hfin : (T k).2.2.2 = false) (hn : narrow (ty k) (.long v) = .long v) (hfit : fits (ty k) (.long v) = true) (hdg : decode cc pc = .ok (.putfield index, 3)) (hw : Cond.fieldLink own index (T k).1 (T k).2.1 (T k).2.2.1 ∈ lw_tbl) (hf : bnd (wL σ c k v) F = some o) (kk : ∀ σ, F σ = some o → gG X σ (pc + 3) lv st) : gG X σ pc lv (.long v :: .ref (K.2.1 c) :: st) := by
  obtain ⟨⟨p, l, e, R0, s, m, args, below, meth, co⟩, D, wl, A, nL0, cells, slots, Q⟩ := X
  obtain ⟨h1, h2, hK, hst⟩ := Kf
  dsimp only at h1 h2 hK hst
  subst h1
  subst h2
  intro H locs ls hP hD hS hl
  obtain ⟨hc, hE⟩ := hq
  obtain ⟨fs, he, hv, hlen, hset⟩ := hE (σ.1 c) (σ.2 c)
  have ha := kwl_at K σ hc
  rw [he] at ha
  refine va_put (Ts := u_ws Cn T N) C.1 C.2.1 (fun w hw => C.2.2.2.2.2.1 w (ck.2.1 w hw).1 (ck.2.1 w hw).2 _) (fun _ h => h) ty ck.2.2.1 ck.2.2.2 C.2.2.2.2.1 hK hP hD hS c ha ck.1 k hk (C.2.2.2.2.2.1 _ hw rfl _) (fun _ h => h) hfin (ck.2.2.1 k hk) hn hfit hlen hdg (fun H1 locs1 hP hD hS => ?_)
  have hw2 : (kwl K σ).set c (K.2.1 c, .inr (ci, fs.set k (.long v))) = kwl K (wL σ c k v) := kwl_set K σ _ (by rw [(wL_self σ c k v).1, (wL_self σ c k v).2, hset]) (wL_ne σ c k v)
  rw [hw2] at hP hD
  exact kk _ hf H1 locs1 ls hP hD hS hl
theorem g_putIN (C : gF X cc own ret nL R) (Kf : kF X K) {v : Int32} {F : St → Option α} (ck : clOK ci Cn T N ty) (hq : kfI K c ci k) (hk : k < N) (hfin : (T k).2.2.2 = false) (hn : narrow (ty k) (.int v) = .int v) (hfit : fits (ty k) (.int v) = true) (hdg : decode cc pc = .ok (.putfield index, 3)) (hw : Cond.fieldLinkNest own index (T k).1 (T k).2.1 (T k).2.2.1 host ∈ lw_tbl) (hf : bnd (wI σ c k v) F = some o) (kk : ∀ σ, F σ = some o → gG X σ (pc + 3) lv st) : gG X σ pc lv (.int v :: .ref (K.2.1 c) :: st) := by
  obtain ⟨⟨p, l, e, R0, s, m, args, below, meth, co⟩, D, wl, A, nL0, cells, slots, Q⟩ := X
  obtain ⟨h1, h2, hK, hst⟩ := Kf
  dsimp only at h1 h2 hK hst
  subst h1
  subst h2
  intro H locs ls hP hD hS hl
  obtain ⟨hc, hE⟩ := hq
  obtain ⟨fs, he, hv, hlen, hset⟩ := hE (σ.1 c) (σ.2 c)
  have ha := kwl_at K σ hc
  rw [he] at ha
  refine va_putN (Ts := u_ws Cn T N) C.1 C.2.1 (fun w hw => C.2.2.2.2.2.1 w (ck.2.1 w hw).1 (ck.2.1 w hw).2 _) (fun _ h => h) ty ck.2.2.1 ck.2.2.2 C.2.2.2.2.1 hK hP hD hS c ha ck.1 k hk (C.2.2.2.2.2.1 _ hw rfl _) (fun _ h => h) hfin (ck.2.2.1 k hk) hn hfit hlen hdg (fun H1 locs1 hP hD hS => ?_)
  have hw2 : (kwl K σ).set c (K.2.1 c, .inr (ci, fs.set k (.int v))) = kwl K (wI σ c k v) := kwl_set K σ _ (by rw [(wI_self σ c k v).1, (wI_self σ c k v).2, hset]) (wI_ne σ c k v)
  rw [hw2] at hP hD
  exact kk _ hf H1 locs1 ls hP hD hS hl
theorem g_putLN (C : gF X cc own ret nL R) (Kf : kF X K) {v : Int64} {F : St → Option α} (ck : clOK ci Cn T N ty) (hq : kfL K c ci k) (hk : k < N) (hfin : (T k).2.2.2 = false) (hn : narrow (ty k) (.long v) = .long v) (hfit : fits (ty k) (.long v) = true) (hdg : decode cc pc = .ok (.putfield index, 3)) (hw : Cond.fieldLinkNest own index (T k).1 (T k).2.1 (T k).2.2.1 host ∈ lw_tbl) (hf : bnd (wL σ c k v) F = some o) (kk : ∀ σ, F σ = some o → gG X σ (pc + 3) lv st) : gG X σ pc lv (.long v :: .ref (K.2.1 c) :: st) := by
  obtain ⟨⟨p, l, e, R0, s, m, args, below, meth, co⟩, D, wl, A, nL0, cells, slots, Q⟩ := X
  obtain ⟨h1, h2, hK, hst⟩ := Kf
  dsimp only at h1 h2 hK hst
  subst h1
  subst h2
  intro H locs ls hP hD hS hl
  obtain ⟨hc, hE⟩ := hq
  obtain ⟨fs, he, hv, hlen, hset⟩ := hE (σ.1 c) (σ.2 c)
  have ha := kwl_at K σ hc
  rw [he] at ha
  refine va_putN (Ts := u_ws Cn T N) C.1 C.2.1 (fun w hw => C.2.2.2.2.2.1 w (ck.2.1 w hw).1 (ck.2.1 w hw).2 _) (fun _ h => h) ty ck.2.2.1 ck.2.2.2 C.2.2.2.2.1 hK hP hD hS c ha ck.1 k hk (C.2.2.2.2.2.1 _ hw rfl _) (fun _ h => h) hfin (ck.2.2.1 k hk) hn hfit hlen hdg (fun H1 locs1 hP hD hS => ?_)
  have hw2 : (kwl K σ).set c (K.2.1 c, .inr (ci, fs.set k (.long v))) = kwl K (wL σ c k v) := kwl_set K σ _ (by rw [(wL_self σ c k v).1, (wL_self σ c k v).2, hset]) (wL_ne σ c k v)
  rw [hw2] at hP hD
  exact kk _ hf H1 locs1 ls hP hD hS hl
theorem g_iald (C : gF X cc own ret nL R) (Kf : kF X K) {n : Nat} {i : Int32} {Y : Option α} (hq : kI K c n) (hdg : decode cc pc = .ok (.iaload, 1)) (hf : gi i n Y = some o) (kk : Y = some o → gG X σ (pc + 1) lv (.int (σ.1 c i.toNatClampNeg) :: st)) : gG X σ pc lv (.int i :: .ref (K.2.1 c) :: st) := by
  obtain ⟨⟨p, l, e, R0, s, m, args, below, meth, co⟩, D, wl, A, nL0, cells, slots, Q⟩ := X
  obtain ⟨h1, h2, hK, hst⟩ := Kf
  dsimp only at h1 h2 hK hst
  subst h1
  subst h2
  intro H locs ls hP hD hS hl
  obtain ⟨hc, cA, t0, ht, hE⟩ := hq
  have ha := kwl_at K σ hc
  rw [hE] at ha
  exact va_iald C.1 C.2.1 hK hP c t0 ha ht (gi_some hf).1 hdg (kk (gi_some hf).2 H locs ls hP hD hS hl)
theorem g_zald (C : gF X cc own ret nL R) (Kf : kF X K) {n : Nat} {i : Int32} {Y : Option α} (hq : kZ K c n) (hdg : decode cc pc = .ok (.baload, 1)) (hf : gi i n Y = some o) (kk : Y = some o → gG X σ (pc + 1) lv (.int (σ.1 c i.toNatClampNeg) :: st)) : gG X σ pc lv (.int i :: .ref (K.2.1 c) :: st) := by
  obtain ⟨⟨p, l, e, R0, s, m, args, below, meth, co⟩, D, wl, A, nL0, cells, slots, Q⟩ := X
  obtain ⟨h1, h2, hK, hst⟩ := Kf
  dsimp only at h1 h2 hK hst
  subst h1
  subst h2
  intro H locs ls hP hD hS hl
  obtain ⟨hc, cA, t0, ht, hE⟩ := hq
  have ha := kwl_at K σ hc
  rw [hE] at ha
  exact va_zald C.1 C.2.1 hK hP c t0 ha ht (gi_some hf).1 hdg (kk (gi_some hf).2 H locs ls hP hD hS hl)
theorem g_iast (C : gF X cc own ret nL R) (Kf : kF X K) {n : Nat} {i v : Int32} {F : St → Option α} (hq : kI K c n) (hdg : decode cc pc = .ok (.iastore, 1)) (hf : gi i n (bnd (wI σ c i.toNatClampNeg v) F) = some o) (kk : ∀ σ, F σ = some o → gG X σ (pc + 1) lv st) : gG X σ pc lv (.int v :: .int i :: .ref (K.2.1 c) :: st) := by
  obtain ⟨⟨p, l, e, R0, s, m, args, below, meth, co⟩, D, wl, A, nL0, cells, slots, Q⟩ := X
  obtain ⟨h1, h2, hK, hst⟩ := Kf
  dsimp only at h1 h2 hK hst
  subst h1
  subst h2
  intro H locs ls hP hD hS hl
  obtain ⟨hc, cA, t0, ht, hE⟩ := hq
  have ha := kwl_at K σ hc
  rw [hE] at ha
  refine va_iast C.1 C.2.1 hK hP hD hS c t0 ha ht (gi_some hf).1 hdg (fun H1 locs1 hP hD hS => ?_)
  have hw2 : (kwl K σ).set c (K.2.1 c, .inl (cA, n, .inl (upd (σ.1 c) i.toNatClampNeg v))) = kwl K (wI σ c i.toNatClampNeg v) := kwl_set K σ _ (by rw [(wI_self σ c _ v).1, (wI_self σ c _ v).2, hE]) (wI_ne σ c _ v)
  rw [hw2] at hP hD
  exact kk _ (gi_some hf).2 H1 locs1 ls hP hD hS hl
theorem g_zast (C : gF X cc own ret nL R) (Kf : kF X K) {n : Nat} {i v : Int32} {F : St → Option α} (hq : kZ K c n) (hv : vp_nar .boolean v = v) (hdg : decode cc pc = .ok (.bastore, 1)) (hf : gi i n (bnd (wI σ c i.toNatClampNeg v) F) = some o) (kk : ∀ σ, F σ = some o → gG X σ (pc + 1) lv st) : gG X σ pc lv (.int v :: .int i :: .ref (K.2.1 c) :: st) := by
  obtain ⟨⟨p, l, e, R0, s, m, args, below, meth, co⟩, D, wl, A, nL0, cells, slots, Q⟩ := X
  obtain ⟨h1, h2, hK, hst⟩ := Kf
  dsimp only at h1 h2 hK hst
  subst h1
  subst h2
  intro H locs ls hP hD hS hl
  obtain ⟨hc, cA, t0, ht, hE⟩ := hq
  have ha := kwl_at K σ hc
  rw [hE] at ha
  refine va_zast C.1 C.2.1 hK hP hD hS c t0 ha ht (gi_some hf).1 hdg (fun H1 locs1 hP hD hS => ?_)
  rw [hv] at hP hD
  have hw2 : (kwl K σ).set c (K.2.1 c, .inl (cA, n, .inl (upd (σ.1 c) i.toNatClampNeg v))) = kwl K (wI σ c i.toNatClampNeg v) := kwl_set K σ _ (by rw [(wI_self σ c _ v).1, (wI_self σ c _ v).2, hE]) (wI_ne σ c _ v)
  rw [hw2] at hP hD
  exact kk _ (gi_some hf).2 H1 locs1 ls hP hD hS hl
theorem g_aald (C : gF X cc own ret nL R) (Kf : kF X K) {n b : Nat} {i : Int32} {Y : Option α} (hq : kR K c n b) (hdg : decode cc pc = .ok (.aaload, 1)) (hf : gi i n Y = some o) (kk : i.toNatClampNeg < n → Y = some o → gG X σ (pc + 1) lv (.ref (K.2.1 (b + i.toNatClampNeg)) :: st)) : gG X σ pc lv (.int i :: .ref (K.2.1 c) :: st) := by
  obtain ⟨⟨p, l, e, R0, s, m, args, below, meth, co⟩, D, wl, A, nL0, cells, slots, Q⟩ := X
  obtain ⟨h1, h2, hK, hst⟩ := Kf
  dsimp only at h1 h2 hK hst
  subst h1
  subst h2
  intro H locs ls hP hD hS hl
  obtain ⟨hc, cA, t0, ht, hE⟩ := hq
  have ha := kwl_at K σ hc
  rw [hE] at ha
  have hin := (gi_some hf).1
  have hlt : i.toNatClampNeg < n := Nat.not_le.mp fun q => hin (Or.inr q)
  have k2 := kk hlt (gi_some hf).2 H locs ls hP hD hS hl
  refine W.aald (v := va_rf (if i.toNatClampNeg < n then some (K.2.1 (b + i.toNatClampNeg)) else none)) (ty := .array .int) C.1 C.2.1 (hP c _ ha) ((hK.2 t0 _ ht).1 n (fun j => va_rf (if j < n then some (K.2.1 (b + j)) else none))) rfl (fun q => by cases q) (by show ¬ (i < 0 ∨ (arrV _ _ _).slots.size ≤ _); rw [arrV_size]; exact hin) (by show (arrV _ _ _).slots[_]? = _; rw [arrV_read _ _ hlt]) rfl rfl hdg ?_
  rw [if_pos hlt]
  exact k2
theorem g_alen (C : gF X cc own ret nL R) (Kf : kF X K) {n : Nat} {v : Int32} (hq : kI K c n) (hv : Int32.ofNat n = v) (hdg : decode cc pc = .ok (.arraylength, 1)) (kk : gG X σ (pc + 1) lv (.int v :: st)) : gG X σ pc lv (.ref (K.2.1 c) :: st) := by
  obtain ⟨⟨p, l, e, R0, s, m, args, below, meth, co⟩, D, wl, A, nL0, cells, slots, Q⟩ := X
  obtain ⟨h1, h2, hK, hst⟩ := Kf
  dsimp only at h1 h2 hK hst
  subst h1
  subst h2
  intro H locs ls hP hD hS hl
  obtain ⟨hc, cA, t0, ht, hE⟩ := hq
  have ha := kwl_at K σ hc
  rw [hE] at ha
  exact va_alen C.1 C.2.1 hK hP c t0 ha ht hv hdg (kk H locs ls hP hD hS hl)
theorem g_sLet (C : gF X cc RX5 ret nL R) (Kf : kF X K) (hdg : decode cc pc = .ok (.getstatic index, 3)) (hw : Cond.fieldLink RX5 index RX5 "LETTERS" "[I" ∈ lw_tbl) (kk : gG X σ (pc + 3) lv (.ref K.2.2.2.2.2.1 :: st)) : gG X σ pc lv st := by
  obtain ⟨⟨p, l, e, R0, s, m, args, below, meth, co⟩, D, wl, A, nL0, cells, slots, Q⟩ := X
  obtain ⟨h1, h2, hK, hst⟩ := Kf
  dsimp only at h1 h2 hK hst
  subst h1
  subst h2
  intro H locs ls hP hD hS hl
  exact va_gets C.1 C.2.1 hst.1.1 hS C.2.2.2.2.1 (C.2.2.2.2.2.1 _ hw rfl _) (fun _ h => h) hdg (kk H locs ls hP hD hS hl)
theorem g_sWid (C : gF X cc RX5 ret nL R) (Kf : kF X K) (hdg : decode cc pc = .ok (.getstatic index, 3)) (hw : Cond.fieldLink RX5 index RX5 "WIDER" "[I" ∈ lw_tbl) (kk : gG X σ (pc + 3) lv (.ref K.2.2.2.2.2.2 :: st)) : gG X σ pc lv st := by
  obtain ⟨⟨p, l, e, R0, s, m, args, below, meth, co⟩, D, wl, A, nL0, cells, slots, Q⟩ := X
  obtain ⟨h1, h2, hK, hst⟩ := Kf
  dsimp only at h1 h2 hK hst
  subst h1
  subst h2
  intro H locs ls hP hD hS hl
  exact va_gets C.1 C.2.1 hst.2.1 hS C.2.2.2.2.1 (C.2.2.2.2.2.1 _ hw rfl _) (fun _ h => h) hdg (kk H locs ls hP hD hS hl)
theorem g_sLetN (C : gF X cc own ret nL R) (Kf : kF X K) (hdg : decode cc pc = .ok (.getstatic index, 3)) (hw : Cond.fieldLinkNest own index RX5 "LETTERS" "[I" host ∈ lw_tbl) (kk : gG X σ (pc + 3) lv (.ref K.2.2.2.2.2.1 :: st)) : gG X σ pc lv st := by
  obtain ⟨⟨p, l, e, R0, s, m, args, below, meth, co⟩, D, wl, A, nL0, cells, slots, Q⟩ := X
  obtain ⟨h1, h2, hK, hst⟩ := Kf
  dsimp only at h1 h2 hK hst
  subst h1
  subst h2
  intro H locs ls hP hD hS hl
  exact va_getsN C.1 C.2.1 hst.1.1 hS C.2.2.2.2.1 (C.2.2.2.2.2.1 _ hw rfl _) (fun _ h => h) hdg (kk H locs ls hP hD hS hl)
theorem g_sLetLd (C : gF X cc own ret nL R) (Kf : kF X K) {i : Int32} {Y : Option α} (hdg : decode cc pc = .ok (.iaload, 1)) (hf : gi i 6 Y = some o) (kk : Y = some o → gG X σ (pc + 1) lv (.int (sLet i.toNatClampNeg) :: st)) : gG X σ pc lv (.int i :: .ref K.2.2.2.2.2.1 :: st) := by
  obtain ⟨⟨p, l, e, R0, s, m, args, below, meth, co⟩, D, wl, A, nL0, cells, slots, Q⟩ := X
  obtain ⟨h1, h2, hK, hst⟩ := Kf
  dsimp only at h1 h2 hK hst
  subst h1
  subst h2
  intro H locs ls hP hD hS hl
  exact va_sld C.1 C.2.1 hst.1.2.1 hst.1.2.2.1 hst.1.2.2.2 hS (gi_some hf).1 hdg (kk (gi_some hf).2 H locs ls hP hD hS hl)
theorem g_sWidLd (C : gF X cc own ret nL R) (Kf : kF X K) {i : Int32} {Y : Option α} (hdg : decode cc pc = .ok (.iaload, 1)) (hf : gi i 6 Y = some o) (kk : Y = some o → gG X σ (pc + 1) lv (.int (sWid i.toNatClampNeg) :: st)) : gG X σ pc lv (.int i :: .ref K.2.2.2.2.2.2 :: st) := by
  obtain ⟨⟨p, l, e, R0, s, m, args, below, meth, co⟩, D, wl, A, nL0, cells, slots, Q⟩ := X
  obtain ⟨h1, h2, hK, hst⟩ := Kf
  dsimp only at h1 h2 hK hst
  subst h1
  subst h2
  intro H locs ls hP hD hS hl
  exact va_sld C.1 C.2.1 hst.2.2.1 hst.2.2.2.1 hst.2.2.2.2 hS (gi_some hf).1 hdg (kk (gi_some hf).2 H locs ls hP hD hS hl)
theorem g_iret (C : gF X cc own (some .int) nL R) (Kf : kF X K) {r : Int32} {σ' : St} (hR : gR X K (some (.int r)) σ') (hσ : σ = σ') (hdg : decode cc pc = .ok (.ireturn, 1)) : gG X σ pc lv [.int r] := by
  obtain ⟨⟨p, l, e, R0, s, m, args, below, meth, co⟩, D, wl, A, nL0, cells, slots, Q⟩ := X
  obtain ⟨h1, h2, hK, hst⟩ := Kf
  dsimp only at h1 h2 hK hst
  subst h1
  subst h2
  intro H locs ls hP hD hS hl
  subst hσ
  obtain ⟨r1, r2, r3⟩ := hR
  dsimp only at r1 r2 r3
  subst r1
  subst r2
  subst r3
  exact W.iret C.1 C.2.1 C.2.2.1 (fun t ht hW => ⟨⟨rfl, by rw [ht]; exact hP, hD⟩, hS.F ht⟩) hS.2.2 hdg C.2.2.2.2.2.2.2.1
theorem g_lret (C : gF X cc own (some .long) nL R) (Kf : kF X K) {r : Int64} {σ' : St} (hR : gR X K (some (.long r)) σ') (hσ : σ = σ') (hdg : decode cc pc = .ok (.lreturn, 1)) : gG X σ pc lv [.long r] := by
  obtain ⟨⟨p, l, e, R0, s, m, args, below, meth, co⟩, D, wl, A, nL0, cells, slots, Q⟩ := X
  obtain ⟨h1, h2, hK, hst⟩ := Kf
  dsimp only at h1 h2 hK hst
  subst h1
  subst h2
  intro H locs ls hP hD hS hl
  subst hσ
  obtain ⟨r1, r2, r3⟩ := hR
  dsimp only at r1 r2 r3
  subst r1
  subst r2
  subst r3
  exact W.lret C.1 C.2.1 C.2.2.1 (fun t ht hW => ⟨⟨rfl, by rw [ht]; exact hP, hD⟩, hS.F ht⟩) hS.2.2 hdg C.2.2.2.2.2.2.2.1
theorem g_vret (C : gF X cc own none nL R) (Kf : kF X K) {σ' : St} (hR : gR X K (none) σ') (hσ : σ = σ') (hdg : decode cc pc = .ok (.return_, 1)) : gG X σ pc lv [] := by
  obtain ⟨⟨p, l, e, R0, s, m, args, below, meth, co⟩, D, wl, A, nL0, cells, slots, Q⟩ := X
  obtain ⟨h1, h2, hK, hst⟩ := Kf
  dsimp only at h1 h2 hK hst
  subst h1
  subst h2
  intro H locs ls hP hD hS hl
  subst hσ
  obtain ⟨r1, r2, r3⟩ := hR
  dsimp only at r1 r2 r3
  subst r1
  subst r2
  subst r3
  exact W.vret C.1 C.2.1 C.2.2.1 (fun t ht hW => ⟨⟨rfl, by rw [ht]; exact hP, hD⟩, hS.F ht⟩) hS.2.2 hdg C.2.2.2.2.2.2.2.1
theorem g_zret (C : gF X cc own (some .boolean) nL R) (Kf : kF X K) {r : Int32} {σ' : St} (hR : gR X K (some (.int r)) σ') (hσ : σ = σ') (hb : r = 0 ∨ r = 1) (hdg : decode cc pc = .ok (.ireturn, 1)) : gG X σ pc lv [.int r] := by
  obtain ⟨⟨p, l, e, R0, s, m, args, below, meth, co⟩, D, wl, A, nL0, cells, slots, Q⟩ := X
  obtain ⟨h1, h2, hK, hst⟩ := Kf
  dsimp only at h1 h2 hK hst
  subst h1
  subst h2
  intro H locs ls hP hD hS hl
  subst hσ
  obtain ⟨r1, r2, r3⟩ := hR
  dsimp only at r1 r2 r3
  subst r1
  subst r2
  subst r3
  exact W.zret C.1 C.2.1 C.2.2.1 (nar_b hb) (fun t ht hW => ⟨⟨rfl, by rw [ht]; exact hP, hD⟩, hS.F ht⟩) hS.2.2 hdg C.2.2.2.2.2.2.2.1
theorem g_aret (C : gF X cc own (some (.array .int)) nL R) (Kf : kF X K) {a : Nat} {σ' : St} (hR : gR X K (some (.ref a)) σ') (hσ : σ = σ') (hdg : decode cc pc = .ok (.areturn, 1)) : gG X σ pc lv [.ref a] := by
  obtain ⟨⟨p, l, e, R0, s, m, args, below, meth, co⟩, D, wl, A, nL0, cells, slots, Q⟩ := X
  obtain ⟨h1, h2, hK, hst⟩ := Kf
  dsimp only at h1 h2 hK hst
  subst h1
  subst h2
  intro H locs ls hP hD hS hl
  subst hσ
  obtain ⟨r1, r2, r3⟩ := hR
  dsimp only at r1 r2 r3
  subst r1
  subst r2
  subst r3
  exact W.aret C.1 C.2.1 C.2.2.1 (Or.inr ⟨_, rfl⟩) (Or.inr ⟨_, rfl⟩) (fun t ht hW => ⟨⟨rfl, by rw [ht]; exact hP, hD⟩, hS.F ht⟩) hS.2.2 hdg C.2.2.2.2.2.2.2.1
/-- what the tables say of a method -/
def miV (y : MethodName) (cb : ByteArray) (mL : Nat) (rt : Option FieldType) (n : Nat) : Prop := Cond.code y cb mL rt ∈ lw_tbl ∧ Cond.initialized y.cls ∈ lw_tbl ∧ Cond.instanceMethod y ∈ lw_tbl ∧ Cond.selects y.cls y y ∈ lw_tbl ∧ (y.cls ≠ "java/lang/invoke/MethodHandle" ∧ y.cls ≠ "java/lang/invoke/VarHandle") ∧ (parseMethodDescriptor y.desc).map (fun d => d.parameters.length) = some n
def miS (y : MethodName) (cb : ByteArray) (mL : Nat) (rt : Option FieldType) (n : Nat) : Prop := Cond.code y cb mL rt ∈ lw_tbl ∧ Cond.initialized y.cls ∈ lw_tbl ∧ Cond.static y ∈ lw_tbl ∧ (y.cls ≠ "java/lang/invoke/MethodHandle" ∧ y.cls ≠ "java/lang/invoke/VarHandle") ∧ (parseMethodDescriptor y.desc).map (fun d => d.parameters.length) = some n
def rmOK (rm R : Room) (mL : Nat) : Prop := rm.cells = 0 ∧ rm.slots = 0 ∧ rm.frames + 1 ≤ R.frames ∧ 8 + (mL + 11) + rm.locals ≤ R.locals
theorem gPre_blind (K : Kx) (σ : St) (sz : Nat) (as : List Value) : FrameBlind (va_Pc as (gPre K σ sz)) := by
  intro a U g mk h
  obtain ⟨h0, h1, h2, h3, h4, h5, h6⟩ := h
  exact ⟨h0, h1, h2, va_K.moved (u := U) (U := U.calling g mk a) (Vm.Alike.refl U.vm) h3, h4, tbOK.warm (U := U.calling g mk a) (State.WarmedH.refl U) h5, h6.to (U := U.calling g mk a) (locs := []) (Vm.Alike.refl U.vm) va_S.rf (fun _ h => h)⟩
/-- behind a call -/
theorem g_back {S : Type} {p : Program} {l : Launch} {e : Env} {R0 : Room} {s : State} {m : MethodId} {args : Array Value} {below : List Frame} {meth : Method} {co : Code} {A : Nat → Prop} {cells slots : Nat} {Q : State → Prop} {H : Heap} {locs : List Loc} {ls : Array Slot} {st rest : List Value} {a : Array Value} {K : Kx} {v : Option Value} {σ1 : St} {A1 : Nat → Prop} {pc : Nat}
    (hr : va_Run p l e R0 s m args below meth co H locs cells slots 0 0 (F0 m pc ls st) rest (gQ K v σ1 A1 a) A1) (hS : va_S A s.heap H locs) (hA : ∀ q, A1 q → A q)
    (kk : ∀ (H1 : Heap) (locs1 : List Loc), va_P K.1 vwCl (kwl K σ1) H1 → va_D A1 (kwl K σ1) → (∀ q : Nat, q < H.size → ¬ A1 q → H1[q]? = H[q]?) → va_S A s.heap H1 locs1 → W p l e R0 s m args below meth co H1 locs1 cells slots Q (F0 m (pc + 3) ls (v.toList ++ rest))) : W p l e R0 s m args below meth co H locs cells slots Q (F0 m pc ls st) := by
  intro T hT X
  obtain ⟨v', st₀, t, T', L, h0, X', hL, e1, e2, ⟨⟨hv, hp, hd⟩, hz, hk⟩, stp⟩ := hr T hT X
  cases hv
  rw [h0] at hz hk
  obtain ⟨t2, a1, b1⟩ := kk T'.heap (locs ++ L) (by rw [e1]; exact hp) hd (fun q h1 h2 => by rw [e1]; exact hk q h1 h2)
    ⟨Nat.le_trans hS.1 (by rw [e1]; exact hz), fun q h1 h2 => by rw [e1, hk q (Nat.lt_of_lt_of_le h1 hS.1) (fun z => h2 (hA q z))]; exact hS.2.1 q h1 h2, fun q hq => by
      rcases List.mem_append.mp hq with h | h
      · exact hS.2.2 q h
      · exact hA _ (hL q h)⟩ T' rfl X'
  exact ⟨t2, stp t2 a1, b1⟩
theorem kwl_free {K : Kx} {A : Nat → Prop} {H0 H : Heap} {locs : List Loc} {σ : St} (hD : va_D A (kwl K σ)) (hS : va_S A H0 H locs) (hA : ∀ q, H0.size ≤ q → A q) : ∀ q, va_A (kwl K σ) H.size q → A q := by
  intro q h
  rcases h with ⟨k, e, h⟩ | h
  · exact hD.2 k (q, e) h
  · exact hA q (Nat.le_trans hS.1 h)
theorem g_cV (C : gF X cc own ret nL R) (Kf : kF X K) {y : MethodName} {cb : ByteArray} {mL n : Nat} {rt : Option FieldType} {rm : Room} {v : Option Value} {σ1 : St} {rest : List Value} (As : List Value) (hm : mC K X.1.2.1 y cb mL rt rm (.ref (K.2.1 c) :: As) σ v σ1) (mi : miV y cb mL rt n) (hO : kO K c ci) (hcl : vwCl[ci]? = some (y.cls, T, N)) (hlk : Cond.methodLink own index y ∈ lw_tbl) (hrm : rmOK rm R mL) (hn : As.length = n) (hstack : st = As.reverse ++ .ref (K.2.1 c) :: rest) (hcat : (rest.map fun v => v.category).sum ≤ 8) (hdg : decode cc pc = .ok (.invokevirtual index, 3)) (kk : gG X σ1 (pc + 3) lv (v.toList ++ rest)) : gG X σ pc lv st := by
  obtain ⟨⟨p, l, e, R0, s, m, args, below, meth, co⟩, D, wl, A, nL0, cells, slots, Q⟩ := X
  obtain ⟨h1, h2, hK, hst⟩ := Kf
  dsimp only at h1 h2 hK hst
  subst h1
  subst h2
  intro H locs ls hP hD hS hl
  subst hstack
  have hR0 : R0 = R := C.2.2.2.2.2.2.2.2.2.1
  have hA := kwl_free hD hS C.2.2.2.2.2.2.1
  have hws : ∀ w ∈ [Cond.code y cb mL rt], ∀ (a' : Array Value) (U : State), s.WarmedH U.vm → w.before a' U = true := fun w hw a' U hW => by
    rw [List.mem_singleton.mp hw]
    exact tbOK.warm hW C.2.2.2.2.2.1 _ mi.1 rfl a'
  have hsig : ∀ sig, parseMethodDescriptor y.desc = some sig → n = sig.parameters.length := fun sig h => by
    have h2 := mi.2.2.2.2.2
    rw [h] at h2
    exact (Option.some.inj h2).symm
  have hpre : ∀ U : State, U.heap = H → s.WarmedH U.vm → va_Pc (.ref (K.2.1 c) :: As) (gPre K σ H.size) (((.ref (K.2.1 c) :: As) : List Value)).toArray U := fun U hU hW => by
    refine ⟨rfl, by rw [hU], by rw [hU]; exact hP, va_K.moved hW.alike hK, hD.weaken (fun _ _ _ _ => trivial), tbOK.warm hW C.2.2.2.2.2.1, ?_⟩
    exact hst.to (locs := locs) hW.alike (by rw [hU]; exact hS) hA
  obtain ⟨hcN, hOO⟩ := hO
  obtain ⟨fs, hfs0⟩ := hOO (σ.1 c) (σ.2 c)
  have hfs := kwl_at K σ hcN
  rw [hfs0] at hfs
  refine g_back (S := St) (rest := rest) (A1 := va_A (kwl K σ) H.size) (va_runV (Ts := []) (As := As) (rest := rest) (nL := nL0) (own := own) ⟨C.1, C.2.1, C.2.2.2.1, C.2.2.2.2.1, fun _ h => absurd h List.not_mem_nil⟩ (hm H.size) ⟨⟨hrm.1, hrm.2.1, by rw [hR0]; exact hrm.2.2.1, by rw [hR0]; exact hrm.2.2.2, hws, List.mem_singleton.mpr rfl, C.2.2.2.2.2.1 _ mi.1 rfl _, C.2.2.2.2.2.1 _ mi.2.1 rfl _, mi.2.2.2.2.1, hsig, C.2.2.2.2.2.1 _ hlk rfl _⟩, C.2.2.2.2.2.1 _ mi.2.2.1 rfl _, C.2.2.2.2.2.1 _ mi.2.2.2.1 rfl _⟩ ⟨gPre_blind K σ _ _, va_recv hK hP hcl hfs, hpre⟩ rfl hn hl.1 rfl (lv_room hcat) hdg ⟨C.2.2.2.2.2.2.2.2.2.2.1, C.2.2.2.2.2.2.2.2.2.2.2⟩) hS hA (fun H1 locs1 hP1 hD1 _ hS1 => ?_)
  exact kk H1 locs1 ls hP1 (hD1.weaken (fun _ q _ h => hA q.1 h)) hS1 hl
theorem g_cVN (C : gF X cc own ret nL R) (Kf : kF X K) {y : MethodName} {cb : ByteArray} {mL n : Nat} {rt : Option FieldType} {rm : Room} {v : Option Value} {σ1 : St} {rest : List Value} (As : List Value) (hm : mC K X.1.2.1 y cb mL rt rm (.ref (K.2.1 c) :: As) σ v σ1) (mi : miV y cb mL rt n) (hO : kO K c ci) (hcl : vwCl[ci]? = some (y.cls, T, N)) (hlk : Cond.methodLinkNest own index y host ∈ lw_tbl) (hrm : rmOK rm R mL) (hn : As.length = n) (hstack : st = As.reverse ++ .ref (K.2.1 c) :: rest) (hcat : (rest.map fun v => v.category).sum ≤ 8) (hdg : decode cc pc = .ok (.invokevirtual index, 3)) (kk : gG X σ1 (pc + 3) lv (v.toList ++ rest)) : gG X σ pc lv st := by
  obtain ⟨⟨p, l, e, R0, s, m, args, below, meth, co⟩, D, wl, A, nL0, cells, slots, Q⟩ := X
  obtain ⟨h1, h2, hK, hst⟩ := Kf
  dsimp only at h1 h2 hK hst
  subst h1
  subst h2
  intro H locs ls hP hD hS hl
  subst hstack
  have hR0 : R0 = R := C.2.2.2.2.2.2.2.2.2.1
  have hA := kwl_free hD hS C.2.2.2.2.2.2.1
  have hws : ∀ w ∈ [Cond.code y cb mL rt], ∀ (a' : Array Value) (U : State), s.WarmedH U.vm → w.before a' U = true := fun w hw a' U hW => by
    rw [List.mem_singleton.mp hw]
    exact tbOK.warm hW C.2.2.2.2.2.1 _ mi.1 rfl a'
  have hsig : ∀ sig, parseMethodDescriptor y.desc = some sig → n = sig.parameters.length := fun sig h => by
    have h2 := mi.2.2.2.2.2
    rw [h] at h2
    exact (Option.some.inj h2).symm
  have hpre : ∀ U : State, U.heap = H → s.WarmedH U.vm → va_Pc (.ref (K.2.1 c) :: As) (gPre K σ H.size) (((.ref (K.2.1 c) :: As) : List Value)).toArray U := fun U hU hW => by
    refine ⟨rfl, by rw [hU], by rw [hU]; exact hP, va_K.moved hW.alike hK, hD.weaken (fun _ _ _ _ => trivial), tbOK.warm hW C.2.2.2.2.2.1, ?_⟩
    exact hst.to (locs := locs) hW.alike (by rw [hU]; exact hS) hA
  obtain ⟨hcN, hOO⟩ := hO
  obtain ⟨fs, hfs0⟩ := hOO (σ.1 c) (σ.2 c)
  have hfs := kwl_at K σ hcN
  rw [hfs0] at hfs
  refine g_back (S := St) (rest := rest) (A1 := va_A (kwl K σ) H.size) (va_runVN (Ts := []) (As := As) (rest := rest) (nL := nL0) (own := own) ⟨C.1, C.2.1, C.2.2.2.1, C.2.2.2.2.1, fun _ h => absurd h List.not_mem_nil⟩ (hm H.size) ⟨⟨⟨hrm.1, hrm.2.1, by rw [hR0]; exact hrm.2.2.1, by rw [hR0]; exact hrm.2.2.2, hws, List.mem_singleton.mpr rfl⟩, C.2.2.2.2.2.1 _ mi.1 rfl _, C.2.2.2.2.2.1 _ mi.2.1 rfl _, mi.2.2.2.2.1, hsig, C.2.2.2.2.2.1 _ hlk rfl _⟩, C.2.2.2.2.2.1 _ mi.2.2.1 rfl _, C.2.2.2.2.2.1 _ mi.2.2.2.1 rfl _⟩ ⟨gPre_blind K σ _ _, va_recv hK hP hcl hfs, hpre⟩ rfl hn hl.1 rfl (lv_room hcat) hdg ⟨C.2.2.2.2.2.2.2.2.2.2.1, C.2.2.2.2.2.2.2.2.2.2.2⟩) hS hA (fun H1 locs1 hP1 hD1 _ hS1 => ?_)
  exact kk H1 locs1 ls hP1 (hD1.weaken (fun _ q _ h => hA q.1 h)) hS1 hl
theorem g_cS (C : gF X cc own ret nL R) (Kf : kF X K) {y : MethodName} {cb : ByteArray} {mL n : Nat} {rt : Option FieldType} {rm : Room} {v : Option Value} {σ1 : St} {rest : List Value} (As : List Value) (hm : mC K X.1.2.1 y cb mL rt rm As σ v σ1) (mi : miS y cb mL rt n) (hlk : Cond.methodLink own index y ∈ lw_tbl) (hrm : rmOK rm R mL) (hn : As.length = n) (hstack : st = As.reverse ++ rest) (hcat : (rest.map fun v => v.category).sum ≤ 8) (hdg : decode cc pc = .ok (.invokestatic index, 3)) (kk : gG X σ1 (pc + 3) lv (v.toList ++ rest)) : gG X σ pc lv st := by
  obtain ⟨⟨p, l, e, R0, s, m, args, below, meth, co⟩, D, wl, A, nL0, cells, slots, Q⟩ := X
  obtain ⟨h1, h2, hK, hst⟩ := Kf
  dsimp only at h1 h2 hK hst
  subst h1
  subst h2
  intro H locs ls hP hD hS hl
  subst hstack
  have hR0 : R0 = R := C.2.2.2.2.2.2.2.2.2.1
  have hA := kwl_free hD hS C.2.2.2.2.2.2.1
  have hws : ∀ w ∈ [Cond.code y cb mL rt], ∀ (a' : Array Value) (U : State), s.WarmedH U.vm → w.before a' U = true := fun w hw a' U hW => by
    rw [List.mem_singleton.mp hw]
    exact tbOK.warm hW C.2.2.2.2.2.1 _ mi.1 rfl a'
  have hsig : ∀ sig, parseMethodDescriptor y.desc = some sig → n = sig.parameters.length := fun sig h => by
    have h2 := mi.2.2.2.2
    rw [h] at h2
    exact (Option.some.inj h2).symm
  have hpre : ∀ U : State, U.heap = H → s.WarmedH U.vm → va_Pc As (gPre K σ H.size) ((As : List Value)).toArray U := fun U hU hW => by
    refine ⟨rfl, by rw [hU], by rw [hU]; exact hP, va_K.moved hW.alike hK, hD.weaken (fun _ _ _ _ => trivial), tbOK.warm hW C.2.2.2.2.2.1, ?_⟩
    exact hst.to (locs := locs) hW.alike (by rw [hU]; exact hS) hA
  refine g_back (S := St) (rest := rest) (A1 := va_A (kwl K σ) H.size) (va_runS (Ts := []) (As := As) (rest := rest) (nL := nL0) (own := own) ⟨C.1, C.2.1, C.2.2.2.1, C.2.2.2.2.1, fun _ h => absurd h List.not_mem_nil⟩ (hm H.size) ⟨⟨hrm.1, hrm.2.1, by rw [hR0]; exact hrm.2.2.1, by rw [hR0]; exact hrm.2.2.2, hws, List.mem_singleton.mpr rfl, C.2.2.2.2.2.1 _ mi.1 rfl _, C.2.2.2.2.2.1 _ mi.2.1 rfl _, mi.2.2.2.1, hsig, C.2.2.2.2.2.1 _ hlk rfl _⟩, C.2.2.2.2.2.1 _ mi.2.2.1 rfl _⟩ ⟨gPre_blind K σ _ _, hpre⟩ rfl hn hl.1 rfl (lv_room hcat) hdg ⟨C.2.2.2.2.2.2.2.2.2.2.1, C.2.2.2.2.2.2.2.2.2.2.2⟩) hS hA (fun H1 locs1 hP1 hD1 _ hS1 => ?_)
  exact kk H1 locs1 ls hP1 (hD1.weaken (fun _ q _ h => hA q.1 h)) hS1 hl
theorem g_cSN (C : gF X cc own ret nL R) (Kf : kF X K) {y : MethodName} {cb : ByteArray} {mL n : Nat} {rt : Option FieldType} {rm : Room} {v : Option Value} {σ1 : St} {rest : List Value} (As : List Value) (hm : mC K X.1.2.1 y cb mL rt rm As σ v σ1) (mi : miS y cb mL rt n) (hlk : Cond.methodLinkNest own index y host ∈ lw_tbl) (hrm : rmOK rm R mL) (hn : As.length = n) (hstack : st = As.reverse ++ rest) (hcat : (rest.map fun v => v.category).sum ≤ 8) (hdg : decode cc pc = .ok (.invokestatic index, 3)) (kk : gG X σ1 (pc + 3) lv (v.toList ++ rest)) : gG X σ pc lv st := by
  obtain ⟨⟨p, l, e, R0, s, m, args, below, meth, co⟩, D, wl, A, nL0, cells, slots, Q⟩ := X
  obtain ⟨h1, h2, hK, hst⟩ := Kf
  dsimp only at h1 h2 hK hst
  subst h1
  subst h2
  intro H locs ls hP hD hS hl
  subst hstack
  have hR0 : R0 = R := C.2.2.2.2.2.2.2.2.2.1
  have hA := kwl_free hD hS C.2.2.2.2.2.2.1
  have hws : ∀ w ∈ [Cond.code y cb mL rt], ∀ (a' : Array Value) (U : State), s.WarmedH U.vm → w.before a' U = true := fun w hw a' U hW => by
    rw [List.mem_singleton.mp hw]
    exact tbOK.warm hW C.2.2.2.2.2.1 _ mi.1 rfl a'
  have hsig : ∀ sig, parseMethodDescriptor y.desc = some sig → n = sig.parameters.length := fun sig h => by
    have h2 := mi.2.2.2.2
    rw [h] at h2
    exact (Option.some.inj h2).symm
  have hpre : ∀ U : State, U.heap = H → s.WarmedH U.vm → va_Pc As (gPre K σ H.size) ((As : List Value)).toArray U := fun U hU hW => by
    refine ⟨rfl, by rw [hU], by rw [hU]; exact hP, va_K.moved hW.alike hK, hD.weaken (fun _ _ _ _ => trivial), tbOK.warm hW C.2.2.2.2.2.1, ?_⟩
    exact hst.to (locs := locs) hW.alike (by rw [hU]; exact hS) hA
  refine g_back (S := St) (rest := rest) (A1 := va_A (kwl K σ) H.size) (va_runSN (Ts := []) (As := As) (rest := rest) (nL := nL0) (own := own) ⟨C.1, C.2.1, C.2.2.2.1, C.2.2.2.2.1, fun _ h => absurd h List.not_mem_nil⟩ (hm H.size) ⟨⟨⟨hrm.1, hrm.2.1, by rw [hR0]; exact hrm.2.2.1, by rw [hR0]; exact hrm.2.2.2, hws, List.mem_singleton.mpr rfl⟩, C.2.2.2.2.2.1 _ mi.1 rfl _, C.2.2.2.2.2.1 _ mi.2.1 rfl _, mi.2.2.2.1, hsig, C.2.2.2.2.2.1 _ hlk rfl _⟩, C.2.2.2.2.2.1 _ mi.2.2.1 rfl _, trivial⟩ ⟨gPre_blind K σ _ _, hpre⟩ rfl hn hl.1 rfl (lv_room hcat) hdg ⟨C.2.2.2.2.2.2.2.2.2.2.1, C.2.2.2.2.2.2.2.2.2.2.2⟩) hS hA (fun H1 locs1 hP1 hD1 _ hS1 => ?_)
  exact kk H1 locs1 ls hP1 (hD1.weaken (fun _ q _ h => hA q.1 h)) hS1 hl
end GH
/-- a method's contract out of its walk -/
theorem g_entry {K : Kx} {l : Launch} {y : MethodName} {cc : ByteArray} {maxL : Nat} {ret : Option FieldType} {rm : Room} {as : List Value} {σ : St} {v : Option Value} {σ' : St} (hy : plainName y.cls = true) (hlen : (lg_sl as).length ≤ maxL)
    (body : ∀ X : Gx St, X.1.2.1 = l → gF X cc y.cls ret maxL rm → kF X K → gR X K v σ' → gG X σ 0 (lv_args 0 as) []) : mC K l y cc maxL ret rm as σ v σ' := by
  intro sz
  refine Met.ofW (cc := cc) (maxL := maxL) (ret := ret) hy rfl ?_
  intro p e s m args below meth c s₁ B hml hv
  obtain ⟨rfl, hsz, hP, hK, hD0, htb, hst⟩ := hv
  subst hsz
  have hD := hD0.self (sz := s.heap.size)
  have hA : ∀ q : Nat, s.heap.size ≤ q → va_A (kwl K σ) s.heap.size q := fun q h => Or.inr h
  have hl := lv_entry as (n := maxL) hlen
  rw [lg_entry_eq]
  exact body ((p, l, e, rm, s, m, as.toArray, below, meth, c), K.1, kwl K, va_A (kwl K σ) s.heap.size, maxL, 0, 0, MQ below (gQ K v σ' (va_A (kwl K σ) s.heap.size)) as.toArray s 0 0 (va_A (kwl K σ) s.heap.size)) rfl
    ⟨B.exec, B.bytes, B.returns, hml, findClass_of_methodNamed B.named, htb, hA, B.notSynchronized, rfl, rfl, Nat.zero_le _, Nat.zero_le _⟩ ⟨rfl, rfl, hK, hst⟩ ⟨rfl, rfl, rfl⟩ s.heap [] _ hP hD va_S.rf hl
end
