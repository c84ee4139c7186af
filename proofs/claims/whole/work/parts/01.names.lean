-- ===== PART A: goes FIRST, ahead of the names: the tables' words, and 'selects' of the private methods out of them =====
/-- a private method of a class that the tables say can be made, by its rows of tables_1 -/
def lw_okq (q : MethodName × Nat) : Prop := (q.1.cls ≠ "java/lang/invoke/MethodHandle" ∧ q.1.cls ≠ "java/lang/invoke/VarHandle") ∧ Cond.instantiable q.1.cls q.2 ∈ tables_1 ∧ Cond.privateMethod q.1 ∈ tables_1 ∧ Cond.instanceMethod q.1 ∈ tables_1
theorem lw_p0 : lw_okq (⟨"TownPlayers", "refuseBad", "(I)I"⟩, 18) := ⟨⟨by decide +kernel, by decide +kernel⟩, List.mem_of_getElem? (i := 17) (by decide +kernel), List.mem_of_getElem? (i := 289) (by decide +kernel), List.mem_of_getElem? (i := 290) (by decide +kernel)⟩
theorem lw_p1 : lw_okq (⟨"TownPlayers", "refuseFull", "()I"⟩, 18) := ⟨⟨by decide +kernel, by decide +kernel⟩, List.mem_of_getElem? (i := 17) (by decide +kernel), List.mem_of_getElem? (i := 293) (by decide +kernel), List.mem_of_getElem? (i := 294) (by decide +kernel)⟩
theorem lw_p2 : lw_okq (⟨"TownPlayers", "hasWindow", "(I)Z"⟩, 18) := ⟨⟨by decide +kernel, by decide +kernel⟩, List.mem_of_getElem? (i := 17) (by decide +kernel), List.mem_of_getElem? (i := 325) (by decide +kernel), List.mem_of_getElem? (i := 326) (by decide +kernel)⟩
theorem lw_p3 : lw_okq (⟨"TownPlayers", "hasPlayer", "(I)Z"⟩, 18) := ⟨⟨by decide +kernel, by decide +kernel⟩, List.mem_of_getElem? (i := 17) (by decide +kernel), List.mem_of_getElem? (i := 341) (by decide +kernel), List.mem_of_getElem? (i := 342) (by decide +kernel)⟩
theorem lw_p4 : lw_okq (⟨"TownPlayers", "hasEar", "(I)Z"⟩, 18) := ⟨⟨by decide +kernel, by decide +kernel⟩, List.mem_of_getElem? (i := 17) (by decide +kernel), List.mem_of_getElem? (i := 357) (by decide +kernel), List.mem_of_getElem? (i := 358) (by decide +kernel)⟩
theorem lw_p5 : lw_okq (⟨"TownPlayers$Reader", "takeToken", "()V"⟩, 7) := ⟨⟨by decide +kernel, by decide +kernel⟩, List.mem_of_getElem? (i := 194) (by decide +kernel), List.mem_of_getElem? (i := 412) (by decide +kernel), List.mem_of_getElem? (i := 413) (by decide +kernel)⟩
theorem lw_p6 : lw_okq (⟨"TownPlayers$Reader", "takeWord", "()V"⟩, 7) := ⟨⟨by decide +kernel, by decide +kernel⟩, List.mem_of_getElem? (i := 194) (by decide +kernel), List.mem_of_getElem? (i := 419) (by decide +kernel), List.mem_of_getElem? (i := 420) (by decide +kernel)⟩
theorem lw_p7 : lw_okq (⟨"TownPlayers$Reader", "takeFigures", "()V"⟩, 7) := ⟨⟨by decide +kernel, by decide +kernel⟩, List.mem_of_getElem? (i := 194) (by decide +kernel), List.mem_of_getElem? (i := 426) (by decide +kernel), List.mem_of_getElem? (i := 427) (by decide +kernel)⟩
theorem lw_p8 : lw_okq (⟨"TownPlayers$Reader", "takeSign", "()V"⟩, 7) := ⟨⟨by decide +kernel, by decide +kernel⟩, List.mem_of_getElem? (i := 194) (by decide +kernel), List.mem_of_getElem? (i := 430) (by decide +kernel), List.mem_of_getElem? (i := 431) (by decide +kernel)⟩
theorem lw_p9 : lw_okq (⟨"TownPlayers$Reader", "readItem", "(LTownPlayers$Streets;LTownPlayers$Band;)Z"⟩, 7) := ⟨⟨by decide +kernel, by decide +kernel⟩, List.mem_of_getElem? (i := 194) (by decide +kernel), List.mem_of_getElem? (i := 434) (by decide +kernel), List.mem_of_getElem? (i := 435) (by decide +kernel)⟩
theorem lw_p10 : lw_okq (⟨"TownPlayers$Reader", "isWord", "(Ljava/lang/String;)Z"⟩, 7) := ⟨⟨by decide +kernel, by decide +kernel⟩, List.mem_of_getElem? (i := 194) (by decide +kernel), List.mem_of_getElem? (i := 439) (by decide +kernel), List.mem_of_getElem? (i := 440) (by decide +kernel)⟩
theorem lw_p11 : lw_okq (⟨"TownPlayers$Reader", "readWindow", "(LTownPlayers$Streets;)Z"⟩, 7) := ⟨⟨by decide +kernel, by decide +kernel⟩, List.mem_of_getElem? (i := 194) (by decide +kernel), List.mem_of_getElem? (i := 491) (by decide +kernel), List.mem_of_getElem? (i := 492) (by decide +kernel)⟩
theorem lw_p12 : lw_okq (⟨"TownPlayers$Reader", "takeNumber", "(II)Z"⟩, 7) := ⟨⟨by decide +kernel, by decide +kernel⟩, List.mem_of_getElem? (i := 194) (by decide +kernel), List.mem_of_getElem? (i := 495) (by decide +kernel), List.mem_of_getElem? (i := 496) (by decide +kernel)⟩
theorem lw_p13 : lw_okq (⟨"TownPlayers$Reader", "isNumber", "(II)Z"⟩, 7) := ⟨⟨by decide +kernel, by decide +kernel⟩, List.mem_of_getElem? (i := 194) (by decide +kernel), List.mem_of_getElem? (i := 499) (by decide +kernel), List.mem_of_getElem? (i := 500) (by decide +kernel)⟩
theorem lw_p14 : lw_okq (⟨"TownPlayers$Reader", "takeStop", "()Z"⟩, 7) := ⟨⟨by decide +kernel, by decide +kernel⟩, List.mem_of_getElem? (i := 194) (by decide +kernel), List.mem_of_getElem? (i := 505) (by decide +kernel), List.mem_of_getElem? (i := 506) (by decide +kernel)⟩
theorem lw_p15 : lw_okq (⟨"TownPlayers$Reader", "readEar", "(LTownPlayers$Streets;)Z"⟩, 7) := ⟨⟨by decide +kernel, by decide +kernel⟩, List.mem_of_getElem? (i := 194) (by decide +kernel), List.mem_of_getElem? (i := 510) (by decide +kernel), List.mem_of_getElem? (i := 511) (by decide +kernel)⟩
def lw_privs_1 : List (MethodName × Nat) := [(⟨"TownPlayers", "refuseBad", "(I)I"⟩, 18), (⟨"TownPlayers", "refuseFull", "()I"⟩, 18), (⟨"TownPlayers", "hasWindow", "(I)Z"⟩, 18), (⟨"TownPlayers", "hasPlayer", "(I)Z"⟩, 18), (⟨"TownPlayers", "hasEar", "(I)Z"⟩, 18), (⟨"TownPlayers$Reader", "takeToken", "()V"⟩, 7), (⟨"TownPlayers$Reader", "takeWord", "()V"⟩, 7), (⟨"TownPlayers$Reader", "takeFigures", "()V"⟩, 7), (⟨"TownPlayers$Reader", "takeSign", "()V"⟩, 7), (⟨"TownPlayers$Reader", "readItem", "(LTownPlayers$Streets;LTownPlayers$Band;)Z"⟩, 7), (⟨"TownPlayers$Reader", "isWord", "(Ljava/lang/String;)Z"⟩, 7), (⟨"TownPlayers$Reader", "readWindow", "(LTownPlayers$Streets;)Z"⟩, 7), (⟨"TownPlayers$Reader", "takeNumber", "(II)Z"⟩, 7), (⟨"TownPlayers$Reader", "isNumber", "(II)Z"⟩, 7), (⟨"TownPlayers$Reader", "takeStop", "()Z"⟩, 7), (⟨"TownPlayers$Reader", "readEar", "(LTownPlayers$Streets;)Z"⟩, 7)]
theorem lw_r1 : ∀ q ∈ lw_privs_1, lw_okq q := List.forall_mem_cons.mpr ⟨lw_p0, List.forall_mem_cons.mpr ⟨lw_p1, List.forall_mem_cons.mpr ⟨lw_p2, List.forall_mem_cons.mpr ⟨lw_p3, List.forall_mem_cons.mpr ⟨lw_p4, List.forall_mem_cons.mpr ⟨lw_p5, List.forall_mem_cons.mpr ⟨lw_p6, List.forall_mem_cons.mpr ⟨lw_p7, List.forall_mem_cons.mpr ⟨lw_p8, List.forall_mem_cons.mpr ⟨lw_p9, List.forall_mem_cons.mpr ⟨lw_p10, List.forall_mem_cons.mpr ⟨lw_p11, List.forall_mem_cons.mpr ⟨lw_p12, List.forall_mem_cons.mpr ⟨lw_p13, List.forall_mem_cons.mpr ⟨lw_p14, List.forall_mem_cons.mpr ⟨lw_p15, fun _ h => absurd h List.not_mem_nil⟩⟩⟩⟩⟩⟩⟩⟩⟩⟩⟩⟩⟩⟩⟩⟩
theorem lw_p16 : lw_okq (⟨"TownPlayers$Reader", "readMill", "(LTownPlayers$Streets;)Z"⟩, 7) := ⟨⟨by decide +kernel, by decide +kernel⟩, List.mem_of_getElem? (i := 194) (by decide +kernel), List.mem_of_getElem? (i := 516) (by decide +kernel), List.mem_of_getElem? (i := 517) (by decide +kernel)⟩
theorem lw_p17 : lw_okq (⟨"TownPlayers$Reader", "readSlow", "(LTownPlayers$Streets;)Z"⟩, 7) := ⟨⟨by decide +kernel, by decide +kernel⟩, List.mem_of_getElem? (i := 194) (by decide +kernel), List.mem_of_getElem? (i := 522) (by decide +kernel), List.mem_of_getElem? (i := 523) (by decide +kernel)⟩
theorem lw_p18 : lw_okq (⟨"TownPlayers$Reader", "readPlayer", "(LTownPlayers$Streets;LTownPlayers$Band;)Z"⟩, 7) := ⟨⟨by decide +kernel, by decide +kernel⟩, List.mem_of_getElem? (i := 194) (by decide +kernel), List.mem_of_getElem? (i := 527) (by decide +kernel), List.mem_of_getElem? (i := 528) (by decide +kernel)⟩
theorem lw_p19 : lw_okq (⟨"TownPlayers$Reader", "readOffset", "(LTownPlayers$Band;)Z"⟩, 7) := ⟨⟨by decide +kernel, by decide +kernel⟩, List.mem_of_getElem? (i := 194) (by decide +kernel), List.mem_of_getElem? (i := 534) (by decide +kernel), List.mem_of_getElem? (i := 535) (by decide +kernel)⟩
theorem lw_p20 : lw_okq (⟨"TownPlayers$Hearing", "add", "(III)V"⟩, 4) := ⟨⟨by decide +kernel, by decide +kernel⟩, List.mem_of_getElem? (i := 137) (by decide +kernel), List.mem_of_getElem? (i := 560) (by decide +kernel), List.mem_of_getElem? (i := 561) (by decide +kernel)⟩
theorem lw_p21 : lw_okq (⟨"TownPlayers", "isTogether", "(I)Z"⟩, 18) := ⟨⟨by decide +kernel, by decide +kernel⟩, List.mem_of_getElem? (i := 17) (by decide +kernel), List.mem_of_getElem? (i := 602) (by decide +kernel), List.mem_of_getElem? (i := 603) (by decide +kernel)⟩
theorem lw_p22 : lw_okq (⟨"TownPlayers", "everyPlayer", "()I"⟩, 18) := ⟨⟨by decide +kernel, by decide +kernel⟩, List.mem_of_getElem? (i := 17) (by decide +kernel), List.mem_of_getElem? (i := 617) (by decide +kernel), List.mem_of_getElem? (i := 618) (by decide +kernel)⟩
theorem lw_p23 : lw_okq (⟨"TownPlayers$Tuner", "neededLate", "(LTownPlayers$Band;II)I"⟩, 2) := ⟨⟨by decide +kernel, by decide +kernel⟩, List.mem_of_getElem? (i := 161) (by decide +kernel), List.mem_of_getElem? (i := 631) (by decide +kernel), List.mem_of_getElem? (i := 632) (by decide +kernel)⟩
theorem lw_p24 : lw_okq (⟨"TownPlayers", "refuseNo", "()I"⟩, 18) := ⟨⟨by decide +kernel, by decide +kernel⟩, List.mem_of_getElem? (i := 17) (by decide +kernel), List.mem_of_getElem? (i := 685) (by decide +kernel), List.mem_of_getElem? (i := 686) (by decide +kernel)⟩
theorem lw_p25 : lw_okq (⟨"TownPlayers$Seating", "judge", "(LTownPlayers$Streets;LTownPlayers$Band;LTownPlayers$Hearing;I)V"⟩, 4) := ⟨⟨by decide +kernel, by decide +kernel⟩, List.mem_of_getElem? (i := 174) (by decide +kernel), List.mem_of_getElem? (i := 724) (by decide +kernel), List.mem_of_getElem? (i := 725) (by decide +kernel)⟩
theorem lw_p26 : lw_okq (⟨"TownPlayers", "howMany", "(I)I"⟩, 18) := ⟨⟨by decide +kernel, by decide +kernel⟩, List.mem_of_getElem? (i := 17) (by decide +kernel), List.mem_of_getElem? (i := 768) (by decide +kernel), List.mem_of_getElem? (i := 769) (by decide +kernel)⟩
theorem lw_p27 : lw_okq (⟨"TownPlayersModel", "bad", "(I)I"⟩, 23) := ⟨⟨by decide +kernel, by decide +kernel⟩, List.mem_of_getElem? (i := 788) (by decide +kernel), List.mem_of_getElem? (i := 876) (by decide +kernel), List.mem_of_getElem? (i := 877) (by decide +kernel)⟩
theorem lw_p28 : lw_okq (⟨"TownPlayersModel", "windows", "()I"⟩, 23) := ⟨⟨by decide +kernel, by decide +kernel⟩, List.mem_of_getElem? (i := 788) (by decide +kernel), List.mem_of_getElem? (i := 880) (by decide +kernel), List.mem_of_getElem? (i := 881) (by decide +kernel)⟩
theorem lw_p29 : lw_okq (⟨"TownPlayersModel", "full", "()I"⟩, 23) := ⟨⟨by decide +kernel, by decide +kernel⟩, List.mem_of_getElem? (i := 788) (by decide +kernel), List.mem_of_getElem? (i := 884) (by decide +kernel), List.mem_of_getElem? (i := 885) (by decide +kernel)⟩
theorem lw_p30 : lw_okq (⟨"TownPlayersModel", "ears", "()I"⟩, 23) := ⟨⟨by decide +kernel, by decide +kernel⟩, List.mem_of_getElem? (i := 788) (by decide +kernel), List.mem_of_getElem? (i := 892) (by decide +kernel), List.mem_of_getElem? (i := 893) (by decide +kernel)⟩
theorem lw_p31 : lw_okq (⟨"TownPlayersModel", "isWindow", "(I)Z"⟩, 23) := ⟨⟨by decide +kernel, by decide +kernel⟩, List.mem_of_getElem? (i := 788) (by decide +kernel), List.mem_of_getElem? (i := 916) (by decide +kernel), List.mem_of_getElem? (i := 917) (by decide +kernel)⟩
def lw_privs_2 : List (MethodName × Nat) := [(⟨"TownPlayers$Reader", "readMill", "(LTownPlayers$Streets;)Z"⟩, 7), (⟨"TownPlayers$Reader", "readSlow", "(LTownPlayers$Streets;)Z"⟩, 7), (⟨"TownPlayers$Reader", "readPlayer", "(LTownPlayers$Streets;LTownPlayers$Band;)Z"⟩, 7), (⟨"TownPlayers$Reader", "readOffset", "(LTownPlayers$Band;)Z"⟩, 7), (⟨"TownPlayers$Hearing", "add", "(III)V"⟩, 4), (⟨"TownPlayers", "isTogether", "(I)Z"⟩, 18), (⟨"TownPlayers", "everyPlayer", "()I"⟩, 18), (⟨"TownPlayers$Tuner", "neededLate", "(LTownPlayers$Band;II)I"⟩, 2), (⟨"TownPlayers", "refuseNo", "()I"⟩, 18), (⟨"TownPlayers$Seating", "judge", "(LTownPlayers$Streets;LTownPlayers$Band;LTownPlayers$Hearing;I)V"⟩, 4), (⟨"TownPlayers", "howMany", "(I)I"⟩, 18), (⟨"TownPlayersModel", "bad", "(I)I"⟩, 23), (⟨"TownPlayersModel", "windows", "()I"⟩, 23), (⟨"TownPlayersModel", "full", "()I"⟩, 23), (⟨"TownPlayersModel", "ears", "()I"⟩, 23), (⟨"TownPlayersModel", "isWindow", "(I)Z"⟩, 23)]
theorem lw_r2 : ∀ q ∈ lw_privs_2, lw_okq q := List.forall_mem_cons.mpr ⟨lw_p16, List.forall_mem_cons.mpr ⟨lw_p17, List.forall_mem_cons.mpr ⟨lw_p18, List.forall_mem_cons.mpr ⟨lw_p19, List.forall_mem_cons.mpr ⟨lw_p20, List.forall_mem_cons.mpr ⟨lw_p21, List.forall_mem_cons.mpr ⟨lw_p22, List.forall_mem_cons.mpr ⟨lw_p23, List.forall_mem_cons.mpr ⟨lw_p24, List.forall_mem_cons.mpr ⟨lw_p25, List.forall_mem_cons.mpr ⟨lw_p26, List.forall_mem_cons.mpr ⟨lw_p27, List.forall_mem_cons.mpr ⟨lw_p28, List.forall_mem_cons.mpr ⟨lw_p29, List.forall_mem_cons.mpr ⟨lw_p30, List.forall_mem_cons.mpr ⟨lw_p31, fun _ h => absurd h List.not_mem_nil⟩⟩⟩⟩⟩⟩⟩⟩⟩⟩⟩⟩⟩⟩⟩⟩
theorem lw_p32 : lw_okq (⟨"TownPlayersModel", "isTaken", "(I)Z"⟩, 23) := ⟨⟨by decide +kernel, by decide +kernel⟩, List.mem_of_getElem? (i := 788) (by decide +kernel), List.mem_of_getElem? (i := 920) (by decide +kernel), List.mem_of_getElem? (i := 921) (by decide +kernel)⟩
theorem lw_p33 : lw_okq (⟨"TownPlayersModel", "players", "()I"⟩, 23) := ⟨⟨by decide +kernel, by decide +kernel⟩, List.mem_of_getElem? (i := 788) (by decide +kernel), List.mem_of_getElem? (i := 924) (by decide +kernel), List.mem_of_getElem? (i := 925) (by decide +kernel)⟩
theorem lw_p34 : lw_okq (⟨"TownPlayersModel", "of", "(II)I"⟩, 23) := ⟨⟨by decide +kernel, by decide +kernel⟩, List.mem_of_getElem? (i := 788) (by decide +kernel), List.mem_of_getElem? (i := 928) (by decide +kernel), List.mem_of_getElem? (i := 929) (by decide +kernel)⟩
theorem lw_p35 : lw_okq (⟨"TownPlayersModel", "isPlayer", "(I)Z"⟩, 23) := ⟨⟨by decide +kernel, by decide +kernel⟩, List.mem_of_getElem? (i := 788) (by decide +kernel), List.mem_of_getElem? (i := 939) (by decide +kernel), List.mem_of_getElem? (i := 940) (by decide +kernel)⟩
theorem lw_p36 : lw_okq (⟨"TownPlayersModel", "lateOf", "(I)I"⟩, 23) := ⟨⟨by decide +kernel, by decide +kernel⟩, List.mem_of_getElem? (i := 788) (by decide +kernel), List.mem_of_getElem? (i := 952) (by decide +kernel), List.mem_of_getElem? (i := 953) (by decide +kernel)⟩
theorem lw_p37 : lw_okq (⟨"TownPlayersModel", "isEar", "(I)Z"⟩, 23) := ⟨⟨by decide +kernel, by decide +kernel⟩, List.mem_of_getElem? (i := 788) (by decide +kernel), List.mem_of_getElem? (i := 963) (by decide +kernel), List.mem_of_getElem? (i := 964) (by decide +kernel)⟩
theorem lw_p38 : lw_okq (⟨"TownPlayersModel", "soundOf", "(II)I"⟩, 23) := ⟨⟨by decide +kernel, by decide +kernel⟩, List.mem_of_getElem? (i := 788) (by decide +kernel), List.mem_of_getElem? (i := 967) (by decide +kernel), List.mem_of_getElem? (i := 968) (by decide +kernel)⟩
theorem lw_p39 : lw_okq (⟨"TownPlayersModel", "paces", "(II)I"⟩, 23) := ⟨⟨by decide +kernel, by decide +kernel⟩, List.mem_of_getElem? (i := 788) (by decide +kernel), List.mem_of_getElem? (i := 971) (by decide +kernel), List.mem_of_getElem? (i := 972) (by decide +kernel)⟩
theorem lw_p40 : lw_okq (⟨"TownPlayersModel", "layAll", "(I)V"⟩, 23) := ⟨⟨by decide +kernel, by decide +kernel⟩, List.mem_of_getElem? (i := 788) (by decide +kernel), List.mem_of_getElem? (i := 984) (by decide +kernel), List.mem_of_getElem? (i := 985) (by decide +kernel)⟩
theorem lw_p41 : lw_okq (⟨"TownPlayersModel", "isAwake", "(I)Z"⟩, 23) := ⟨⟨by decide +kernel, by decide +kernel⟩, List.mem_of_getElem? (i := 788) (by decide +kernel), List.mem_of_getElem? (i := 988) (by decide +kernel), List.mem_of_getElem? (i := 989) (by decide +kernel)⟩
theorem lw_p42 : lw_okq (⟨"TownPlayersModel", "layOf", "(II)V"⟩, 23) := ⟨⟨by decide +kernel, by decide +kernel⟩, List.mem_of_getElem? (i := 788) (by decide +kernel), List.mem_of_getElem? (i := 992) (by decide +kernel), List.mem_of_getElem? (i := 993) (by decide +kernel)⟩
theorem lw_p43 : lw_okq (⟨"TownPlayersModel", "laySound", "(III)V"⟩, 23) := ⟨⟨by decide +kernel, by decide +kernel⟩, List.mem_of_getElem? (i := 788) (by decide +kernel), List.mem_of_getElem? (i := 996) (by decide +kernel), List.mem_of_getElem? (i := 997) (by decide +kernel)⟩
theorem lw_p44 : lw_okq (⟨"TownPlayersModel", "spreadOf", "(I)I"⟩, 23) := ⟨⟨by decide +kernel, by decide +kernel⟩, List.mem_of_getElem? (i := 788) (by decide +kernel), List.mem_of_getElem? (i := 1009) (by decide +kernel), List.mem_of_getElem? (i := 1010) (by decide +kernel)⟩
theorem lw_p45 : lw_okq (⟨"TownPlayersModel", "isTogether", "(I)Z"⟩, 23) := ⟨⟨by decide +kernel, by decide +kernel⟩, List.mem_of_getElem? (i := 788) (by decide +kernel), List.mem_of_getElem? (i := 1022) (by decide +kernel), List.mem_of_getElem? (i := 1023) (by decide +kernel)⟩
theorem lw_p46 : lw_okq (⟨"TownPlayersModel", "canTune", "(I)Z"⟩, 23) := ⟨⟨by decide +kernel, by decide +kernel⟩, List.mem_of_getElem? (i := 788) (by decide +kernel), List.mem_of_getElem? (i := 1030) (by decide +kernel), List.mem_of_getElem? (i := 1031) (by decide +kernel)⟩
theorem lw_p47 : lw_okq (⟨"TownPlayersModel", "raiseAt", "(I)I"⟩, 23) := ⟨⟨by decide +kernel, by decide +kernel⟩, List.mem_of_getElem? (i := 788) (by decide +kernel), List.mem_of_getElem? (i := 1034) (by decide +kernel), List.mem_of_getElem? (i := 1035) (by decide +kernel)⟩
def lw_privs_3 : List (MethodName × Nat) := [(⟨"TownPlayersModel", "isTaken", "(I)Z"⟩, 23), (⟨"TownPlayersModel", "players", "()I"⟩, 23), (⟨"TownPlayersModel", "of", "(II)I"⟩, 23), (⟨"TownPlayersModel", "isPlayer", "(I)Z"⟩, 23), (⟨"TownPlayersModel", "lateOf", "(I)I"⟩, 23), (⟨"TownPlayersModel", "isEar", "(I)Z"⟩, 23), (⟨"TownPlayersModel", "soundOf", "(II)I"⟩, 23), (⟨"TownPlayersModel", "paces", "(II)I"⟩, 23), (⟨"TownPlayersModel", "layAll", "(I)V"⟩, 23), (⟨"TownPlayersModel", "isAwake", "(I)Z"⟩, 23), (⟨"TownPlayersModel", "layOf", "(II)V"⟩, 23), (⟨"TownPlayersModel", "laySound", "(III)V"⟩, 23), (⟨"TownPlayersModel", "spreadOf", "(I)I"⟩, 23), (⟨"TownPlayersModel", "isTogether", "(I)Z"⟩, 23), (⟨"TownPlayersModel", "canTune", "(I)Z"⟩, 23), (⟨"TownPlayersModel", "raiseAt", "(I)I"⟩, 23)]
theorem lw_r3 : ∀ q ∈ lw_privs_3, lw_okq q := List.forall_mem_cons.mpr ⟨lw_p32, List.forall_mem_cons.mpr ⟨lw_p33, List.forall_mem_cons.mpr ⟨lw_p34, List.forall_mem_cons.mpr ⟨lw_p35, List.forall_mem_cons.mpr ⟨lw_p36, List.forall_mem_cons.mpr ⟨lw_p37, List.forall_mem_cons.mpr ⟨lw_p38, List.forall_mem_cons.mpr ⟨lw_p39, List.forall_mem_cons.mpr ⟨lw_p40, List.forall_mem_cons.mpr ⟨lw_p41, List.forall_mem_cons.mpr ⟨lw_p42, List.forall_mem_cons.mpr ⟨lw_p43, List.forall_mem_cons.mpr ⟨lw_p44, List.forall_mem_cons.mpr ⟨lw_p45, List.forall_mem_cons.mpr ⟨lw_p46, List.forall_mem_cons.mpr ⟨lw_p47, fun _ h => absurd h List.not_mem_nil⟩⟩⟩⟩⟩⟩⟩⟩⟩⟩⟩⟩⟩⟩⟩⟩
theorem lw_p48 : lw_okq (⟨"TownPlayersModel", "all", "()I"⟩, 23) := ⟨⟨by decide +kernel, by decide +kernel⟩, List.mem_of_getElem? (i := 788) (by decide +kernel), List.mem_of_getElem? (i := 1042) (by decide +kernel), List.mem_of_getElem? (i := 1043) (by decide +kernel)⟩
theorem lw_p49 : lw_okq (⟨"TownPlayersModel", "takeOffsets", "([I)V"⟩, 23) := ⟨⟨by decide +kernel, by decide +kernel⟩, List.mem_of_getElem? (i := 788) (by decide +kernel), List.mem_of_getElem? (i := 1061) (by decide +kernel), List.mem_of_getElem? (i := 1062) (by decide +kernel)⟩
theorem lw_p50 : lw_okq (⟨"TownPlayersModel", "makeRound", "([I)I"⟩, 23) := ⟨⟨by decide +kernel, by decide +kernel⟩, List.mem_of_getElem? (i := 788) (by decide +kernel), List.mem_of_getElem? (i := 1065) (by decide +kernel), List.mem_of_getElem? (i := 1066) (by decide +kernel)⟩
theorem lw_p51 : lw_okq (⟨"TownPlayersModel", "no", "()I"⟩, 23) := ⟨⟨by decide +kernel, by decide +kernel⟩, List.mem_of_getElem? (i := 788) (by decide +kernel), List.mem_of_getElem? (i := 1076) (by decide +kernel), List.mem_of_getElem? (i := 1077) (by decide +kernel)⟩
theorem lw_p52 : lw_okq (⟨"TownPlayersModel", "findBest", "()V"⟩, 23) := ⟨⟨by decide +kernel, by decide +kernel⟩, List.mem_of_getElem? (i := 788) (by decide +kernel), List.mem_of_getElem? (i := 1094) (by decide +kernel), List.mem_of_getElem? (i := 1095) (by decide +kernel)⟩
theorem lw_p53 : lw_okq (⟨"TownPlayersModel", "putAll", "(I)Z"⟩, 23) := ⟨⟨by decide +kernel, by decide +kernel⟩, List.mem_of_getElem? (i := 788) (by decide +kernel), List.mem_of_getElem? (i := 1098) (by decide +kernel), List.mem_of_getElem? (i := 1099) (by decide +kernel)⟩
theorem lw_p54 : lw_okq (⟨"TownPlayersModel", "leastLoud", "()I"⟩, 23) := ⟨⟨by decide +kernel, by decide +kernel⟩, List.mem_of_getElem? (i := 788) (by decide +kernel), List.mem_of_getElem? (i := 1102) (by decide +kernel), List.mem_of_getElem? (i := 1103) (by decide +kernel)⟩
theorem lw_p55 : lw_okq (⟨"TownPlayersModel", "look", "(I)V"⟩, 23) := ⟨⟨by decide +kernel, by decide +kernel⟩, List.mem_of_getElem? (i := 788) (by decide +kernel), List.mem_of_getElem? (i := 1132) (by decide +kernel), List.mem_of_getElem? (i := 1133) (by decide +kernel)⟩
theorem lw_p56 : lw_okq (⟨"TownPlayersModel", "readsItem", "()Z"⟩, 23) := ⟨⟨by decide +kernel, by decide +kernel⟩, List.mem_of_getElem? (i := 788) (by decide +kernel), List.mem_of_getElem? (i := 1146) (by decide +kernel), List.mem_of_getElem? (i := 1147) (by decide +kernel)⟩
theorem lw_p57 : lw_okq (⟨"TownPlayersModel", "isWord", "(IIIIII)Z"⟩, 23) := ⟨⟨by decide +kernel, by decide +kernel⟩, List.mem_of_getElem? (i := 788) (by decide +kernel), List.mem_of_getElem? (i := 1150) (by decide +kernel), List.mem_of_getElem? (i := 1151) (by decide +kernel)⟩
theorem lw_p58 : lw_okq (⟨"TownPlayersModel", "readsOneOf", "(III)Z"⟩, 23) := ⟨⟨by decide +kernel, by decide +kernel⟩, List.mem_of_getElem? (i := 788) (by decide +kernel), List.mem_of_getElem? (i := 1154) (by decide +kernel), List.mem_of_getElem? (i := 1155) (by decide +kernel)⟩
theorem lw_p59 : lw_okq (⟨"TownPlayersModel", "readsPlace", "(I)Z"⟩, 23) := ⟨⟨by decide +kernel, by decide +kernel⟩, List.mem_of_getElem? (i := 788) (by decide +kernel), List.mem_of_getElem? (i := 1158) (by decide +kernel), List.mem_of_getElem? (i := 1159) (by decide +kernel)⟩
theorem lw_p60 : lw_okq (⟨"TownPlayersModel", "goOn", "()V"⟩, 23) := ⟨⟨by decide +kernel, by decide +kernel⟩, List.mem_of_getElem? (i := 788) (by decide +kernel), List.mem_of_getElem? (i := 1162) (by decide +kernel), List.mem_of_getElem? (i := 1163) (by decide +kernel)⟩
theorem lw_p61 : lw_okq (⟨"TownPlayersModel", "takes", "(II)Z"⟩, 23) := ⟨⟨by decide +kernel, by decide +kernel⟩, List.mem_of_getElem? (i := 788) (by decide +kernel), List.mem_of_getElem? (i := 1166) (by decide +kernel), List.mem_of_getElem? (i := 1167) (by decide +kernel)⟩
theorem lw_p62 : lw_okq (⟨"TownPlayersModel", "readsPlayer", "()Z"⟩, 23) := ⟨⟨by decide +kernel, by decide +kernel⟩, List.mem_of_getElem? (i := 788) (by decide +kernel), List.mem_of_getElem? (i := 1170) (by decide +kernel), List.mem_of_getElem? (i := 1171) (by decide +kernel)⟩
theorem lw_p63 : lw_okq (⟨"TownPlayersModel", "isTakenThen", "(I)Z"⟩, 23) := ⟨⟨by decide +kernel, by decide +kernel⟩, List.mem_of_getElem? (i := 788) (by decide +kernel), List.mem_of_getElem? (i := 1174) (by decide +kernel), List.mem_of_getElem? (i := 1175) (by decide +kernel)⟩
def lw_privs_4 : List (MethodName × Nat) := [(⟨"TownPlayersModel", "all", "()I"⟩, 23), (⟨"TownPlayersModel", "takeOffsets", "([I)V"⟩, 23), (⟨"TownPlayersModel", "makeRound", "([I)I"⟩, 23), (⟨"TownPlayersModel", "no", "()I"⟩, 23), (⟨"TownPlayersModel", "findBest", "()V"⟩, 23), (⟨"TownPlayersModel", "putAll", "(I)Z"⟩, 23), (⟨"TownPlayersModel", "leastLoud", "()I"⟩, 23), (⟨"TownPlayersModel", "look", "(I)V"⟩, 23), (⟨"TownPlayersModel", "readsItem", "()Z"⟩, 23), (⟨"TownPlayersModel", "isWord", "(IIIIII)Z"⟩, 23), (⟨"TownPlayersModel", "readsOneOf", "(III)Z"⟩, 23), (⟨"TownPlayersModel", "readsPlace", "(I)Z"⟩, 23), (⟨"TownPlayersModel", "goOn", "()V"⟩, 23), (⟨"TownPlayersModel", "takes", "(II)Z"⟩, 23), (⟨"TownPlayersModel", "readsPlayer", "()Z"⟩, 23), (⟨"TownPlayersModel", "isTakenThen", "(I)Z"⟩, 23)]
theorem lw_r4 : ∀ q ∈ lw_privs_4, lw_okq q := List.forall_mem_cons.mpr ⟨lw_p48, List.forall_mem_cons.mpr ⟨lw_p49, List.forall_mem_cons.mpr ⟨lw_p50, List.forall_mem_cons.mpr ⟨lw_p51, List.forall_mem_cons.mpr ⟨lw_p52, List.forall_mem_cons.mpr ⟨lw_p53, List.forall_mem_cons.mpr ⟨lw_p54, List.forall_mem_cons.mpr ⟨lw_p55, List.forall_mem_cons.mpr ⟨lw_p56, List.forall_mem_cons.mpr ⟨lw_p57, List.forall_mem_cons.mpr ⟨lw_p58, List.forall_mem_cons.mpr ⟨lw_p59, List.forall_mem_cons.mpr ⟨lw_p60, List.forall_mem_cons.mpr ⟨lw_p61, List.forall_mem_cons.mpr ⟨lw_p62, List.forall_mem_cons.mpr ⟨lw_p63, fun _ h => absurd h List.not_mem_nil⟩⟩⟩⟩⟩⟩⟩⟩⟩⟩⟩⟩⟩⟩⟩⟩
theorem lw_p64 : lw_okq (⟨"TownPlayersModel", "readsOffset", "()Z"⟩, 23) := ⟨⟨by decide +kernel, by decide +kernel⟩, List.mem_of_getElem? (i := 788) (by decide +kernel), List.mem_of_getElem? (i := 1178) (by decide +kernel), List.mem_of_getElem? (i := 1179) (by decide +kernel)⟩
theorem lw_p65 : lw_okq (⟨"TownPlayersModel", "counted", "(I)I"⟩, 23) := ⟨⟨by decide +kernel, by decide +kernel⟩, List.mem_of_getElem? (i := 788) (by decide +kernel), List.mem_of_getElem? (i := 1199) (by decide +kernel), List.mem_of_getElem? (i := 1200) (by decide +kernel)⟩
theorem lw_p66 : lw_okq (⟨"TownPlayersModel", "sums", "(JII)J"⟩, 23) := ⟨⟨by decide +kernel, by decide +kernel⟩, List.mem_of_getElem? (i := 788) (by decide +kernel), List.mem_of_getElem? (i := 1209) (by decide +kernel), List.mem_of_getElem? (i := 1210) (by decide +kernel)⟩
def lw_privs_5 : List (MethodName × Nat) := [(⟨"TownPlayersModel", "readsOffset", "()Z"⟩, 23), (⟨"TownPlayersModel", "counted", "(I)I"⟩, 23), (⟨"TownPlayersModel", "sums", "(JII)J"⟩, 23)]
theorem lw_r5 : ∀ q ∈ lw_privs_5, lw_okq q := List.forall_mem_cons.mpr ⟨lw_p64, List.forall_mem_cons.mpr ⟨lw_p65, List.forall_mem_cons.mpr ⟨lw_p66, fun _ h => absurd h List.not_mem_nil⟩⟩⟩
def lw_privs : List (MethodName × Nat) := lw_privs_1 ++ (lw_privs_2 ++ (lw_privs_3 ++ (lw_privs_4 ++ (lw_privs_5))))
def lw_tbl : List Cond := k2_sels lw_privs ++ tables_1
theorem lw_privs_ok : ∀ q ∈ lw_privs, lw_okq q := by
  show ∀ q ∈ lw_privs_1 ++ (lw_privs_2 ++ (lw_privs_3 ++ (lw_privs_4 ++ (lw_privs_5)))), lw_okq q
  exact List.forall_mem_append.mpr ⟨lw_r1, List.forall_mem_append.mpr ⟨lw_r2, List.forall_mem_append.mpr ⟨lw_r3, List.forall_mem_append.mpr ⟨lw_r4, lw_r5⟩⟩⟩⟩
-- ===== end of PART A; then your names; then what follows =====
def RX0 : String := "TownPlayers$Band"
def TX0 : u_T := fun k => match k with
  | 0 => ("TownPlayers$Band", "players", "I", false)
  | 1 => ("TownPlayers$Band", "kinds", "[I", true)
  | 2 => ("TownPlayers$Band", "windows", "[I", true)
  | 3 => ("TownPlayers$Band", "louds", "[I", true)
  | 4 => ("TownPlayers$Band", "offsets", "[I", true)
  | 5 => ("TownPlayers$Band", "follows", "[I", true)
  | 6 => ("TownPlayers$Band", "nextOffsets", "[I", true)
  | 7 => ("TownPlayers$Band", "caught", "I", false)
  | 8 => ("TownPlayers$Band", "pasts", "I", false)
  | _ => ("TownPlayers$Band", "pastOffsets", "[I", true)
def tyX0 : Nat → FieldType := fun k => match k with
  | 0 => .int
  | 1 => .array .int
  | 2 => .array .int
  | 3 => .array .int
  | 4 => .array .int
  | 5 => .array .int
  | 6 => .array .int
  | 7 => .int
  | 8 => .int
  | _ => .array .int
abbrev wsX00 : List Cond := u_ws RX0 TX0 10
theorem nmX0 : ∀ a, a < 10 → ∀ b, b < 10 → a ≠ b → (TX0 a).2.1 ≠ (TX0 b).2.1 := by decide +kernel
theorem tyX0_ok : ∀ k, k < 10 → parseFieldDescriptor (TX0 k).2.2.1 = some (tyX0 k) := by decide +kernel
abbrev cX0_init : ByteArray := prog_2_method_1_code
def yX0_init : MethodName := ⟨RX0, "<init>", "()V"⟩
abbrev cX0_makeEmpty : ByteArray := prog_2_method_2_code
def yX0_makeEmpty : MethodName := ⟨RX0, "makeEmpty", "()V"⟩
abbrev cX0_becomeLike : ByteArray := prog_2_method_3_code
def yX0_becomeLike : MethodName := ⟨RX0, "becomeLike", "(LTownPlayers$Band;)V"⟩
abbrev cX0_playsAt : ByteArray := prog_2_method_4_code
def yX0_playsAt : MethodName := ⟨RX0, "playsAt", "(I)Z"⟩
abbrev cX0_addPlayer : ByteArray := prog_2_method_5_code
def yX0_addPlayer : MethodName := ⟨RX0, "addPlayer", "(III)I"⟩
abbrev cX0_lateOf : ByteArray := prog_2_method_6_code
def yX0_lateOf : MethodName := ⟨RX0, "lateOf", "(I)I"⟩
abbrev cX0_advance : ByteArray := prog_2_method_7_code
def yX0_advance : MethodName := ⟨RX0, "advance", "(LTownPlayers$Streets;)I"⟩
abbrev cX0_rememberOffsets : ByteArray := prog_2_method_8_code
def yX0_rememberOffsets : MethodName := ⟨RX0, "rememberOffsets", "()V"⟩
abbrev cX0_recallOffsets : ByteArray := prog_2_method_9_code
def yX0_recallOffsets : MethodName := ⟨RX0, "recallOffsets", "()V"⟩
abbrev cX0_playersUnlike : ByteArray := prog_2_method_10_code
def yX0_playersUnlike : MethodName := ⟨RX0, "playersUnlike", "(LTownPlayers$Band;)I"⟩
abbrev cX0_digestOn : ByteArray := prog_2_method_11_code
def yX0_digestOn : MethodName := ⟨RX0, "digestOn", "(JLTownPlayers$Streets;)J"⟩
def RX1 : String := "TownPlayers$Hearing"
def TX1 : u_T := fun k => match k with
  | 0 => ("TownPlayers$Hearing", "size", "I", false)
  | 1 => ("TownPlayers$Hearing", "who", "[I", true)
  | 2 => ("TownPlayers$Hearing", "takes", "[I", true)
  | _ => ("TownPlayers$Hearing", "loudness", "[I", true)
def tyX1 : Nat → FieldType := fun k => match k with
  | 0 => .int
  | 1 => .array .int
  | 2 => .array .int
  | _ => .array .int
abbrev wsX10 : List Cond := u_ws RX1 TX1 4
theorem nmX1 : ∀ a, a < 4 → ∀ b, b < 4 → a ≠ b → (TX1 a).2.1 ≠ (TX1 b).2.1 := by decide +kernel
theorem tyX1_ok : ∀ k, k < 4 → parseFieldDescriptor (TX1 k).2.2.1 = some (tyX1 k) := by decide +kernel
abbrev cX1_init : ByteArray := prog_3_method_1_code
def yX1_init : MethodName := ⟨RX1, "<init>", "()V"⟩
abbrev cX1_listen : ByteArray := prog_3_method_2_code
def yX1_listen : MethodName := ⟨RX1, "listen", "(LTownPlayers$Streets;LTownPlayers$Band;I)V"⟩
abbrev cX1_add : ByteArray := prog_3_method_3_code
def yX1_add : MethodName := ⟨RX1, "add", "(III)V"⟩
abbrev cX1_timeOf : ByteArray := prog_3_method_4_code
def yX1_timeOf : MethodName := ⟨RX1, "timeOf", "(LTownPlayers$Band;I)I"⟩
abbrev cX1_spreadAt : ByteArray := prog_3_method_5_code
def yX1_spreadAt : MethodName := ⟨RX1, "spreadAt", "(LTownPlayers$Streets;LTownPlayers$Band;I)I"⟩
def RX2 : String := "TownPlayers$Reader"
def TX2 : u_T := fun k => match k with
  | 0 => ("TownPlayers$Reader", "bytes", "[B", false)
  | 1 => ("TownPlayers$Reader", "size", "I", false)
  | 2 => ("TownPlayers$Reader", "place", "I", false)
  | 3 => ("TownPlayers$Reader", "start", "I", false)
  | 4 => ("TownPlayers$Reader", "token", "I", false)
  | 5 => ("TownPlayers$Reader", "value", "I", false)
  | _ => ("TownPlayers$Reader", "fault", "I", false)
def tyX2 : Nat → FieldType := fun k => match k with
  | 0 => .array .byte
  | 1 => .int
  | 2 => .int
  | 3 => .int
  | 4 => .int
  | 5 => .int
  | _ => .int
abbrev wsX20 : List Cond := u_ws RX2 TX2 7
theorem nmX2 : ∀ a, a < 7 → ∀ b, b < 7 → a ≠ b → (TX2 a).2.1 ≠ (TX2 b).2.1 := by decide +kernel
theorem tyX2_ok : ∀ k, k < 7 → parseFieldDescriptor (TX2 k).2.2.1 = some (tyX2 k) := by decide +kernel
abbrev cX2_init : ByteArray := prog_4_method_1_code
def yX2_init : MethodName := ⟨RX2, "<init>", "()V"⟩
abbrev cX2_readTown : ByteArray := prog_4_method_2_code
def yX2_readTown : MethodName := ⟨RX2, "readTown", "([BILTownPlayers$Streets;LTownPlayers$Band;)I"⟩
abbrev cX2_readItem : ByteArray := prog_4_method_3_code
def yX2_readItem : MethodName := ⟨RX2, "readItem", "(LTownPlayers$Streets;LTownPlayers$Band;)Z"⟩
abbrev cX2_readWindow : ByteArray := prog_4_method_4_code
def yX2_readWindow : MethodName := ⟨RX2, "readWindow", "(LTownPlayers$Streets;)Z"⟩
abbrev cX2_readEar : ByteArray := prog_4_method_5_code
def yX2_readEar : MethodName := ⟨RX2, "readEar", "(LTownPlayers$Streets;)Z"⟩
abbrev cX2_readMill : ByteArray := prog_4_method_6_code
def yX2_readMill : MethodName := ⟨RX2, "readMill", "(LTownPlayers$Streets;)Z"⟩
abbrev cX2_readSlow : ByteArray := prog_4_method_7_code
def yX2_readSlow : MethodName := ⟨RX2, "readSlow", "(LTownPlayers$Streets;)Z"⟩
abbrev cX2_readPlayer : ByteArray := prog_4_method_8_code
def yX2_readPlayer : MethodName := ⟨RX2, "readPlayer", "(LTownPlayers$Streets;LTownPlayers$Band;)Z"⟩
abbrev cX2_readOffset : ByteArray := prog_4_method_9_code
def yX2_readOffset : MethodName := ⟨RX2, "readOffset", "(LTownPlayers$Band;)Z"⟩
abbrev cX2_takeNumber : ByteArray := prog_4_method_10_code
def yX2_takeNumber : MethodName := ⟨RX2, "takeNumber", "(II)Z"⟩
abbrev cX2_isNumber : ByteArray := prog_4_method_11_code
def yX2_isNumber : MethodName := ⟨RX2, "isNumber", "(II)Z"⟩
abbrev cX2_takeStop : ByteArray := prog_4_method_12_code
def yX2_takeStop : MethodName := ⟨RX2, "takeStop", "()Z"⟩
abbrev cX2_takeToken : ByteArray := prog_4_method_13_code
def yX2_takeToken : MethodName := ⟨RX2, "takeToken", "()V"⟩
abbrev cX2_takeWord : ByteArray := prog_4_method_14_code
def yX2_takeWord : MethodName := ⟨RX2, "takeWord", "()V"⟩
abbrev cX2_takeFigures : ByteArray := prog_4_method_15_code
def yX2_takeFigures : MethodName := ⟨RX2, "takeFigures", "()V"⟩
abbrev cX2_takeSign : ByteArray := prog_4_method_16_code
def yX2_takeSign : MethodName := ⟨RX2, "takeSign", "()V"⟩
abbrev cX2_isWord : ByteArray := prog_4_method_17_code
def yX2_isWord : MethodName := ⟨RX2, "isWord", "(Ljava/lang/String;)Z"⟩
abbrev cX2_isLetter : ByteArray := prog_4_method_18_code
def yX2_isLetter : MethodName := ⟨RX2, "isLetter", "(B)Z"⟩
abbrev cX2_isFigure : ByteArray := prog_4_method_19_code
def yX2_isFigure : MethodName := ⟨RX2, "isFigure", "(B)Z"⟩
def RX3 : String := "TownPlayers$Seating"
def TX3 : u_T := fun k => match k with
  | 0 => ("TownPlayers$Seating", "chosen", "[I", true)
  | 1 => ("TownPlayers$Seating", "loudSoFar", "[I", true)
  | 2 => ("TownPlayers$Seating", "chosenLoud", "I", false)
  | _ => ("TownPlayers$Seating", "chosenSpread", "I", false)
def tyX3 : Nat → FieldType := fun k => match k with
  | 0 => .array .int
  | 1 => .array .int
  | 2 => .int
  | _ => .int
abbrev wsX30 : List Cond := u_ws RX3 TX3 4
theorem nmX3 : ∀ a, a < 4 → ∀ b, b < 4 → a ≠ b → (TX3 a).2.1 ≠ (TX3 b).2.1 := by decide +kernel
theorem tyX3_ok : ∀ k, k < 4 → parseFieldDescriptor (TX3 k).2.2.1 = some (tyX3 k) := by decide +kernel
abbrev cX3_init : ByteArray := prog_5_method_1_code
def yX3_init : MethodName := ⟨RX3, "<init>", "()V"⟩
abbrev cX3_search : ByteArray := prog_5_method_2_code
def yX3_search : MethodName := ⟨RX3, "search", "(LTownPlayers$Streets;LTownPlayers$Band;LTownPlayers$Hearing;)V"⟩
abbrev cX3_nextFree : ByteArray := prog_5_method_3_code
def yX3_nextFree : MethodName := ⟨RX3, "nextFree", "(LTownPlayers$Streets;LTownPlayers$Band;I)I"⟩
abbrev cX3_judge : ByteArray := prog_5_method_4_code
def yX3_judge : MethodName := ⟨RX3, "judge", "(LTownPlayers$Streets;LTownPlayers$Band;LTownPlayers$Hearing;I)V"⟩
abbrev cX3_leastLoud : ByteArray := prog_5_method_5_code
def yX3_leastLoud : MethodName := ⟨RX3, "leastLoud", "(LTownPlayers$Streets;LTownPlayers$Band;I)I"⟩
def RX4 : String := "TownPlayers$Streets"
def TX4 : u_T := fun k => match k with
  | 0 => ("TownPlayers$Streets", "windows", "I", false)
  | 1 => ("TownPlayers$Streets", "windowX", "[I", true)
  | 2 => ("TownPlayers$Streets", "windowY", "[I", true)
  | 3 => ("TownPlayers$Streets", "ears", "I", false)
  | 4 => ("TownPlayers$Streets", "earX", "[I", true)
  | 5 => ("TownPlayers$Streets", "earY", "[I", true)
  | 6 => ("TownPlayers$Streets", "millX", "I", false)
  | 7 => ("TownPlayers$Streets", "millY", "I", false)
  | 8 => ("TownPlayers$Streets", "slow", "I", false)
  | 9 => ("TownPlayers$Streets", "windX", "I", false)
  | _ => ("TownPlayers$Streets", "windY", "I", false)
def tyX4 : Nat → FieldType := fun k => match k with
  | 0 => .int
  | 1 => .array .int
  | 2 => .array .int
  | 3 => .int
  | 4 => .array .int
  | 5 => .array .int
  | 6 => .int
  | 7 => .int
  | 8 => .int
  | 9 => .int
  | _ => .int
abbrev wsX40 : List Cond := u_ws RX4 TX4 11
theorem nmX4 : ∀ a, a < 11 → ∀ b, b < 11 → a ≠ b → (TX4 a).2.1 ≠ (TX4 b).2.1 := by decide +kernel
theorem tyX4_ok : ∀ k, k < 11 → parseFieldDescriptor (TX4 k).2.2.1 = some (tyX4 k) := by decide +kernel
abbrev cX4_init : ByteArray := prog_6_method_1_code
def yX4_init : MethodName := ⟨RX4, "<init>", "()V"⟩
abbrev cX4_makeEmpty : ByteArray := prog_6_method_2_code
def yX4_makeEmpty : MethodName := ⟨RX4, "makeEmpty", "()V"⟩
abbrev cX4_becomeLike : ByteArray := prog_6_method_3_code
def yX4_becomeLike : MethodName := ⟨RX4, "becomeLike", "(LTownPlayers$Streets;)V"⟩
abbrev cX4_addWindow : ByteArray := prog_6_method_4_code
def yX4_addWindow : MethodName := ⟨RX4, "addWindow", "(II)I"⟩
abbrev cX4_addEar : ByteArray := prog_6_method_5_code
def yX4_addEar : MethodName := ⟨RX4, "addEar", "(II)I"⟩
abbrev cX4_buildMill : ByteArray := prog_6_method_6_code
def yX4_buildMill : MethodName := ⟨RX4, "buildMill", "(II)V"⟩
abbrev cX4_hasMill : ByteArray := prog_6_method_7_code
def yX4_hasMill : MethodName := ⟨RX4, "hasMill", "()Z"⟩
abbrev cX4_nextWindow : ByteArray := prog_6_method_8_code
def yX4_nextWindow : MethodName := ⟨RX4, "nextWindow", "(I)I"⟩
abbrev cX4_pacesToEar : ByteArray := prog_6_method_9_code
def yX4_pacesToEar : MethodName := ⟨RX4, "pacesToEar", "(II)I"⟩
abbrev cX4_pacesByMill : ByteArray := prog_6_method_10_code
def yX4_pacesByMill : MethodName := ⟨RX4, "pacesByMill", "(II)I"⟩
abbrev cX4_timeBetween : ByteArray := prog_6_method_11_code
def yX4_timeBetween : MethodName := ⟨RX4, "timeBetween", "(II)I"⟩
abbrev cX4_soundTime : ByteArray := prog_6_method_12_code
def yX4_soundTime : MethodName := ⟨RX4, "soundTime", "(II)I"⟩
abbrev cX4_mayComeFrom : ByteArray := prog_6_method_13_code
def yX4_mayComeFrom : MethodName := ⟨RX4, "mayComeFrom", "(II[I)Z"⟩
abbrev cX4_pairsParted : ByteArray := prog_6_method_14_code
def yX4_pairsParted : MethodName := ⟨RX4, "pairsParted", "(II)I"⟩
abbrev cX4_digestOn : ByteArray := prog_6_method_15_code
def yX4_digestOn : MethodName := ⟨RX4, "digestOn", "(J)J"⟩
def RX5 : String := "TownPlayers$Tuner"
def TX5 : u_T := fun k => match k with
  | 0 => ("TownPlayers$Tuner", "claims", "[I", true)
  | _ => ("TownPlayers$Tuner", "lates", "[I", true)
def tyX5 : Nat → FieldType := fun k => match k with
  | 0 => .array .int
  | _ => .array .int
abbrev wsX50 : List Cond := u_ws RX5 TX5 2
theorem nmX5 : ∀ a, a < 2 → ∀ b, b < 2 → a ≠ b → (TX5 a).2.1 ≠ (TX5 b).2.1 := by decide +kernel
theorem tyX5_ok : ∀ k, k < 2 → parseFieldDescriptor (TX5 k).2.2.1 = some (tyX5 k) := by decide +kernel
abbrev cX5_init : ByteArray := prog_7_method_1_code
def yX5_init : MethodName := ⟨RX5, "<init>", "()V"⟩
abbrev cX5_weigh : ByteArray := prog_7_method_2_code
def yX5_weigh : MethodName := ⟨RX5, "weigh", "(LTownPlayers$Streets;LTownPlayers$Band;LTownPlayers$Hearing;I)V"⟩
abbrev cX5_tunes : ByteArray := prog_7_method_3_code
def yX5_tunes : MethodName := ⟨RX5, "tunes", "(LTownPlayers$Band;I)Z"⟩
abbrev cX5_neededLate : ByteArray := prog_7_method_4_code
def yX5_neededLate : MethodName := ⟨RX5, "neededLate", "(LTownPlayers$Band;II)I"⟩
abbrev cX5_lowestLate : ByteArray := prog_7_method_5_code
def yX5_lowestLate : MethodName := ⟨RX5, "lowestLate", "(I)I"⟩
abbrev cX5_leastOffset : ByteArray := prog_7_method_6_code
def yX5_leastOffset : MethodName := ⟨RX5, "leastOffset", "(LTownPlayers$Band;I)I"⟩
def RX6 : String := "TownPlayers"
def TX6 : u_T := fun k => match k with
  | 0 => ("TownPlayers", "streets", "LTownPlayers$Streets;", true)
  | 1 => ("TownPlayers", "band", "LTownPlayers$Band;", true)
  | 2 => ("TownPlayers", "imageStreets", "[LTownPlayers$Streets;", true)
  | 3 => ("TownPlayers", "imageBands", "[LTownPlayers$Band;", true)
  | 4 => ("TownPlayers", "imageKept", "[I", true)
  | 5 => ("TownPlayers", "trialStreets", "LTownPlayers$Streets;", true)
  | 6 => ("TownPlayers", "trialBand", "LTownPlayers$Band;", true)
  | 7 => ("TownPlayers", "slippedBand", "LTownPlayers$Band;", true)
  | 8 => ("TownPlayers", "hearing", "LTownPlayers$Hearing;", true)
  | 9 => ("TownPlayers", "tuner", "LTownPlayers$Tuner;", true)
  | 10 => ("TownPlayers", "seating", "LTownPlayers$Seating;", true)
  | 11 => ("TownPlayers", "reader", "LTownPlayers$Reader;", true)
  | 12 => ("TownPlayers", "text", "[B", true)
  | 13 => ("TownPlayers", "textSize", "I", false)
  | 14 => ("TownPlayers", "noteTimes", "[I", true)
  | 15 => ("TownPlayers", "refusedBad", "I", false)
  | 16 => ("TownPlayers", "refusedNo", "I", false)
  | _ => ("TownPlayers", "refusedFull", "I", false)
def tyX6 : Nat → FieldType := fun k => match k with
  | 0 => .object "TownPlayers$Streets"
  | 1 => .object "TownPlayers$Band"
  | 2 => .array (.object "TownPlayers$Streets")
  | 3 => .array (.object "TownPlayers$Band")
  | 4 => .array .int
  | 5 => .object "TownPlayers$Streets"
  | 6 => .object "TownPlayers$Band"
  | 7 => .object "TownPlayers$Band"
  | 8 => .object "TownPlayers$Hearing"
  | 9 => .object "TownPlayers$Tuner"
  | 10 => .object "TownPlayers$Seating"
  | 11 => .object "TownPlayers$Reader"
  | 12 => .array .byte
  | 13 => .int
  | 14 => .array .int
  | 15 => .int
  | 16 => .int
  | _ => .int
abbrev wsX60 : List Cond := u_ws RX6 TX6 18
theorem nmX6 : ∀ a, a < 18 → ∀ b, b < 18 → a ≠ b → (TX6 a).2.1 ≠ (TX6 b).2.1 := by decide +kernel
theorem tyX6_ok : ∀ k, k < 18 → parseFieldDescriptor (TX6 k).2.2.1 = some (tyX6 k) := by decide +kernel
abbrev cX6_init : ByteArray := prog_1_method_1_code
def yX6_init : MethodName := ⟨RX6, "<init>", "()V"⟩
abbrev cX6_window : ByteArray := prog_1_method_2_code
def yX6_window : MethodName := ⟨RX6, "window", "(II)I"⟩
abbrev cX6_ear : ByteArray := prog_1_method_3_code
def yX6_ear : MethodName := ⟨RX6, "ear", "(II)I"⟩
abbrev cX6_mill : ByteArray := prog_1_method_4_code
def yX6_mill : MethodName := ⟨RX6, "mill", "(II)I"⟩
abbrev cX6_put : ByteArray := prog_1_method_5_code
def yX6_put : MethodName := ⟨RX6, "put", "(II)I"⟩
abbrev cX6_player : ByteArray := prog_1_method_6_code
def yX6_player : MethodName := ⟨RX6, "player", "(III)I"⟩
abbrev cX6_offset : ByteArray := prog_1_method_7_code
def yX6_offset : MethodName := ⟨RX6, "offset", "(II)I"⟩
abbrev cX6_late : ByteArray := prog_1_method_8_code
def yX6_late : MethodName := ⟨RX6, "late", "(II)I"⟩
abbrev cX6_sound : ByteArray := prog_1_method_9_code
def yX6_sound : MethodName := ⟨RX6, "sound", "(II)I"⟩
abbrev cX6_type : ByteArray := prog_1_method_10_code
def yX6_type : MethodName := ⟨RX6, "type", "(JI)I"⟩
abbrev cX6_clear : ByteArray := prog_1_method_11_code
def yX6_clear : MethodName := ⟨RX6, "clear", "()I"⟩
abbrev cX6_read : ByteArray := prog_1_method_12_code
def yX6_read : MethodName := ⟨RX6, "read", "()I"⟩
abbrev cX6_heard : ByteArray := prog_1_method_13_code
def yX6_heard : MethodName := ⟨RX6, "heard", "(III)I"⟩
abbrev cX6_loud : ByteArray := prog_1_method_14_code
def yX6_loud : MethodName := ⟨RX6, "loud", "(II)I"⟩
abbrev cX6_spread : ByteArray := prog_1_method_15_code
def yX6_spread : MethodName := ⟨RX6, "spread", "(I)I"⟩
abbrev cX6_together : ByteArray := prog_1_method_16_code
def yX6_together : MethodName := ⟨RX6, "together", "(I)I"⟩
abbrev cX6_tuned : ByteArray := prog_1_method_17_code
def yX6_tuned : MethodName := ⟨RX6, "tuned", "(II)I"⟩
abbrev cX6_clash : ByteArray := prog_1_method_18_code
def yX6_clash : MethodName := ⟨RX6, "clash", "(I)I"⟩
abbrev cX6_leftOut : ByteArray := prog_1_method_19_code
def yX6_leftOut : MethodName := ⟨RX6, "leftOut", "(I)I"⟩
abbrev cX6_follow : ByteArray := prog_1_method_20_code
def yX6_follow : MethodName := ⟨RX6, "follow", "(II)I"⟩
abbrev cX6_round : ByteArray := prog_1_method_21_code
def yX6_round : MethodName := ⟨RX6, "round", "()I"⟩
abbrev cX6_undo : ByteArray := prog_1_method_22_code
def yX6_undo : MethodName := ⟨RX6, "undo", "()I"⟩
abbrev cX6_settles : ByteArray := prog_1_method_23_code
def yX6_settles : MethodName := ⟨RX6, "settles", "()I"⟩
abbrev cX6_slip : ByteArray := prog_1_method_24_code
def yX6_slip : MethodName := ⟨RX6, "slip", "(III)I"⟩
abbrev cX6_best : ByteArray := prog_1_method_25_code
def yX6_best : MethodName := ⟨RX6, "best", "(I)I"⟩
abbrev cX6_wrong : ByteArray := prog_1_method_26_code
def yX6_wrong : MethodName := ⟨RX6, "wrong", "(IIII)I"⟩
abbrev cX6_nextEar : ByteArray := prog_1_method_27_code
def yX6_nextEar : MethodName := ⟨RX6, "nextEar", "(I)I"⟩
abbrev cX6_drawn : ByteArray := prog_1_method_28_code
def yX6_drawn : MethodName := ⟨RX6, "drawn", "(I)I"⟩
abbrev cX6_image : ByteArray := prog_1_method_29_code
def yX6_image : MethodName := ⟨RX6, "image", "(I)I"⟩
abbrev cX6_from : ByteArray := prog_1_method_30_code
def yX6_from : MethodName := ⟨RX6, "from", "(I)I"⟩
abbrev cX6_status : ByteArray := prog_1_method_31_code
def yX6_status : MethodName := ⟨RX6, "status", "(I)I"⟩
abbrev cX6_count : ByteArray := prog_1_method_32_code
def yX6_count : MethodName := ⟨RX6, "count", "(I)I"⟩
abbrev cX6_digest : ByteArray := prog_1_method_33_code
def yX6_digest : MethodName := ⟨RX6, "digest", "()J"⟩
abbrev cX6_howMany : ByteArray := prog_1_method_34_code
def yX6_howMany : MethodName := ⟨RX6, "howMany", "(I)I"⟩
abbrev cX6_isTogether : ByteArray := prog_1_method_35_code
def yX6_isTogether : MethodName := ⟨RX6, "isTogether", "(I)Z"⟩
abbrev cX6_everyPlayer : ByteArray := prog_1_method_36_code
def yX6_everyPlayer : MethodName := ⟨RX6, "everyPlayer", "()I"⟩
abbrev cX6_hasWindow : ByteArray := prog_1_method_37_code
def yX6_hasWindow : MethodName := ⟨RX6, "hasWindow", "(I)Z"⟩
abbrev cX6_hasEar : ByteArray := prog_1_method_38_code
def yX6_hasEar : MethodName := ⟨RX6, "hasEar", "(I)Z"⟩
abbrev cX6_hasPlayer : ByteArray := prog_1_method_39_code
def yX6_hasPlayer : MethodName := ⟨RX6, "hasPlayer", "(I)Z"⟩
abbrev cX6_refuseBad : ByteArray := prog_1_method_40_code
def yX6_refuseBad : MethodName := ⟨RX6, "refuseBad", "(I)I"⟩
abbrev cX6_refuseNo : ByteArray := prog_1_method_41_code
def yX6_refuseNo : MethodName := ⟨RX6, "refuseNo", "()I"⟩
abbrev cX6_refuseFull : ByteArray := prog_1_method_42_code
def yX6_refuseFull : MethodName := ⟨RX6, "refuseFull", "()I"⟩
abbrev cX6_isWithin : ByteArray := prog_1_method_43_code
def yX6_isWithin : MethodName := ⟨RX6, "isWithin", "(III)Z"⟩
abbrev cX6_isPlace : ByteArray := prog_1_method_44_code
def yX6_isPlace : MethodName := ⟨RX6, "isPlace", "(II)Z"⟩
abbrev cX6_isTime : ByteArray := prog_1_method_45_code
def yX6_isTime : MethodName := ⟨RX6, "isTime", "(I)Z"⟩
abbrev cX6_holds : ByteArray := prog_1_method_46_code
def yX6_holds : MethodName := ⟨RX6, "holds", "(II)Z"⟩
abbrev cX6_heldOffset : ByteArray := prog_1_method_47_code
def yX6_heldOffset : MethodName := ⟨RX6, "heldOffset", "(I)I"⟩
abbrev cX6_apart : ByteArray := prog_1_method_48_code
def yX6_apart : MethodName := ⟨RX6, "apart", "(IIII)I"⟩
abbrev cX6_copyRow : ByteArray := prog_1_method_49_code
def yX6_copyRow : MethodName := ⟨RX6, "copyRow", "([I[I)V"⟩
def RX7 : String := "TownPlayersModel"
def TX7 : u_T := fun k => match k with
  | 0 => ("TownPlayersModel", "now", "[I", true)
  | 1 => ("TownPlayersModel", "kept", "[I", true)
  | 2 => ("TownPlayersModel", "isKept", "[Z", true)
  | 3 => ("TownPlayersModel", "refused", "[I", true)
  | 4 => ("TownPlayersModel", "whose", "[I", true)
  | 5 => ("TownPlayersModel", "lasts", "[I", true)
  | 6 => ("TownPlayersModel", "loudness", "[I", true)
  | 7 => ("TownPlayersModel", "sounds", "I", false)
  | 8 => ("TownPlayersModel", "hushed", "I", false)
  | 9 => ("TownPlayersModel", "tune", "[I", true)
  | 10 => ("TownPlayersModel", "ahead", "[I", true)
  | 11 => ("TownPlayersModel", "behind", "[I", true)
  | 12 => ("TownPlayersModel", "slipped", "[I", true)
  | 13 => ("TownPlayersModel", "was", "[I", true)
  | 14 => ("TownPlayersModel", "bestPlace", "[I", true)
  | 15 => ("TownPlayersModel", "bytes", "[I", true)
  | 16 => ("TownPlayersModel", "bytesLong", "I", false)
  | 17 => ("TownPlayersModel", "tokenAt", "I", false)
  | 18 => ("TownPlayersModel", "tokenLong", "I", false)
  | 19 => ("TownPlayersModel", "token", "I", false)
  | 20 => ("TownPlayersModel", "value", "I", false)
  | 21 => ("TownPlayersModel", "next", "[I", true)
  | _ => ("TownPlayersModel", "taken", "I", false)
def tyX7 : Nat → FieldType := fun k => match k with
  | 0 => .array .int
  | 1 => .array .int
  | 2 => .array .boolean
  | 3 => .array .int
  | 4 => .array .int
  | 5 => .array .int
  | 6 => .array .int
  | 7 => .int
  | 8 => .int
  | 9 => .array .int
  | 10 => .array .int
  | 11 => .array .int
  | 12 => .array .int
  | 13 => .array .int
  | 14 => .array .int
  | 15 => .array .int
  | 16 => .int
  | 17 => .int
  | 18 => .int
  | 19 => .int
  | 20 => .int
  | 21 => .array .int
  | _ => .int
abbrev wsX70 : List Cond := u_ws RX7 TX7 23
theorem nmX7 : ∀ a, a < 23 → ∀ b, b < 23 → a ≠ b → (TX7 a).2.1 ≠ (TX7 b).2.1 := by decide +kernel
theorem tyX7_ok : ∀ k, k < 23 → parseFieldDescriptor (TX7 k).2.2.1 = some (tyX7 k) := by decide +kernel
abbrev cX7_init : ByteArray := prog_9_method_1_code
def yX7_init : MethodName := ⟨RX7, "<init>", "()V"⟩
abbrev cX7_in : ByteArray := prog_9_method_3_code
def yX7_in : MethodName := ⟨RX7, "in", "(JJJ)Z"⟩
abbrev cX7_bad : ByteArray := prog_9_method_4_code
def yX7_bad : MethodName := ⟨RX7, "bad", "(I)I"⟩
abbrev cX7_no : ByteArray := prog_9_method_5_code
def yX7_no : MethodName := ⟨RX7, "no", "()I"⟩
abbrev cX7_full : ByteArray := prog_9_method_6_code
def yX7_full : MethodName := ⟨RX7, "full", "()I"⟩
abbrev cX7_windows : ByteArray := prog_9_method_7_code
def yX7_windows : MethodName := ⟨RX7, "windows", "()I"⟩
abbrev cX7_ears : ByteArray := prog_9_method_8_code
def yX7_ears : MethodName := ⟨RX7, "ears", "()I"⟩
abbrev cX7_players : ByteArray := prog_9_method_9_code
def yX7_players : MethodName := ⟨RX7, "players", "()I"⟩
abbrev cX7_isWindow : ByteArray := prog_9_method_10_code
def yX7_isWindow : MethodName := ⟨RX7, "isWindow", "(I)Z"⟩
abbrev cX7_isEar : ByteArray := prog_9_method_11_code
def yX7_isEar : MethodName := ⟨RX7, "isEar", "(I)Z"⟩
abbrev cX7_isPlayer : ByteArray := prog_9_method_12_code
def yX7_isPlayer : MethodName := ⟨RX7, "isPlayer", "(I)Z"⟩
abbrev cX7_isPlace : ByteArray := prog_9_method_13_code
def yX7_isPlace : MethodName := ⟨RX7, "isPlace", "(II)Z"⟩
abbrev cX7_of : ByteArray := prog_9_method_14_code
def yX7_of : MethodName := ⟨RX7, "of", "(II)I"⟩
abbrev cX7_window : ByteArray := prog_9_method_15_code
def yX7_window : MethodName := ⟨RX7, "window", "(II)I"⟩
abbrev cX7_ear : ByteArray := prog_9_method_16_code
def yX7_ear : MethodName := ⟨RX7, "ear", "(II)I"⟩
abbrev cX7_mill : ByteArray := prog_9_method_17_code
def yX7_mill : MethodName := ⟨RX7, "mill", "(II)I"⟩
abbrev cX7_isNumber : ByteArray := prog_9_method_18_code
def yX7_isNumber : MethodName := ⟨RX7, "isNumber", "(II)Z"⟩
abbrev cX7_put : ByteArray := prog_9_method_19_code
def yX7_put : MethodName := ⟨RX7, "put", "(II)I"⟩
abbrev cX7_isTaken : ByteArray := prog_9_method_20_code
def yX7_isTaken : MethodName := ⟨RX7, "isTaken", "(I)Z"⟩
abbrev cX7_layPlayer : ByteArray := prog_9_method_21_code
def yX7_layPlayer : MethodName := ⟨RX7, "layPlayer", "([IIIIII)V"⟩
abbrev cX7_player : ByteArray := prog_9_method_22_code
def yX7_player : MethodName := ⟨RX7, "player", "(III)I"⟩
abbrev cX7_isOffset : ByteArray := prog_9_method_23_code
def yX7_isOffset : MethodName := ⟨RX7, "isOffset", "(I)Z"⟩
abbrev cX7_offset : ByteArray := prog_9_method_24_code
def yX7_offset : MethodName := ⟨RX7, "offset", "(II)I"⟩
abbrev cX7_lateBy : ByteArray := prog_9_method_25_code
def yX7_lateBy : MethodName := ⟨RX7, "lateBy", "(II)I"⟩
abbrev cX7_lateOf : ByteArray := prog_9_method_26_code
def yX7_lateOf : MethodName := ⟨RX7, "lateOf", "(I)I"⟩
abbrev cX7_late : ByteArray := prog_9_method_27_code
def yX7_late : MethodName := ⟨RX7, "late", "(II)I"⟩
abbrev cX7_far : ByteArray := prog_9_method_28_code
def yX7_far : MethodName := ⟨RX7, "far", "(II)I"⟩
abbrev cX7_paces : ByteArray := prog_9_method_29_code
def yX7_paces : MethodName := ⟨RX7, "paces", "(II)I"⟩
abbrev cX7_soundOf : ByteArray := prog_9_method_30_code
def yX7_soundOf : MethodName := ⟨RX7, "soundOf", "(II)I"⟩
abbrev cX7_sound : ByteArray := prog_9_method_31_code
def yX7_sound : MethodName := ⟨RX7, "sound", "(II)I"⟩
abbrev cX7_laySound : ByteArray := prog_9_method_32_code
def yX7_laySound : MethodName := ⟨RX7, "laySound", "(III)V"⟩
abbrev cX7_isAwake : ByteArray := prog_9_method_33_code
def yX7_isAwake : MethodName := ⟨RX7, "isAwake", "(I)Z"⟩
abbrev cX7_layAll : ByteArray := prog_9_method_34_code
def yX7_layAll : MethodName := ⟨RX7, "layAll", "(I)V"⟩
abbrev cX7_layOf : ByteArray := prog_9_method_35_code
def yX7_layOf : MethodName := ⟨RX7, "layOf", "(II)V"⟩
abbrev cX7_heard : ByteArray := prog_9_method_36_code
def yX7_heard : MethodName := ⟨RX7, "heard", "(III)I"⟩
abbrev cX7_loud : ByteArray := prog_9_method_37_code
def yX7_loud : MethodName := ⟨RX7, "loud", "(II)I"⟩
abbrev cX7_spreadOf : ByteArray := prog_9_method_38_code
def yX7_spreadOf : MethodName := ⟨RX7, "spreadOf", "(I)I"⟩
abbrev cX7_spread : ByteArray := prog_9_method_39_code
def yX7_spread : MethodName := ⟨RX7, "spread", "(I)I"⟩
abbrev cX7_isTogether : ByteArray := prog_9_method_40_code
def yX7_isTogether : MethodName := ⟨RX7, "isTogether", "(I)Z"⟩
abbrev cX7_isParts : ByteArray := prog_9_method_41_code
def yX7_isParts : MethodName := ⟨RX7, "isParts", "(I)Z"⟩
abbrev cX7_together : ByteArray := prog_9_method_42_code
def yX7_together : MethodName := ⟨RX7, "together", "(I)I"⟩
abbrev cX7_raiseAt : ByteArray := prog_9_method_43_code
def yX7_raiseAt : MethodName := ⟨RX7, "raiseAt", "(I)I"⟩
abbrev cX7_canTune : ByteArray := prog_9_method_44_code
def yX7_canTune : MethodName := ⟨RX7, "canTune", "(I)Z"⟩
abbrev cX7_tuned : ByteArray := prog_9_method_45_code
def yX7_tuned : MethodName := ⟨RX7, "tuned", "(II)I"⟩
abbrev cX7_all : ByteArray := prog_9_method_46_code
def yX7_all : MethodName := ⟨RX7, "all", "()I"⟩
abbrev cX7_manyIn : ByteArray := prog_9_method_47_code
def yX7_manyIn : MethodName := ⟨RX7, "manyIn", "(I)I"⟩
abbrev cX7_clash : ByteArray := prog_9_method_48_code
def yX7_clash : MethodName := ⟨RX7, "clash", "(I)I"⟩
abbrev cX7_leftOut : ByteArray := prog_9_method_49_code
def yX7_leftOut : MethodName := ⟨RX7, "leftOut", "(I)I"⟩
abbrev cX7_follow : ByteArray := prog_9_method_50_code
def yX7_follow : MethodName := ⟨RX7, "follow", "(II)I"⟩
abbrev cX7_hold : ByteArray := prog_9_method_51_code
def yX7_hold : MethodName := ⟨RX7, "hold", "(I)I"⟩
abbrev cX7_takeOffsets : ByteArray := prog_9_method_52_code
def yX7_takeOffsets : MethodName := ⟨RX7, "takeOffsets", "([I)V"⟩
abbrev cX7_makeRound : ByteArray := prog_9_method_53_code
def yX7_makeRound : MethodName := ⟨RX7, "makeRound", "([I)I"⟩
abbrev cX7_round : ByteArray := prog_9_method_54_code
def yX7_round : MethodName := ⟨RX7, "round", "()I"⟩
abbrev cX7_undo : ByteArray := prog_9_method_55_code
def yX7_undo : MethodName := ⟨RX7, "undo", "()I"⟩
abbrev cX7_settles : ByteArray := prog_9_method_56_code
def yX7_settles : MethodName := ⟨RX7, "settles", "()I"⟩
abbrev cX7_slip : ByteArray := prog_9_method_57_code
def yX7_slip : MethodName := ⟨RX7, "slip", "(III)I"⟩
abbrev cX7_putAll : ByteArray := prog_9_method_58_code
def yX7_putAll : MethodName := ⟨RX7, "putAll", "(I)Z"⟩
abbrev cX7_leastLoud : ByteArray := prog_9_method_59_code
def yX7_leastLoud : MethodName := ⟨RX7, "leastLoud", "()I"⟩
abbrev cX7_findBest : ByteArray := prog_9_method_60_code
def yX7_findBest : MethodName := ⟨RX7, "findBest", "()V"⟩
abbrev cX7_best : ByteArray := prog_9_method_61_code
def yX7_best : MethodName := ⟨RX7, "best", "(I)I"⟩
abbrev cX7_wrong : ByteArray := prog_9_method_62_code
def yX7_wrong : MethodName := ⟨RX7, "wrong", "(IIII)I"⟩
abbrev cX7_nextEar : ByteArray := prog_9_method_63_code
def yX7_nextEar : MethodName := ⟨RX7, "nextEar", "(I)I"⟩
abbrev cX7_drawn : ByteArray := prog_9_method_64_code
def yX7_drawn : MethodName := ⟨RX7, "drawn", "(I)I"⟩
abbrev cX7_type : ByteArray := prog_9_method_65_code
def yX7_type : MethodName := ⟨RX7, "type", "(JI)I"⟩
abbrev cX7_clear : ByteArray := prog_9_method_66_code
def yX7_clear : MethodName := ⟨RX7, "clear", "()I"⟩
abbrev cX7_isSmall : ByteArray := prog_9_method_67_code
def yX7_isSmall : MethodName := ⟨RX7, "isSmall", "(I)Z"⟩
abbrev cX7_isFigure : ByteArray := prog_9_method_68_code
def yX7_isFigure : MethodName := ⟨RX7, "isFigure", "(I)Z"⟩
abbrev cX7_look : ByteArray := prog_9_method_69_code
def yX7_look : MethodName := ⟨RX7, "look", "(I)V"⟩
abbrev cX7_goOn : ByteArray := prog_9_method_70_code
def yX7_goOn : MethodName := ⟨RX7, "goOn", "()V"⟩
abbrev cX7_isWord : ByteArray := prog_9_method_71_code
def yX7_isWord : MethodName := ⟨RX7, "isWord", "(IIIIII)Z"⟩
abbrev cX7_takes : ByteArray := prog_9_method_72_code
def yX7_takes : MethodName := ⟨RX7, "takes", "(II)Z"⟩
abbrev cX7_readsPlace : ByteArray := prog_9_method_73_code
def yX7_readsPlace : MethodName := ⟨RX7, "readsPlace", "(I)Z"⟩
abbrev cX7_readsOneOf : ByteArray := prog_9_method_74_code
def yX7_readsOneOf : MethodName := ⟨RX7, "readsOneOf", "(III)Z"⟩
abbrev cX7_isTakenThen : ByteArray := prog_9_method_75_code
def yX7_isTakenThen : MethodName := ⟨RX7, "isTakenThen", "(I)Z"⟩
abbrev cX7_readsPlayer : ByteArray := prog_9_method_76_code
def yX7_readsPlayer : MethodName := ⟨RX7, "readsPlayer", "()Z"⟩
abbrev cX7_readsOffset : ByteArray := prog_9_method_77_code
def yX7_readsOffset : MethodName := ⟨RX7, "readsOffset", "()Z"⟩
abbrev cX7_readsItem : ByteArray := prog_9_method_78_code
def yX7_readsItem : MethodName := ⟨RX7, "readsItem", "()Z"⟩
abbrev cX7_read : ByteArray := prog_9_method_79_code
def yX7_read : MethodName := ⟨RX7, "read", "()I"⟩
abbrev cX7_image : ByteArray := prog_9_method_80_code
def yX7_image : MethodName := ⟨RX7, "image", "(I)I"⟩
abbrev cX7_from : ByteArray := prog_9_method_81_code
def yX7_from : MethodName := ⟨RX7, "from", "(I)I"⟩
abbrev cX7_status : ByteArray := prog_9_method_82_code
def yX7_status : MethodName := ⟨RX7, "status", "(I)I"⟩
abbrev cX7_counted : ByteArray := prog_9_method_83_code
def yX7_counted : MethodName := ⟨RX7, "counted", "(I)I"⟩
abbrev cX7_count : ByteArray := prog_9_method_84_code
def yX7_count : MethodName := ⟨RX7, "count", "(I)I"⟩
abbrev cX7_sums : ByteArray := prog_9_method_85_code
def yX7_sums : MethodName := ⟨RX7, "sums", "(JII)J"⟩
abbrev cX7_digest : ByteArray := prog_9_method_86_code
def yX7_digest : MethodName := ⟨RX7, "digest", "()J"⟩
def RJ6 : String := "java/lang/Integer"
abbrev cJ6_bitCount_0f7a4 : ByteArray := prog_10_method_49_code
def yJ6_bitCount_0f7a4 : MethodName := ⟨RJ6, "bitCount", "(I)I"⟩
def RJ9 : String := "java/lang/Math"
abbrev cJ9_floorDiv_7cf53 : ByteArray := prog_11_method_47_code
def yJ9_floorDiv_7cf53 : MethodName := ⟨RJ9, "floorDiv", "(II)I"⟩
abbrev cJ9_abs_0f7a4 : ByteArray := prog_11_method_59_code
def yJ9_abs_0f7a4 : MethodName := ⟨RJ9, "abs", "(I)I"⟩
abbrev cJ9_max_7cf53 : ByteArray := prog_11_method_65_code
def yJ9_max_7cf53 : MethodName := ⟨RJ9, "max", "(II)I"⟩
abbrev cJ9_min_7cf53 : ByteArray := prog_11_method_69_code
def yJ9_min_7cf53 : MethodName := ⟨RJ9, "min", "(II)I"⟩
def RJ0 : String := "java/lang/String"
abbrev cJ0_length_8abf5 : ByteArray := prog_12_method_54_code
def yJ0_length_8abf5 : MethodName := ⟨RJ0, "length", "()I"⟩
abbrev cJ0_charAt_5068e : ByteArray := prog_12_method_56_code
def yJ0_charAt_5068e : MethodName := ⟨RJ0, "charAt", "(I)C"⟩
abbrev cJ0_coder_7d493 : ByteArray := prog_12_method_152_code
def yJ0_coder_7d493 : MethodName := ⟨RJ0, "coder", "()B"⟩
abbrev cJ0_isLatin1_aae02 : ByteArray := prog_12_method_154_code
def yJ0_isLatin1_aae02 : MethodName := ⟨RJ0, "isLatin1", "()Z"⟩
abbrev cJ0_checkIndex_df160 : ByteArray := prog_12_method_155_code
def yJ0_checkIndex_df160 : MethodName := ⟨RJ0, "checkIndex", "(II)V"⟩
def RJ1 : String := "java/lang/StringLatin1"
abbrev cJ1_charAt_3b067 : ByteArray := prog_13_method_2_code
def yJ1_charAt_3b067 : MethodName := ⟨RJ1, "charAt", "([BI)C"⟩
def RJ2 : String := "java/lang/StringUTF16"
abbrev cJ2_getChar_3b067 : ByteArray := prog_14_method_5_code
def yJ2_getChar_3b067 : MethodName := ⟨RJ2, "getChar", "([BI)C"⟩
abbrev cJ2_length_9d52b : ByteArray := prog_14_method_6_code
def yJ2_length_9d52b : MethodName := ⟨RJ2, "length", "([B)I"⟩
abbrev cJ2_charAt_3b067 : ByteArray := prog_14_method_83_code
def yJ2_charAt_3b067 : MethodName := ⟨RJ2, "charAt", "([BI)C"⟩
abbrev cJ2_checkIndex_2214a : ByteArray := prog_14_method_91_code
def yJ2_checkIndex_2214a : MethodName := ⟨RJ2, "checkIndex", "(I[B)V"⟩
def RJ10 : String := "java/lang/System"
def RJ3 : String := "jdk/internal/util/Preconditions"
abbrev cJ3_checkIndex_8e157 : ByteArray := prog_16_method_11_code
def yJ3_checkIndex_8e157 : MethodName := ⟨RJ3, "checkIndex", "(IILjava/util/function/BiFunction;)I"⟩
def RL : String := "TownPlayersLaw"
abbrev cL_law : ByteArray := code
def yL_law : MethodName := ⟨RL, "law", "([I)Z"⟩
abbrev vwCl : List vw_C := [(RX0, TX0, 10), (RX1, TX1, 4), (RX2, TX2, 7), (RX3, TX3, 4), (RX4, TX4, 11), (RX5, TX5, 2), (RX6, TX6, 18), (RX7, TX7, 23)]
